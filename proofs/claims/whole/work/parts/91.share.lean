/-! shares: what one tick back gives -/
theorem sm_mulr (f : Int → Int) (u : Int) : ∀ N : Nat, sm (fun i => f i * u) N = sm f N * u
  | 0 => (Int.zero_mul u).symm
  | N + 1 => by
    show sm (fun i => f i * u) N + f N * u = (sm f N + f N) * u
    rw [sm_mulr f u N, Int.add_mul]
theorem sm_mull (f : Int → Int) (u : Int) : ∀ N : Nat, sm (fun i => u * f i) N = u * sm f N
  | 0 => (Int.mul_zero u).symm
  | N + 1 => by
    show sm (fun i => u * f i) N + u * f N = u * (sm f N + f N)
    rw [sm_mull f u N, Int.mul_add]
theorem sm_nn {f : Int → Int} : ∀ N : Nat, (∀ j : Nat, j < N → 0 ≤ f j) → 0 ≤ sm f N
  | 0, _ => Int.le_refl _
  | N + 1, h => by
    have ih := sm_nn N (fun j hj => h j (by omega))
    have := h N (by omega)
    show 0 ≤ sm f N + f N
    omega
/-- all the squares around a cell are somebody's, or lie on the rim -/
theorem nb_tot {K O : Int → Int} {c : Int} (P : Prt K O) : sm (fun b => nb O c b) 336 = onw c := by
  have e1 : sm (fun b => nb O c b) 336 = sm (fun b => sm (fun i => if aW c i ∧ aO O c i = b then 1 else 0) (4 * gw c).toNat) 336 := sm_c 336 (fun b hb => cnt_sm _ _)
  rw [e1, sm_swap (fun b i => if aW c i ∧ aO O c i = b then 1 else 0) (4 * gw c).toNat 336]
  unfold onw
  rw [cnt_sm]
  refine sm_c _ (fun i hi => ?_)
  by_cases z : aW c i
  · have q := (aO_box P z).1
    have q' : 0 ≤ aO O c i ∧ aO O c i < 336 := q
    have d := sm_dl (v := 1) (i := (aO O c i).toNat) 336
    rw [if_pos (show (aO O c i).toNat < 336 by omega)] at d
    rw [if_pos z]
    refine Eq.trans (sm_c 336 (fun b hb => ?_)) d
    have eN : (((aO O c i).toNat : Nat) : Int) = aO O c i := by omega
    rw [eN]
    by_cases y : (b : Int) = aO O c i
    · rw [if_pos y, if_pos ⟨z, y.symm⟩]
    · rw [if_neg y, if_neg (fun w => y w.2.symm)]
  · rw [if_neg z]
    exact sm_0 (fun b hb => if_neg (fun w => z w.1))
theorem cnt_not (p : Int → Prop) [DecidablePred p] : ∀ N : Nat, cnt p N + cnt (fun i => ¬ p i) N = N
  | 0 => rfl
  | N + 1 => by
    have ih := cnt_not p N
    by_cases z : p N
    · rw [cnt_t z, cnt_f (p := fun i => ¬ p i) (fun w => w z)]
      omega
    · rw [cnt_f z, cnt_t (p := fun i => ¬ p i) z]
      omega
theorem onw_rm (c : Int) : onw c + rm c = 4 * gw c := by
  have bw := gw_b c
  have := cnt_not (aW c) (4 * gw c).toNat
  unfold onw rm
  have e : (((4 * gw c).toNat : Nat) : Int) = 4 * gw c := by omega
  rw [e] at this
  exact this
theorem nS_0 {O : Int → Int} {c : Int} {φ : Int → Int → Int} (h : ∀ b : Int, φ b 0 = 0) : nS O c φ = sm (fun b => φ b (nb O c b)) 336 := sm_c 336 (fun b hb => by
  have := nb_b O c b
  by_cases z : 1 ≤ nb O c b
  · rw [if_pos z]
  · rw [if_neg z, show nb O c b = 0 by omega, h])
/-- what goes to the neighbours that flow, each x sides giving f x -/
def nG1 (K O : Int → Int) (c f : Int) : Int := nS O c (fun b x => if flw K b then f * x else 0)
def nG2 (K O : Int → Int) (c f : Int) (s : Int → Int) : Int := nS O c (fun b x => if flw K b then f * x * s b else 0)
def fS (n c : Int) : Int := n * (4 / gw c)
theorem fS_b {n m c : Int} (hn : 0 ≤ n ∧ n ≤ m) (hm : m ≤ 99) : (0 ≤ fS n c ∧ fS n c ≤ 396) ∧ fS n c * (4 * gw c) ≤ 16 * m := by
  unfold fS
  rcases w3 c with e | e | e <;> rw [e]
  · show (0 ≤ n * 1 ∧ n * 1 ≤ 396) ∧ n * 1 * (4 * 4) ≤ 16 * m
    omega
  · show (0 ≤ n * 2 ∧ n * 2 ≤ 396) ∧ n * 2 * (4 * 2) ≤ 16 * m
    omega
  · show (0 ≤ n * 4 ∧ n * 4 ≤ 396) ∧ n * 4 * (4 * 1) ≤ 16 * m
    omega
theorem rm_b (c : Int) : 0 ≤ rm c ∧ rm c ≤ 16 := by
  have bw := gw_b c
  have := cnt_b (fun i => ¬ onW (px c i) (py c i)) (4 * gw c).toNat
  unfold rm
  omega
theorem nG1_b {K O : Int → Int} {c f : Int} (P : Prt K O) (hf : 0 ≤ f) : 0 ≤ nG1 K O c f ∧ nG1 K O c f + f * rm c ≤ f * (4 * gw c) := by
  unfold nG1
  rw [nS_0 (fun b => by split <;> simp)]
  refine ⟨sm_nn 336 (fun j _ => ?_), ?_⟩
  · have := nb_b O c j
    split
    · exact Int.mul_nonneg hf this.1
    · exact Int.le_refl _
  · have h1 : sm (fun b => if flw K b then f * nb O c b else 0) 336 ≤ sm (fun b => f * nb O c b) 336 := sm_le 336 (fun j _ => by
      have := nb_b O c j
      split
      · exact Int.le_refl _
      · exact Int.mul_nonneg hf this.1)
    rw [sm_mull (fun b => nb O c b) f 336, nb_tot P] at h1
    have := onw_rm c
    rw [← this, Int.mul_add]
    omega
theorem nG2_b {K O : Int → Int} {c f U : Int} {s : Int → Int} (P : Prt K O) (hf : 0 ≤ f) (hs : ∀ b : Int, isN b → 0 ≤ s b ∧ s b ≤ U) : 0 ≤ nG2 K O c f s ∧ nG2 K O c f s ≤ nG1 K O c f * U := by
  unfold nG2 nG1
  rw [nS_0 (fun b => by split <;> simp), nS_0 (fun b => by split <;> simp), ← sm_mulr]
  refine ⟨sm_nn 336 (fun j hj => ?_), sm_le 336 (fun j hj => ?_)⟩
  · have := nb_b O c j
    have q := hs j ⟨by omega, by omega⟩
    split
    · exact Int.mul_nonneg (Int.mul_nonneg hf this.1) q.1
    · exact Int.le_refl _
  · have := nb_b O c j
    have q := hs j ⟨by omega, by omega⟩
    split
    · exact Int.mul_le_mul_of_nonneg_left q.2 (Int.mul_nonneg hf this.1)
    · rw [Int.zero_mul]; exact Int.le_refl _
/-- one tick back -/
def nxS (K O : Int → Int) (n m o : Int) (s : Int → Int) (c : Int) : Int := if K c = 3 ∨ K c = 4 then 16 * m * s c else nG2 K O c (fS n c) s + (16 * m - (nG1 K O c (fS n c) + (if o = 1 then fS n c * rm c else 0))) * s c
theorem nxS_b {K O : Int → Int} {n m o c U : Int} {s : Int → Int} (P : Prt K O) (hn : 0 ≤ n ∧ n ≤ m) (hm : 1 ≤ m ∧ m ≤ 99) (hc : isN c) (hU : 0 ≤ U) (hs : ∀ b : Int, isN b → 0 ≤ s b ∧ s b ≤ U) : 0 ≤ nxS K O n m o s c ∧ nxS K O n m o s c ≤ 16 * m * U := by
  have q := hs c hc
  unfold nxS
  by_cases z : K c = 3 ∨ K c = 4
  · rw [if_pos z]
    exact ⟨Int.mul_nonneg (by omega) q.1, Int.mul_le_mul_of_nonneg_left q.2 (by omega)⟩
  · rw [if_neg z]
    obtain ⟨⟨f1, f2⟩, f3⟩ := fS_b (c := c) hn hm.2
    have g1 := nG1_b (c := c) (f := fS n c) P f1
    have g2 := nG2_b (c := c) (f := fS n c) P f1 hs
    have r := rm_b c
    have fr := Int.mul_nonneg f1 r.1
    have kp : 0 ≤ 16 * m - (nG1 K O c (fS n c) + (if o = 1 then fS n c * rm c else 0)) ∧ 16 * m - (nG1 K O c (fS n c) + (if o = 1 then fS n c * rm c else 0)) ≤ 16 * m - nG1 K O c (fS n c) := by
      split <;> omega
    generalize 16 * m - (nG1 K O c (fS n c) + (if o = 1 then fS n c * rm c else 0)) = k at *
    have k1 := Int.mul_nonneg kp.1 q.1
    have k2 := Int.mul_le_mul_of_nonneg_left q.2 kp.1
    have k3 := Int.mul_le_mul_of_nonneg_right kp.2 hU
    rw [Int.sub_mul] at k3
    omega
/-- the shares behind k ticks back -/
def shr (K O : Int → Int) (n m o to : Int) : Nat → Int → Int
  | 0, c => if c = to then 1 else 0
  | k + 1, c => if K c = -1 then 0 else nxS K O n m o (shr K O n m o to k) c
def pw16 (m : Int) : Nat → Int
  | 0 => 1
  | k + 1 => pw16 m k * (16 * m)
theorem pw16_b {m : Int} (hm : 1 ≤ m ∧ m ≤ 99) : (pw16 m 0 = 1) ∧ (1 ≤ pw16 m 1 ∧ pw16 m 1 ≤ 1584) ∧ (1 ≤ pw16 m 2 ∧ pw16 m 2 ≤ 2509056) ∧ (1 ≤ pw16 m 3 ∧ pw16 m 3 ≤ 3974344704) := by
  have e1 : pw16 m 1 = 1 * (16 * m) := rfl
  have e2 : pw16 m 2 = pw16 m 1 * (16 * m) := rfl
  have e3 : pw16 m 3 = pw16 m 2 * (16 * m) := rfl
  have b1 : 1 ≤ pw16 m 1 ∧ pw16 m 1 ≤ 1584 := by omega
  have b2 := mulb (x := pw16 m 1) (y := 16 * m) (X := 1584) (Y := 1584) (by omega) (by omega)
  have c2 := Int.mul_le_mul_of_nonneg_left (show (1 : Int) ≤ 16 * m by omega) (show 0 ≤ pw16 m 1 by omega)
  have b2' : 1 ≤ pw16 m 2 ∧ pw16 m 2 ≤ 2509056 := by omega
  have b3 := mulb (x := pw16 m 2) (y := 16 * m) (X := 2509056) (Y := 1584) (by omega) (by omega)
  have c3 := Int.mul_le_mul_of_nonneg_left (show (1 : Int) ≤ 16 * m by omega) (show 0 ≤ pw16 m 2 by omega)
  exact ⟨rfl, b1, b2', by omega⟩
theorem pw16_k {m : Int} (hm : 1 ≤ m ∧ m ≤ 99) {k : Nat} (hk : k ≤ 3) : 1 ≤ pw16 m k ∧ pw16 m k ≤ 3974344704 ∧ (k < 3 → pw16 m k ≤ 2509056) := by
  obtain ⟨b0, b1, b2, b3⟩ := pw16_b hm
  rcases (show k = 0 ∨ k = 1 ∨ k = 2 ∨ k = 3 by omega) with e | e | e | e <;> subst e <;> exact ⟨by omega, by omega, fun _ => by omega⟩
theorem shr_b {K O : Int → Int} {n m o to : Int} (P : Prt K O) (hn : 0 ≤ n ∧ n ≤ m) (hm : 1 ≤ m ∧ m ≤ 99) : ∀ k : Nat, k ≤ 3 → ∀ c : Int, isN c → 0 ≤ shr K O n m o to k c ∧ shr K O n m o to k c ≤ pw16 m k
  | 0, _, c, hc => by
    show 0 ≤ (if c = to then 1 else 0) ∧ (if c = to then (1 : Int) else 0) ≤ 1
    split <;> omega
  | k + 1, hk, c, hc => by
    have ih := shr_b (o := o) (to := to) P hn hm k (by omega)
    have pb := pw16_k hm (k := k) (by omega)
    show 0 ≤ (if K c = -1 then 0 else nxS K O n m o (shr K O n m o to k) c) ∧ (if K c = -1 then 0 else nxS K O n m o (shr K O n m o to k) c) ≤ pw16 m k * (16 * m)
    have q := nxS_b (o := o) P hn hm hc (show 0 ≤ pw16 m k by omega) ih
    rw [Int.mul_comm (pw16 m k)]
    split
    · exact ⟨Int.le_refl _, by omega⟩
    · exact q
