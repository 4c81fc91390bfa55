/-! tick: what goes, in numbers -/
theorem fv_0 (a n m w : Int) : fv a n m 0 w = 0 := by
  unfold fv
  rw [Int.mul_zero, Int.zero_ediv]
theorem fv_nn {a n m s w : Int} (ha : 0 ≤ a) (hn : 0 ≤ n) (hm : 0 ≤ m) (hs : 0 ≤ s) (hw : 0 ≤ w) : 0 ≤ fv a n m s w :=
  Int.ediv_nonneg (Int.mul_nonneg (Int.mul_nonneg ha hn) hs) (Int.mul_nonneg (Int.mul_nonneg (by decide) hm) hw)
def fb (A O : Int → Int) (n m a b : Int) : Int := fv (A a) n m (nb O a b) (gw a)
def frm (A : Int → Int) (n m o a : Int) : Int := if o = 1 then fv (A a) n m (rm a) (gw a) else 0
def gT1 (K A O : Int → Int) (n m c : Int) : Int := sm (fun b => if flw K b then fb A O n m c b else 0) 336
def gon (K A O : Int → Int) (n m o c : Int) : Int := gT1 K A O n m c + frm A n m o c
def cmk (K A O : Int → Int) (n m : Int) (k : Nat) (b : Int) : Int := sm (fun a => if flw K a ∧ flw K b then fb A O n m a b else 0) k
def rmk (K A : Int → Int) (n m o : Int) (k : Nat) : Int := sm (fun a => if flw K a then frm A n m o a else 0) k
theorem sm_ge {f : Int → Int} {i : Nat} : ∀ N : Nat, (∀ j : Nat, j < N → 0 ≤ f j) → i < N → f i ≤ sm f N
  | 0, _, h => absurd h (Nat.not_lt_zero _)
  | N + 1, hf, h => by
    have nn := sm_nn N (fun j hj => hf j (by omega))
    have hN := hf N (by omega)
    show f i ≤ sm f N + f N
    by_cases z : i = N
    · subst z; omega
    · have ih := sm_ge N (fun j hj => hf j (by omega)) (show i < N by omega)
      omega
section FLO
variable {K A O : Int → Int} {n m o : Int}
def LwOK (n m : Int) : Prop := (0 ≤ n ∧ n ≤ m) ∧ 1 ≤ m ∧ m ≤ 99
theorem fb_nn (hl : LwOK n m) {a b : Int} (ha : 0 ≤ A a) : 0 ≤ fb A O n m a b := by
  have bw := gw_b a
  have nbb := nb_b O a b
  obtain ⟨l1, l2⟩ := hl
  exact fv_nn ha l1.1 (by omega) nbb.1 (by omega)
theorem frm_nn (hl : LwOK n m) {a : Int} (ha : 0 ≤ A a) : 0 ≤ frm A n m o a := by
  have bw := gw_b a
  have rb := rm_b a
  obtain ⟨l1, l2⟩ := hl
  unfold frm
  split
  · exact fv_nn ha l1.1 (by omega) rb.1 (by omega)
  · exact Int.le_refl _
/-- no more goes than there is -/
theorem gon_b (P : Prt K O) (hl : LwOK n m) {c : Int} (ha : 0 ≤ A c) : 0 ≤ gT1 K A O n m c ∧ 0 ≤ frm A n m o c ∧ gT1 K A O n m c + frm A n m o c ≤ A c := by
  have bw := gw_b c
  have rb := rm_b c
  have hl' := hl
  obtain ⟨⟨l1, l2⟩, l3, l4⟩ := hl
  have dp : 0 < 4 * m * gw c := Int.mul_pos (by omega) (by omega)
  have an := Int.mul_nonneg ha l1
  have q : ∀ s : Int, fv (A c) n m s (gw c) * (4 * m * gw c) ≤ A c * n * s := fun s => Int.ediv_mul_le _ (by omega)
  refine ⟨sm_nn 336 (fun j _ => ?_), frm_nn hl' ha, ?_⟩
  · split
    · exact fb_nn hl' ha
    · exact Int.le_refl _
  · have h1 : gT1 K A O n m c * (4 * m * gw c) ≤ A c * n * onw c := by
      unfold gT1
      rw [← sm_mulr, ← nb_tot P, ← sm_mull (fun b => nb O c b) (A c * n) 336]
      refine sm_le 336 (fun j _ => ?_)
      have nbb := nb_b O c j
      split
      · exact q _
      · rw [Int.zero_mul]
        exact Int.mul_nonneg an nbb.1
    have h2 : frm A n m o c * (4 * m * gw c) ≤ A c * n * rm c := by
      unfold frm
      split
      · exact q _
      · rw [Int.zero_mul]
        exact Int.mul_nonneg an rb.1
    have h3 : A c * n * (4 * gw c) ≤ A c * (4 * m * gw c) := by
      have e1 := Int.mul_le_mul_of_nonneg_left l2 ha
      have e2 := Int.mul_le_mul_of_nonneg_right e1 (show 0 ≤ 4 * gw c by omega)
      have e3 : A c * m * (4 * gw c) = A c * (4 * m * gw c) := by
        rw [Int.mul_assoc, Int.mul_left_comm m 4 (gw c), Int.mul_assoc]
      omega
    have h4 := onw_rm c
    have h5 : A c * n * onw c + A c * n * rm c = A c * n * (4 * gw c) := by rw [← Int.mul_add, h4]
    have h6 : (gT1 K A O n m c + frm A n m o c) * (4 * m * gw c) ≤ A c * (4 * m * gw c) := by
      rw [Int.add_mul]
      omega
    exact Int.le_of_mul_le_mul_right h6 dp
theorem fb_le (P : Prt K O) (hl : LwOK n m) {a b : Int} (ha : 0 ≤ A a) (hb : flw K b) : fb A O n m a b ≤ A a := by
  have g := gon_b (o := 0) P hl ha
  have nn : ∀ j : Nat, j < 336 → 0 ≤ (if flw K j then fb A O n m a j else 0) := fun j _ => by
    split
    · exact fb_nn hl ha
    · exact Int.le_refl _
  have s := sm_ge (f := fun b => if flw K b then fb A O n m a b else 0) (i := b.toNat) 336 nn (by have := hb.1; omega)
  have e : ((b.toNat : Nat) : Int) = b := by have := hb.1; omega
  rw [e, if_pos hb] at s
  unfold gT1 at g
  omega
theorem cmk_b (P : Prt K O) (hl : LwOK n m) (hA : ∀ c : Int, isN c → 0 ≤ A c ∧ A c ≤ 1000000) (b : Int) {k : Nat} (hk : k ≤ 336) : 0 ≤ cmk K A O n m k b ∧ cmk K A O n m k b ≤ 1000000 * (k : Int) := by
  have s := sm_b (f := fun a => if flw K a ∧ flw K b then fb A O n m a b else 0) (lo := 0) (hi := 1000000) k (fun j hj => by
    have a := hA j ⟨by omega, by omega⟩
    split
    · rename_i q
      exact ⟨fb_nn hl a.1, Int.le_trans (fb_le P hl a.1 q.2) a.2⟩
    · exact ⟨Int.le_refl _, by decide⟩)
  unfold cmk
  omega
theorem rmk_b (P : Prt K O) (hl : LwOK n m) (hA : ∀ c : Int, isN c → 0 ≤ A c ∧ A c ≤ 1000000) {k : Nat} (hk : k ≤ 336) : 0 ≤ rmk K A n m o k ∧ rmk K A n m o k ≤ 1000000 * (k : Int) := by
  have s := sm_b (f := fun a => if flw K a then frm A n m o a else 0) (lo := 0) (hi := 1000000) k (fun j hj => by
    have a := hA j ⟨by omega, by omega⟩
    have g := gon_b (o := o) (c := (j : Int)) P hl a.1
    split
    · omega
    · exact ⟨Int.le_refl _, by decide⟩)
  unfold rmk
  omega
/-- over a list of neighbours -/
theorem lst_go {c lo hi : Int} {B D : Int → Int} (N : NearOK O c lo hi B D) : sm (fun j => if flw K (B (lo + j)) then fv (A c) n m (D (lo + j)) (gw c) else 0) (hi - lo).toNat = gT1 K A O n m c := by
  have e := near_sum N (fun b x => if flw K b then fv (A c) n m x (gw c) else 0)
  refine e.trans ?_
  show nS O c (fun b x => if flw K b then fv (A c) n m x (gw c) else 0) = _
  rw [nS_0 (fun b => by rw [fv_0]; split <;> rfl)]
  rfl
theorem lst_to {c lo hi : Int} {B D : Int → Int} (N : NearOK O c lo hi B D) (b : Int) : sm (fun j => if flw K (B (lo + j)) ∧ B (lo + j) = b then fv (A c) n m (D (lo + j)) (gw c) else 0) (hi - lo).toNat = if flw K b then fb A O n m c b else 0 := by
  have e := near_sum N (fun x y => if flw K x ∧ x = b then fv (A c) n m y (gw c) else 0)
  refine e.trans ?_
  show nS O c (fun x y => if flw K x ∧ x = b then fv (A c) n m y (gw c) else 0) = _
  rw [nS_0 (fun x => by rw [fv_0]; split <;> rfl)]
  by_cases z : flw K b
  · rw [if_pos z]
    have d := sm_dl (v := fb A O n m c b) (i := b.toNat) 336
    have hb := z.1
    rw [if_pos (show b.toNat < 336 by omega)] at d
    refine Eq.trans (sm_c 336 (fun x hx => ?_)) d
    have eb : ((b.toNat : Nat) : Int) = b := by omega
    rw [eb]
    by_cases y : (x : Int) = b
    · rw [if_pos y, y, if_pos ⟨z, rfl⟩]
      rfl
    · rw [if_neg y, if_neg (fun q => y q.2)]
  · rw [if_neg z]
    exact sm_0 (fun x hx => if_neg (fun q => z (by rw [← q.2]; exact q.1)))
end FLO
/-! the class: sendFrom -/
section SEND
variable {n : Int} {d : Nat}
theorem e_sendFrom {h : Hp} {c r : Int} {G C : Int → Int} (P : Prt (h 12) (h 19)) (hg : GeoOK h) (hl : LwOK (h 7 0) (h 7 1)) (hA : ∀ c : Int, isN c → 0 ≤ h 13 c ∧ h 13 c ≤ 1000000) (hc : 0 ≤ c ∧ c < 336) (lc : LayC h c) (hG : G c = 0) (hC : ∀ b : Int, isN b → 0 ≤ C b ∧ C b ≤ 400000000) (hr : 0 ≤ r ∧ r ≤ 400000000) : ∀ Q, wpS (EF n) (d + 4) mX1_sendFrom [(2, 26), (2, 11), (2, 20), (2, 7), (0, c)] (hst (hrow (hrow h 28 G) 29 C) 26 3 r) Q = Q 0 (hst (hrow (hrow h 28 (up G c (gon (h 12) (h 13) (h 19) (h 7 0) (h 7 1) (h 7 2) c))) 29 (fun b => C b + (if flw (h 12) b then fb (h 13) (h 19) (h 7 0) (h 7 1) c b else 0))) 26 3 (r + frm (h 13) (h 7 0) (h 7 1) (h 7 2) c)) := by
  intro Q
  obtain ⟨l1, l2, l3⟩ := lc
  have ac := hA c hc
  have gb := gon_b (o := h 7 2) (c := c) P hl ac.1
  have bw := gw_b c
  have rb := rm_b c
  have w18 : h 18 c = gw c := (hg c hc.1 hc.2).2.2
  have x : ∀ {G C : Int → Int} {r : Int} (a : Int), a ≠ 26 → a ≠ 28 → a ≠ 29 → hst (hrow (hrow h 28 G) 29 C) 26 3 r a = h a := fun a h1 h2 h3 => by rw [hst_off _ h1, hrow_n _ _ h3, hrow_n _ _ h2]
  have x28 : ∀ {G C : Int → Int} {r : Int}, hst (hrow (hrow h 28 G) 29 C) 26 3 r 28 = G := fun {G C r} => by rw [hst_off _ (by decide), hrow_n _ _ (by decide), hrow_s]
  have x29 : ∀ {G C : Int → Int} {r : Int}, hst (hrow (hrow h 28 G) 29 C) 26 3 r 29 = C := fun {G C r} => by rw [hst_off _ (by decide), hrow_s]
  have x26 : ∀ {G C : Int → Int} {r : Int}, hst (hrow (hrow h 28 G) 29 C) 26 3 r 26 3 = r := fun {G C r} => hst_s _ _ _ _
  have w28 : ∀ {G C : Int → Int} {r i v : Int}, hst (hst (hrow (hrow h 28 G) 29 C) 26 3 r) 28 i v = hst (hrow (hrow h 28 (up G i v)) 29 C) 26 3 r := fun {G C r i v} => by
    rw [hst_row _ 26, hst_hn _ _ _ _ (by decide), hst_hn _ _ _ _ (by decide), hst_rr, hst_row _ 26]
    rfl
  have w29 : ∀ {G C : Int → Int} {r i v : Int}, hst (hst (hrow (hrow h 28 G) 29 C) 26 3 r) 29 i v = hst (hrow (hrow h 28 G) 29 (up C i v)) 26 3 r := fun {G C r i v} => by
    rw [hst_row _ 26, hst_hn _ _ _ _ (by decide), hst_rr, hst_row _ 26]
    rfl
  have w26 : ∀ {G C : Int → Int} {r v : Int}, hst (hst (hrow (hrow h 28 G) 29 C) 26 3 r) 26 3 v = hst (hrow (hrow h 28 G) 29 C) 26 3 v := fun {G C r v} => hst_2 _ _ _ _ _
  have go := lst_go (K := h 12) (A := h 13) (n := h 7 0) (m := h 7 1) l3
  have to := fun b => lst_to (K := h 12) (A := h 13) (n := h 7 0) (m := h 7 1) l3 b
  have term : ∀ j : Nat, j < (h 21 (c + 1) - h 21 c).toNat → fvOK (h 13 c) (h 7 0) (h 7 1) (h 23 (h 21 c + j)) (gw c) := fun j hj => by
    obtain ⟨y1, y2, y3⟩ := l3.1 (h 21 c + j) (by omega) (by omega)
    have nbb := nb_b (h 19) c (h 22 (h 21 c + j))
    exact ⟨ac, hl.1, hl.2, by omega, bw⟩
  have mono : ∀ k : Nat, k ≤ (h 21 (c + 1) - h 21 c).toNat → 0 ≤ sm (fun j => if flw (h 12) (h 22 (h 21 c + j)) then fv (h 13 c) (h 7 0) (h 7 1) (h 23 (h 21 c + j)) (gw c) else 0) k ∧ sm (fun j => if flw (h 12) (h 22 (h 21 c + j)) then fv (h 13 c) (h 7 0) (h 7 1) (h 23 (h 21 c + j)) (gw c) else 0) k ≤ gT1 (h 12) (h 13) (h 19) (h 7 0) (h 7 1) c := by
    intro k hk
    have nn : ∀ j : Nat, j < (h 21 (c + 1) - h 21 c).toNat → 0 ≤ (if flw (h 12) (h 22 (h 21 c + j)) then fv (h 13 c) (h 7 0) (h 7 1) (h 23 (h 21 c + j)) (gw c) else 0) := fun j hj => by
      split
      · exact (fv_b (term j hj)).2.2.2.1
      · exact Int.le_refl _
    refine ⟨sm_nn k (fun j hj => nn j (by omega)), ?_⟩
    rw [← go]
    obtain ⟨e, he⟩ : ∃ e, (h 21 (c + 1) - h 21 c).toNat = k + e := ⟨(h 21 (c + 1) - h 21 c).toNat - k, by omega⟩
    rw [he, sm_app]
    have := sm_nn (f := fun i => if flw (h 12) (h 22 (h 21 c + ((k : Int) + i))) then fv (h 13 c) (h 7 0) (h 7 1) (h 23 (h 21 c + ((k : Int) + i))) (gw c) else 0) e (fun j hj => by
      have := nn (k + j) (by omega)
      rw [show ((k + j : Nat) : Int) = (k : Int) + j by omega] at this
      exact this)
    omega
  have l := loop_x (α := PV × PV) (P := fun v k => Ws (EF n) (d + 3) mX1_sendFrom Q 27 [(2, 26), (2, 11), (2, 20), (2, 7), (0, c), (0, h 13 c), (0, gw c), (0, h 21 c + (k : Int)), v.1, v.2] [] (hst (hrow (hrow h 28 (up G c (sm (fun j => if flw (h 12) (h 22 (h 21 c + j)) then fv (h 13 c) (h 7 0) (h 7 1) (h 23 (h 21 c + j)) (gw c) else 0) k))) 29 (fun b => C b + sm (fun j => if flw (h 12) (h 22 (h 21 c + j)) ∧ h 22 (h 21 c + j) = b then fv (h 13 c) (h 7 0) (h 7 1) (h 23 (h 21 c + j)) (gw c) else 0) k)) 26 3 r)) (h 21 (c + 1) - h 21 c).toNat ((9, 0), (9, 0)) (by
    intro v k hk
    obtain ⟨y1, y2, y3⟩ := l3.1 (h 21 c + k) (by omega) (by omega)
    have y1' : 0 ≤ h 22 (h 21 c + k) ∧ h 22 (h 21 c + k) < 336 := y1
    have m1 := mono k (by omega)
    have m2 := mono (k + 1) (by omega)
    have tk := term k hk
    have fk := (fv_b tk).2.2.2
    have cb := hC _ y1
    have s29 := sm_b (f := fun j => if flw (h 12) (h 22 (h 21 c + j)) ∧ h 22 (h 21 c + j) = h 22 (h 21 c + k) then fv (h 13 c) (h 7 0) (h 7 1) (h 23 (h 21 c + j)) (gw c) else 0) (lo := 0) (hi := 1000000) k (fun j hj => by
      have mj := mono j (by omega)
      have mj1 := mono (j + 1) (by omega)
      have e : sm (fun j => if flw (h 12) (h 22 (h 21 c + j)) then fv (h 13 c) (h 7 0) (h 7 1) (h 23 (h 21 c + j)) (gw c) else 0) (j + 1) = sm (fun j => if flw (h 12) (h 22 (h 21 c + j)) then fv (h 13 c) (h 7 0) (h 7 1) (h 23 (h 21 c + j)) (gw c) else 0) j + (if flw (h 12) (h 22 (h 21 c + j)) then fv (h 13 c) (h 7 0) (h 7 1) (h 23 (h 21 c + j)) (gw c) else 0) := rfl
      have fj := (fv_b (term j (by omega))).2.2.2
      split
      · rename_i q
        rw [if_pos q.1] at e
        omega
      · exact ⟨Int.le_refl _, by decide⟩)
    have e1 : sm (fun j => if flw (h 12) (h 22 (h 21 c + j)) then fv (h 13 c) (h 7 0) (h 7 1) (h 23 (h 21 c + j)) (gw c) else 0) (k + 1) = sm (fun j => if flw (h 12) (h 22 (h 21 c + j)) then fv (h 13 c) (h 7 0) (h 7 1) (h 23 (h 21 c + j)) (gw c) else 0) k + (if flw (h 12) (h 22 (h 21 c + k)) then fv (h 13 c) (h 7 0) (h 7 1) (h 23 (h 21 c + k)) (gw c) else 0) := rfl
    have e2 : ∀ b, sm (fun j => if flw (h 12) (h 22 (h 21 c + j)) ∧ h 22 (h 21 c + j) = b then fv (h 13 c) (h 7 0) (h 7 1) (h 23 (h 21 c + j)) (gw c) else 0) (k + 1) = sm (fun j => if flw (h 12) (h 22 (h 21 c + j)) ∧ h 22 (h 21 c + j) = b then fv (h 13 c) (h 7 0) (h 7 1) (h 23 (h 21 c + j)) (gw c) else 0) k + (if flw (h 12) (h 22 (h 21 c + k)) ∧ h 22 (h 21 c + k) = b then fv (h 13 c) (h 7 0) (h 7 1) (h 23 (h 21 c + k)) (gw c) else 0) := fun b => rfl
    have ix : h 21 c + ((k + 1 : Nat) : Int) = h 21 c + (k : Int) + 1 := by omega
    by_cases y : flw (h 12) (h 22 (h 21 c + k))
    · refine ⟨((0, h 22 (h 21 c + k)), (0, fv (h 13 c) (h 7 0) (h 7 1) (h 23 (h 21 c + k)) (gw c))), ?_⟩
      rw [if_pos y] at e1
      rw [e1] at m2
      have fun29 : up (fun b => C b + sm (fun j => if flw (h 12) (h 22 (h 21 c + j)) ∧ h 22 (h 21 c + j) = b then fv (h 13 c) (h 7 0) (h 7 1) (h 23 (h 21 c + j)) (gw c) else 0) k) (h 22 (h 21 c + k)) (C (h 22 (h 21 c + k)) + sm (fun j => if flw (h 12) (h 22 (h 21 c + j)) ∧ h 22 (h 21 c + j) = h 22 (h 21 c + k) then fv (h 13 c) (h 7 0) (h 7 1) (h 23 (h 21 c + j)) (gw c) else 0) k + fv (h 13 c) (h 7 0) (h 7 1) (h 23 (h 21 c + k)) (gw c)) = fun b => C b + sm (fun j => if flw (h 12) (h 22 (h 21 c + j)) ∧ h 22 (h 21 c + j) = b then fv (h 13 c) (h 7 0) (h 7 1) (h 23 (h 21 c + j)) (gw c) else 0) (k + 1) := by
        funext b
        rw [e2]
        by_cases z : b = h 22 (h 21 c + k)
        · rw [z, up_s, if_pos ⟨y, rfl⟩, Int.add_assoc]
        · rw [up_n _ _ z, if_neg (fun q => z q.2.symm), Int.add_zero]
      show _ = Ws (EF n) (d + 3) mX1_sendFrom Q 27 [(2, 26), (2, 11), (2, 20), (2, 7), (0, c), (0, h 13 c), (0, gw c), (0, h 21 c + ((k + 1 : Nat) : Int)), (0, h 22 (h 21 c + k)), (0, fv (h 13 c) (h 7 0) (h 7 1) (h 23 (h 21 c + k)) (gw c))] [] (hst (hrow (hrow h 28 (up G c (sm (fun j => if flw (h 12) (h 22 (h 21 c + j)) then fv (h 13 c) (h 7 0) (h 7 1) (h 23 (h 21 c + j)) (gw c) else 0) (k + 1)))) 29 (fun b => C b + sm (fun j => if flw (h 12) (h 22 (h 21 c + j)) ∧ h 22 (h 21 c + j) = b then fv (h 13 c) (h 7 0) (h 7 1) (h 23 (h 21 c + j)) (gw c) else 0) (k + 1))) 26 3 r)
      rw [e1, ← fun29, ix]
      generalize sm (fun j => if flw (h 12) (h 22 (h 21 c + j)) then fv (h 13 c) (h 7 0) (h 7 1) (h 23 (h 21 c + j)) (gw c) else 0) k = S1 at *
      rw [b_X1_sendFrom_27, w32_of (x := c + 1) (by omega) (by omega), and_tl (by omega), x 21 (by decide) (by decide) (by decide), if_pos (by omega), if_pos (by omega), and_tl (by omega), x 22 (by decide) (by decide) (by decide), e_isFlowing (EF_11 n), b2_if, x 12 (by decide) (by decide) (by decide), if_pos (show (0 ≤ h 22 (h 21 c + k) ∧ h 22 (h 21 c + k) < 336) ∧ h 12 (h 22 (h 21 c + k)) ≠ -1 ∧ h 12 (h 22 (h 21 c + k)) ≠ 4 from y), and_tl (by omega), x 7 (by decide) (by decide) (by decide), x 23 (by decide) (by decide) (by decide), e_flowOf tk, and_tl hc, and_tl hc, and_tl y1', and_tl y1', x28, up_s, w28, up_up, x29, w29, w32_of (x := S1 + fv (h 13 c) (h 7 0) (h 7 1) (h 23 (h 21 c + k)) (gw c)) (by omega) (by omega), w32_of (x := C (h 22 (h 21 c + k)) + sm (fun j => if flw (h 12) (h 22 (h 21 c + j)) ∧ h 22 (h 21 c + j) = h 22 (h 21 c + k) then fv (h 13 c) (h 7 0) (h 7 1) (h 23 (h 21 c + j)) (gw c) else 0) k + fv (h 13 c) (h 7 0) (h 7 1) (h 23 (h 21 c + k)) (gw c)) (by omega) (by omega), w32_of (x := h 21 c + (k : Int) + 1) (by omega) (by omega)]
    · refine ⟨((0, h 22 (h 21 c + k)), v.2), ?_⟩
      rw [if_neg y, Int.add_zero] at e1
      have fun29 : (fun b => C b + sm (fun j => if flw (h 12) (h 22 (h 21 c + j)) ∧ h 22 (h 21 c + j) = b then fv (h 13 c) (h 7 0) (h 7 1) (h 23 (h 21 c + j)) (gw c) else 0) (k + 1)) = fun b => C b + sm (fun j => if flw (h 12) (h 22 (h 21 c + j)) ∧ h 22 (h 21 c + j) = b then fv (h 13 c) (h 7 0) (h 7 1) (h 23 (h 21 c + j)) (gw c) else 0) k := by
        funext b
        rw [e2, if_neg (fun q => y q.1), Int.add_zero]
      show _ = Ws (EF n) (d + 3) mX1_sendFrom Q 27 [(2, 26), (2, 11), (2, 20), (2, 7), (0, c), (0, h 13 c), (0, gw c), (0, h 21 c + ((k + 1 : Nat) : Int)), (0, h 22 (h 21 c + k)), v.2] [] (hst (hrow (hrow h 28 (up G c (sm (fun j => if flw (h 12) (h 22 (h 21 c + j)) then fv (h 13 c) (h 7 0) (h 7 1) (h 23 (h 21 c + j)) (gw c) else 0) (k + 1)))) 29 (fun b => C b + sm (fun j => if flw (h 12) (h 22 (h 21 c + j)) ∧ h 22 (h 21 c + j) = b then fv (h 13 c) (h 7 0) (h 7 1) (h 23 (h 21 c + j)) (gw c) else 0) (k + 1))) 26 3 r)
      rw [e1, fun29, ix]
      rw [b_X1_sendFrom_27, w32_of (x := c + 1) (by omega) (by omega), and_tl (by omega), x 21 (by decide) (by decide) (by decide), if_pos (by omega), if_pos (by omega), and_tl (by omega), x 22 (by decide) (by decide) (by decide), e_isFlowing (EF_11 n), b2_if, x 12 (by decide) (by decide) (by decide), if_neg (show ¬ ((0 ≤ h 22 (h 21 c + k) ∧ h 22 (h 21 c + k) < 336) ∧ h 12 (h 22 (h 21 c + k)) ≠ -1 ∧ h 12 (h 22 (h 21 c + k)) ≠ 4) from y), w32_of (x := h 21 c + (k : Int) + 1) (by omega) (by omega)])
  obtain ⟨v, l⟩ := l
  have e0 : up G c (sm (fun j => if flw (h 12) (h 22 (h 21 c + j)) then fv (h 13 c) (h 7 0) (h 7 1) (h 23 (h 21 c + j)) (gw c) else 0) 0) = G := by
    show up G c 0 = G
    rw [← hG]
    exact up_self G c
  have e1 : (fun b => C b + sm (fun j => if flw (h 12) (h 22 (h 21 c + j)) ∧ h 22 (h 21 c + j) = b then fv (h 13 c) (h 7 0) (h 7 1) (h 23 (h 21 c + j)) (gw c) else 0) 0) = C := by
    funext b
    exact Int.add_zero _
  rw [e0, e1, show h 21 c + ((0 : Nat) : Int) = h 21 c by omega] at l
  rw [u_X1_sendFrom, and_tl hc, and_tl hc, and_tl (by omega), x 13 (by decide) (by decide) (by decide), x 18 (by decide) (by decide) (by decide), x 21 (by decide) (by decide) (by decide), w18]
  refine l.trans ?_
  show Ws (EF n) (d + 3) mX1_sendFrom Q 27 [(2, 26), (2, 11), (2, 20), (2, 7), (0, c), (0, h 13 c), (0, gw c), (0, h 21 c + (((h 21 (c + 1) - h 21 c).toNat : Nat) : Int)), v.1, v.2] [] _ = _
  have e29 : (fun b => C b + sm (fun j => if flw (h 12) (h 22 (h 21 c + j)) ∧ h 22 (h 21 c + j) = b then fv (h 13 c) (h 7 0) (h 7 1) (h 23 (h 21 c + j)) (gw c) else 0) (h 21 (c + 1) - h 21 c).toNat) = fun b => C b + (if flw (h 12) b then fb (h 13) (h 19) (h 7 0) (h 7 1) c b else 0) := by
    funext b
    rw [to b]
  rw [go, e29]
  have rOK : fvOK (h 13 c) (h 7 0) (h 7 1) (rm c) (gw c) := ⟨ac, hl.1, hl.2, rb, bw⟩
  rw [b_X1_sendFrom_27, w32_of (x := c + 1) (by omega) (by omega), and_tl (by omega), x 21 (by decide) (by decide) (by decide), if_neg (by omega), b_X1_sendFrom_121, x 7 (by decide) (by decide) (by decide), x 24 (by decide) (by decide) (by decide), l1, and_tl hc, e_flowOf rOK, and_tl hc, and_tl hc, x28, up_s, w28, up_up, x26, w26]
  unfold gon
  unfold frm at gb ⊢
  by_cases y : h 7 2 = 1
  · rw [if_pos y] at gb
    rw [if_pos y, if_pos y, w32_of (by omega) (by omega), w32_of (by omega) (by omega)]
  · rw [if_neg y, if_neg y, Int.add_zero, Int.add_zero]
end SEND
