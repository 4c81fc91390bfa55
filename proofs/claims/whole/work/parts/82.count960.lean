/-! there are never more than 960 links: the count -/
theorem sm_app (f : Int → Int) (a : Nat) : ∀ b : Nat, sm f (a + b) = sm f a + sm (fun i => f ((a : Int) + i)) b
  | 0 => by
    show sm f a = sm f a + 0
    omega
  | b + 1 => by
    have ih := sm_app f a b
    show sm f (a + b) + f ((a + b : Nat) : Int) = sm f a + (sm (fun i => f ((a : Int) + i)) b + f ((a : Int) + b))
    rw [ih, show ((a + b : Nat) : Int) = (a : Int) + b by omega]
    omega
theorem sm_0 {f : Int → Int} : ∀ {N : Nat}, (∀ j : Nat, j < N → f j = 0) → sm f N = 0
  | 0, _ => rfl
  | N + 1, h => by
    show sm f N + f N = 0
    rw [sm_0 (fun j hj => h j (by omega)), h N (by omega)]
    rfl
theorem sm_16 (f : Int → Int) : ∀ n : Nat, sm f (16 * n) = sm (fun v => sm (fun u => f (16 * v + u)) 16) n
  | 0 => rfl
  | n + 1 => by
    show sm f (16 * n + 16) = sm (fun v => sm (fun u => f (16 * v + u)) 16) n + sm (fun u => f (16 * (n : Int) + u)) 16
    rw [sm_app, sm_16 f n, show ((16 * n : Nat) : Int) = 16 * (n : Int) by omega]
theorem sm_box (f : Int → Int) {x w N : Nat} (h : x + w ≤ N) : sm (fun u => if (x : Int) ≤ u ∧ u < (x : Int) + w then f u else 0) N = sm (fun i => f ((x : Int) + i)) w := by
  obtain ⟨r, rfl⟩ : ∃ r, N = x + (w + r) := ⟨N - x - w, by omega⟩
  rw [sm_app, sm_app, sm_0 (N := x) (fun j hj => if_neg (by omega)), sm_0 (N := r) (fun j hj => if_neg (by omega))]
  rw [sm_c (f := fun i => if (x : Int) ≤ (x : Int) + i ∧ (x : Int) + i < (x : Int) + w then f ((x : Int) + i) else 0) (g := fun i => f ((x : Int) + i)) w (fun j hj => if_pos (by omega))]
  omega
abbrev inD (c s : Int) : Prop := (gx c ≤ s % 16 ∧ s % 16 < gx c + gw c) ∧ gy c ≤ s / 16 ∧ s / 16 < gy c + gw c
def gq (s : Int) : Int := (if s % 16 = 0 then 0 else 1) + (if s % 16 = 15 then 0 else 1) + (if s / 16 = 0 then 0 else 1) + (if s / 16 = 15 then 0 else 1)
theorem gq_e (s : Nat) : gq (s : Int) = (nq s : Int) := by
  unfold gq nq
  by_cases h1 : s % 16 = 0 <;> by_cases h2 : s % 16 = 15 <;> by_cases h3 : s / 16 = 0 <;> by_cases h4 : s / 16 = 15
  all_goals first | (exfalso; omega) | skip
  all_goals simp only [h1, h2, h3, h4, if_true, if_false, reduceIte]
  all_goals (first | rw [if_pos (by omega)] | rw [if_neg (by omega)])
  all_goals (first | rw [if_pos (by omega)] | rw [if_neg (by omega)])
  all_goals (first | rw [if_pos (by omega)] | rw [if_neg (by omega)])
  all_goals (first | rw [if_pos (by omega)] | rw [if_neg (by omega)])
  all_goals rfl
theorem nsm_e {f : Int → Int} {g : Nat → Nat} (h : ∀ k : Nat, f k = (g k : Int)) : ∀ N : Nat, sm f N = (nsm g N : Int)
  | 0 => rfl
  | N + 1 => by
    show sm f N + f N = ((nsm g N + g N : Nat) : Int)
    rw [nsm_e h N, h N]
    omega
theorem box_sum {c : Nat} (hc : c < 336) : sm (fun s => if inD c s then gq s else 0) 256 = (nG c : Int) := by
  have bx := gx_b (c := (c : Int)) ⟨by omega, by omega⟩
  have bY := gy_b (c := (c : Int)) ⟨by omega, by omega⟩
  rw [nw_e, nx_e] at bx
  rw [nw_e, ny_e] at bY
  have e0 := sm_16 (fun s => if inD c s then gq s else 0) 16
  refine e0.trans ?_
  have e1 : sm (fun v => sm (fun u => if inD c (16 * v + u) then gq (16 * v + u) else 0) 16) 16 = sm (fun v => if (ny c : Int) ≤ v ∧ v < (ny c : Int) + (nw c : Nat) then sm (fun i => gq (16 * v + ((nx c : Int) + i))) (nw c) else 0) 16 := sm_c 16 (fun v hv => by
    by_cases z : (ny c : Int) ≤ v ∧ (v : Int) < (ny c : Int) + (nw c : Nat)
    · rw [if_pos z]
      have := sm_box (fun u => gq (16 * (v : Int) + u)) (x := nx c) (w := nw c) (N := 16) (by omega)
      refine Eq.trans (sm_c 16 (fun u hu => ?_)) this
      show (if inD c (16 * (v : Int) + u) then gq (16 * (v : Int) + u) else 0) = if (nx c : Int) ≤ u ∧ (u : Int) < (nx c : Int) + (nw c : Nat) then gq (16 * (v : Int) + u) else 0
      unfold inD
      rw [nw_e, nx_e, ny_e, show (16 * (v : Int) + u) % 16 = u by omega, show (16 * (v : Int) + u) / 16 = v by omega]
      by_cases y : (nx c : Int) ≤ u ∧ (u : Int) < (nx c : Int) + (nw c : Nat)
      · rw [if_pos y, if_pos ⟨y, z⟩]
      · rw [if_neg y, if_neg (fun q => y q.1)]
    · rw [if_neg z]
      refine sm_0 (fun u hu => if_neg ?_)
      unfold inD
      rw [nw_e, nx_e, ny_e, show (16 * (v : Int) + u) % 16 = u by omega, show (16 * (v : Int) + u) / 16 = v by omega]
      exact fun q => z q.2)
  refine e1.trans ?_
  rw [sm_box (fun v => sm (fun i => gq (16 * v + ((nx c : Int) + i))) (nw c)) (x := ny c) (w := nw c) (N := 16) (by omega)]
  unfold nG nrow
  refine nsm_e (fun j => ?_) (nw c)
  refine nsm_e (fun i => ?_) (nw c)
  have := gq_e (16 * (ny c + j) + nx c + i)
  rw [← this]
  exact congrArg gq (by omega)
theorem ite_cast0 (q : Prop) [Decidable q] (w : Nat) : ((if q then 0 else w : Nat) : Int) = if q then 0 else (w : Int) := by
  split <;> rfl
theorem cnt_all {p : Int → Prop} [DecidablePred p] : ∀ {N : Nat}, (∀ j : Nat, j < N → p j) → cnt p N = N
  | 0, _ => rfl
  | N + 1, h => by
    rw [cnt_t (h N (by omega)), cnt_all (fun j hj => h j (by omega))]
    omega
/-- how many squares lie around a cell -/
def onw (c : Int) : Int := cnt (aW c) (4 * gw c).toNat
theorem onw_e {c : Nat} (hc : c < 336) : onw (c : Int) = (nf c : Int) := by
  have hn : isN (c : Int) := ⟨by omega, by omega⟩
  have bx := gx_b hn
  have bY := gy_b hn
  have bw := gw_b (c : Int)
  have hs := fun (i : Nat) (h : (i : Int) < 4 * gw c) => p_side (c := (c : Int)) (i := (i : Int)) (by omega) h
  unfold onw
  rw [nw_e] at *
  rw [nx_e] at *
  rw [ny_e] at *
  generalize hX : nx c = X at *
  generalize hY : ny c = Y at *
  generalize hW : nw c = w at *
  have e : (4 * (w : Int)).toNat = w + (w + (w + w)) := by omega
  rw [e, cnt_app, cnt_app, cnt_app]
  have one : ∀ (b : Int) (q : Prop) [Decidable q], (∀ j : Nat, j < w → (aW c (b + j) ↔ ¬ q)) → cnt (fun i => aW c (b + i)) w = if q then 0 else (w : Int) := by
    intro b q _ h
    by_cases z : q
    · rw [if_pos z]
      exact cnt_none (fun j hj y => (h j hj).mp y z)
    · rw [if_neg z]
      exact cnt_all (fun j hj => (h j hj).mpr z)
  have s1 : cnt (aW c) w = if X = 0 then 0 else (w : Int) := by
    have := one 0 (X = 0) (fun j hj => by
      have q := hs j (by omega)
      rw [Int.zero_add]
      unfold aW onW
      rcases q with q | q | q | q
      · rw [q.2.1, q.2.2]; omega
      · omega
      · omega
      · omega)
    rw [← this]
    exact cnt_c w (fun j hj => by rw [Int.zero_add])
  have s2 : cnt (fun i => aW c ((w : Int) + i)) w = if X + w = 16 then 0 else (w : Int) := one w (X + w = 16) (fun j hj => by
    have q := hs (w + j) (by omega)
    rw [show ((w + j : Nat) : Int) = (w : Int) + j by omega] at q
    unfold aW onW
    rcases q with q | q | q | q
    · omega
    · rw [q.2.2.1, q.2.2.2]; omega
    · omega
    · omega)
  have s3 : cnt (fun i => aW c ((w : Int) + ((w : Int) + i))) w = if Y = 0 then 0 else (w : Int) := by
    have := one ((w : Int) + w) (Y = 0) (fun j hj => by
      have q := hs (w + w + j) (by omega)
      rw [show ((w + w + j : Nat) : Int) = (w : Int) + w + j by omega] at q
      unfold aW onW
      rcases q with q | q | q | q
      · omega
      · omega
      · rw [q.2.2.1, q.2.2.2]; omega
      · omega)
    rw [← this]
    exact cnt_c w (fun j hj => by rw [Int.add_assoc])
  have s4 : cnt (fun i => aW c ((w : Int) + ((w : Int) + ((w : Int) + i)))) w = if Y + w = 16 then 0 else (w : Int) := by
    have := one ((w : Int) + w + w) (Y + w = 16) (fun j hj => by
      have q := hs (w + w + w + j) (by omega)
      rw [show ((w + w + w + j : Nat) : Int) = (w : Int) + w + w + j by omega] at q
      unfold aW onW
      rcases q with q | q | q | q
      · omega
      · omega
      · omega
      · rw [q.2.1, q.2.2]; omega)
    rw [← this]
    exact cnt_c w (fun j hj => by rw [Int.add_assoc, Int.add_assoc])
  rw [s1, s2, s3, s4]
  unfold nf
  rw [hX, hY, hW]
  rw [Int.natCast_add, Int.natCast_add, Int.natCast_add, ite_cast0, ite_cast0, ite_cast0, ite_cast0]
  omega
def onK (K : Int → Int) : Int → Int := fun c => if K c = -1 then 0 else onw c
theorem onK_n (K : Int → Int) (j : Nat) : 0 ≤ onK K j := by
  unfold onK onw
  have := cnt_b (aW j) (4 * gw j).toNat
  split <;> omega
theorem links_960 {K O : Int → Int} (P : Prt K O) : sm (onK K) 336 ≤ 960 := by
  have h1 : sm (onK K) 336 ≤ sm (fun c => sm (fun s => if K c ≠ -1 ∧ inD c s then gq s else 0) 256) 336 := sm_le 336 (fun j hj => by
    unfold onK
    by_cases z : K (j : Int) = -1
    · rw [if_pos z]
      have : sm (fun s => if K (j : Int) ≠ -1 ∧ inD j s then gq s else 0) 256 = 0 := sm_0 (fun s hs => if_neg (fun q => q.1 z))
      rw [this]
      exact Int.le_refl _
    · rw [if_neg z, onw_e hj]
      have e : sm (fun s => if K (j : Int) ≠ -1 ∧ inD j s then gq s else 0) 256 = sm (fun s => if inD j s then gq s else 0) 256 := sm_c 256 (fun s hs => by
        by_cases y : inD j s
        · rw [if_pos y, if_pos ⟨z, y⟩]
        · rw [if_neg y, if_neg (fun q => y q.2)])
      rw [e, box_sum hj]
      have := nf_le ⟨j, hj⟩
      exact Int.ofNat_le.mpr this)
  have h2 : sm (fun c => sm (fun s => if K c ≠ -1 ∧ inD c s then gq s else 0) 256) 336 = 960 := by
    rw [sm_swap (fun c s => if K c ≠ -1 ∧ inD c s then gq s else 0) 256 336]
    have e : sm (fun s => sm (fun c => if K c ≠ -1 ∧ inD c s then gq s else 0) 336) 256 = sm gq 256 := sm_c 256 (fun s hs => by
      obtain ⟨q1, q2, q3⟩ := P.1 s (by omega) (by omega)
      have eO : (((O s).toNat : Nat) : Int) = O s := by omega
      have := sm_dl (v := gq s) (i := (O s).toNat) 336
      rw [if_pos (by omega)] at this
      refine Eq.trans (sm_c 336 (fun c hc => ?_)) this
      rw [eO]
      by_cases z : (c : Int) = O s
      · rw [if_pos z, z, if_pos ⟨q2, q3.2⟩]
      · rw [if_neg z, if_neg (fun q => z (P.2 c s ⟨by omega, by omega⟩ q.1 ⟨⟨by omega, by omega⟩, q.2⟩).symm)])
    rw [e, nsm_e gq_e 256, nq_all]
    rfl
  rw [h2] at h1
  exact h1
