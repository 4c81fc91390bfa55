/-! deal -/
theorem up_self (f : Int → Int) (i : Int) : up f i (f i) = f := by
  funext j
  unfold up
  split
  · rename_i e; rw [e]
  · rfl
section DEAL
variable {n : Int} {d : Nat} {h : Hp}
def slw (S : Int → Int) : Int → Int := fun m => if S m = 1 then 2 else 1
def wC (K V : Int → Int) : Int → Int := fun a => if K (V a) = 4 then 0 else 1
theorem e_hasSpareIn {Q : Int → Hp → Prop} {s : Int} : wpS (EF n) (d + 3) mX0_hasSpareIn [(2, 30), (0, s)] h Q = Q (if fst1 (fun m => bitI s m ∧ h 31 m = 4) 6 0 = 6 then 0 else 1) h := by
  have key : ∀ (k : Nat) (a : Int), 0 ≤ a → a + k = 6 → Ws (EF n) (d + 2) mX0_hasSpareIn Q 2 [(2, 30), (0, s), (0, a)] [] h = Q (if fst1 (fun m => bitI s m ∧ h 31 m = 4) k a = 6 then 0 else 1) h := by
    intro k
    induction k with
    | zero =>
      intro a h0 ha
      rw [b_X0_hasSpareIn_2, if_neg (by omega)]
      show _ = Q (if a = 6 then 0 else 1) h
      rw [if_pos (by omega)]
    | succ k ih =>
      intro a h0 ha
      rw [b_X0_hasSpareIn_2, if_pos (by omega), e_isIn, b2_if, e_isSpare, b2_if, w32_of (x := a + 1) (by omega) (by omega), ih (a + 1) (by omega) (by omega)]
      show _ = Q (if (if bitI s a ∧ h 31 a = 4 then a else fst1 (fun m => bitI s m ∧ h 31 m = 4) k (a + 1)) = 6 then 0 else 1) h
      by_cases z1 : bitI s a
      · rw [if_pos z1]
        by_cases z2 : h 31 a = 4
        · rw [if_pos (show (0 ≤ a ∧ a < 6) ∧ h 31 a = 4 from ⟨by omega, z2⟩), if_pos (show bitI s a ∧ h 31 a = 4 from ⟨z1, z2⟩), if_neg (show ¬ a = 6 by omega)]
        · rw [if_neg (show ¬ ((0 ≤ a ∧ a < 6) ∧ h 31 a = 4) from fun q => z2 q.2), if_neg (show ¬ (bitI s a ∧ h 31 a = 4) from fun q => z2 q.2)]
      · rw [if_neg z1, if_neg (show ¬ (bitI s a ∧ h 31 a = 4) from fun q => z1 q.1)]
  rw [u_X0_hasSpareIn]
  exact key 6 0 (by decide) (by decide)
theorem slw_b (S : Int → Int) : ∀ m : Int, 0 ≤ m → m < 6 → slw S m = 1 ∨ slw S m = 2 := fun m _ _ => by
  unfold slw
  split <;> simp
theorem e_leastLimit {Q : Int → Hp → Prop} {s W : Int} : wpS (EF n) (d + 2) mX0_leastLimit [(2, 30), (0, s), (0, W)] h Q = Q (fst1 (fun l => W ≤ rom s (slw (h 31)) l 6) 512 0) h := by
  have inner : ∀ (l : Int), 0 ≤ l → l < 512 → Ws (EF n) (d + 1) mX0_leastLimit Q 15 [(2, 30), (0, s), (0, W), (0, l), (0, 0), (0, 0)] [] h = Ws (EF n) (d + 1) mX0_leastLimit Q 15 [(2, 30), (0, s), (0, W), (0, l), (0, rom s (slw (h 31)) l 6), (0, ((6 : Nat) : Int))] [] h := by
    intro l l0 l1
    refine loop_n (P := fun k => Ws (EF n) (d + 1) mX0_leastLimit Q 15 [(2, 30), (0, s), (0, W), (0, l), (0, rom s (slw (h 31)) l k), (0, (k : Int))] [] h) 6 (fun k hk => ?_)
    have rb := rom_b (set := s) (lim := l) (slw_b (h 31)) l0 k (by omega)
    have kb : (k : Int) * l ≤ 3072 := by
      have := mulb (x := (k : Int)) (y := l) (X := 6) (Y := 512) (by omega) (by omega)
      omega
    show _ = Ws (EF n) (d + 1) mX0_leastLimit Q 15 [(2, 30), (0, s), (0, W), (0, l), (0, rom s (slw (h 31)) l k + (if bitI s k then l / slw (h 31) k else 0)), (0, ((k + 1 : Nat) : Int))] [] h
    rw [b_X0_leastLimit_15, if_pos (by omega), e_isIn, b2_if, and_tl (by omega), b_X0_leastLimit_51, b_X0_leastLimit_51, w32_n1 (by omega), td l0, w32_of (x := l / 2) (by omega) (by omega), w32_of (x := rom s (slw (h 31)) l k + l / 2) (by omega) (by omega), w32_of (x := rom s (slw (h 31)) l k + l) (by omega) (by omega)]
    unfold slw
    by_cases z : bitI s k
    · rw [if_pos z, if_pos z]
      by_cases y : h 31 (k : Int) = 1
      · rw [if_pos y, if_pos y]
      · rw [if_neg y, if_neg y, Int.ediv_one]
    · rw [if_neg z, if_neg z, Int.add_zero]
  have key : ∀ (k : Nat) (a : Int) (v4 v5 : PV), 0 ≤ a → a + k = 512 → Ws (EF n) (d + 1) mX0_leastLimit Q 2 [(2, 30), (0, s), (0, W), (0, a), v4, v5] [] h = Q (fst1 (fun l => W ≤ rom s (slw (h 31)) l 6) k a) h := by
    intro k
    induction k with
    | zero =>
      intro a v4 v5 h0 ha
      rw [b_X0_leastLimit_2, if_neg (by omega)]
      rfl
    | succ k ih =>
      intro a v4 v5 h0 ha
      rw [b_X0_leastLimit_2, if_pos (by omega), inner a h0 (by omega), b_X0_leastLimit_15, if_neg (by decide), w32_of (x := a + 1) (by omega) (by omega), ih (a + 1) _ _ (by omega) (by omega)]
      show _ = Q (if W ≤ rom s (slw (h 31)) a 6 then a else fst1 (fun l => W ≤ rom s (slw (h 31)) l 6) k (a + 1)) h
      by_cases z : W ≤ rom s (slw (h 31)) a 6
      · rw [if_pos z, if_neg (by omega)]
      · rw [if_neg z, if_pos (by omega)]
  rw [u_X0_leastLimit]
  exact key 512 0 _ _ (by decide) (by decide)
theorem e_takeUpTo {K O : Int → Int} {Q : Int → Hp → Prop} {G : Int → Int} {m a lim : Int} (P : Prt (h 12) O) (o : OrdOK O (h 20 6) (h 25)) (hm : 0 ≤ m ∧ m < 6) (ha : 0 ≤ a ∧ a ≤ h 20 6) (hl : 0 ≤ lim ∧ lim ≤ 512) : wpS (EF n) (d + 3) mX0_takeUpTo [(2, 30), (2, 11), (2, 20), (0, m), (0, a), (0, lim)] (hrow h 14 G) Q = Q (a + gk (wC (h 12) (h 25)) (h 20 6) (slw (h 31) m) lim 256 a 0) (hrow h 14 (asg (h 25) m (gk (wC (h 12) (h 25)) (h 20 6) (slw (h 31) m) lim 256 a 0) a G)) := by
  have mb := ord_m o
  have bm := slw_b (h 31) m hm.1 hm.2
  have key : ∀ (f : Nat) (b s : Int) (G : Int → Int) (v : PV), 0 ≤ b → b ≤ h 20 6 → h 20 6 - b ≤ f → 0 ≤ s → s ≤ lim → Ws (EF n) (d + 2) mX0_takeUpTo Q 7 [(2, 30), (2, 11), (2, 20), (0, m), (0, a), (0, lim), (0, s), (0, b), v] [] (hrow h 14 G) = Q (b + gk (wC (h 12) (h 25)) (h 20 6) (slw (h 31) m) lim f b s) (hrow h 14 (asg (h 25) m (gk (wC (h 12) (h 25)) (h 20 6) (slw (h 31) m) lim f b s) b G)) := by
    intro f
    induction f with
    | zero =>
      intro b s G v b0 b1 bf s0 s1
      have x20 : hrow h 14 G 20 = h 20 := hrow_n _ _ (by decide)
      rw [b_X0_takeUpTo_7, x20, if_neg (by omega)]
      show _ = Q (b + ((0 : Nat) : Int)) (hrow h 14 G)
      rw [show b + ((0 : Nat) : Int) = b by omega]
    | succ f ih =>
      intro b s G v b0 b1 bf s0 s1
      have x20 : hrow h 14 G 20 = h 20 := hrow_n _ _ (by decide)
      have x25 : hrow h 14 G 25 = h 25 := hrow_n _ _ (by decide)
      have x12 : hrow h 14 G 12 = h 12 := hrow_n _ _ (by decide)
      have x31 : hrow h 14 G 31 = h 31 := hrow_n _ _ (by decide)
      have un : gk (wC (h 12) (h 25)) (h 20 6) (slw (h 31) m) lim (f + 1) b s = if b < h 20 6 ∧ s + slw (h 31) m * wC (h 12) (h 25) b ≤ lim then gk (wC (h 12) (h 25)) (h 20 6) (slw (h 31) m) lim f (b + 1) (s + slw (h 31) m * wC (h 12) (h 25) b) + 1 else 0 := rfl
      rw [b_X0_takeUpTo_7, x20]
      by_cases z : b < h 20 6
      · have r := (ord_at P o b0 z).1
        have r' : 0 ≤ h 25 b ∧ h 25 b < 336 := r
        have ew : (if h 12 (h 25 b) = 4 then 0 else if h 31 m = 1 then 2 else 1) = slw (h 31) m * wC (h 12) (h 25) b := by
          unfold slw wC
          by_cases y : h 12 (h 25 b) = 4
          · rw [if_pos y, if_pos y, Int.mul_zero]
          · rw [if_neg y, if_neg y, Int.mul_one]
        have wb : 0 ≤ slw (h 31) m * wC (h 12) (h 25) b ∧ slw (h 31) m * wC (h 12) (h 25) b ≤ 2 := by
          unfold wC
          split <;> rcases bm with e | e <;> rw [e] <;> omega
        rw [if_pos z, u_X5_cellAt, if_neg (by omega), x20, if_pos z, if_pos (by omega), and_tl (by omega), x25, e_isName, b2_if, if_pos r', e_workFor r hm, x12, x31, ew, and_tl r', hst_rr, un]
        generalize slw (h 31) m * wC (h 12) (h 25) b = e at *
        rw [w32_of (x := s + e) (by omega) (by omega), w32_of (x := b + 1) (by omega) (by omega)]
        by_cases y : s + e ≤ lim
        · rw [if_neg (by omega), if_pos ⟨z, y⟩, ih (b + 1) (s + e) _ _ (by omega) (by omega) (by omega) (by omega) y]
          rw [show b + ((gk (wC (h 12) (h 25)) (h 20 6) (slw (h 31) m) lim f (b + 1) (s + e) + 1 : Nat) : Int) = b + 1 + (gk (wC (h 12) (h 25)) (h 20 6) (slw (h 31) m) lim f (b + 1) (s + e) : Int) by omega]
          rfl
        · rw [if_pos (by omega), if_neg (fun q => y q.2), show b + ((0 : Nat) : Int) = b by omega]
          rfl
      · rw [if_neg z, un, if_neg (fun q => z q.1), show b + ((0 : Nat) : Int) = b by omega]
        rfl
  rw [u_X0_takeUpTo]
  exact key 256 a 0 G _ ha.1 ha.2 (by omega) (Int.le_refl _) hl.1
theorem wC_b (K V : Int → Int) (N : Int) : ∀ i : Int, 0 ≤ i → i < N → wC K V i = 0 ∨ wC K V i = 1 := fun i _ _ => by
  unfold wC
  split <;> simp
/-- the work in all -/
theorem wC_all {K O : Int → Int} {N : Int} {V : Int → Int} (P : Prt K O) (o : OrdOK O N V) : pw (wC K V) N = N - cnt (fun c => K c = 4) 336 := by
  have mb := ord_m o
  rw [← ord_kind P o 4 (by decide)]
  unfold pw
  have e : sm (wC K V) N.toNat + sm (fun i => if K (V i) = 4 then 1 else 0) N.toNat = sm (fun _ => 1) N.toNat := by
    rw [← sm_add]
    refine sm_c _ (fun j _ => ?_)
    unfold wC
    split <;> rfl
  have e2 : ∀ k : Nat, sm (fun _ => 1) k = (k : Int) := by
    intro k
    induction k with
    | zero => rfl
    | succ k ih => show sm (fun _ => 1) k + 1 = _; rw [ih]; omega
  rw [e2] at e
  omega
abbrev lmt (s W : Int) (S : Int → Int) : Int := fst1 (fun l => W ≤ rom s (slw S) l 6) 512 0
theorem lmt_b (s W : Int) (S : Int → Int) : 0 ≤ lmt s W S ∧ lmt s W S ≤ 512 := by
  have := fst1_b (fun l => W ≤ rom s (slw S) l 6) 512 0
  unfold lmt
  omega
theorem e_shareOut {O : Int → Int} {Q : Int → Hp → Prop} {s : Int} (P : Prt (h 12) O) (o : OrdOK O (h 20 6) (h 25)) : wpS (EF n) (d + 4) mX0_shareOut [(2, 30), (2, 11), (2, 20), (0, s)] h Q = Q (lmt s (pw (wC (h 12) (h 25)) (h 20 6)) (h 31)) (hrow h 14 (dlG (h 25) (wC (h 12) (h 25)) (h 20 6) s (lmt s (pw (wC (h 12) (h 25)) (h 20 6)) (h 31)) (slw (h 31)) 6 (h 14))) := by
  have mb := ord_m o
  have cb := cnt_b (fun c => h 12 c = 4) 336
  have lb := lmt_b s (pw (wC (h 12) (h 25)) (h 20 6)) (h 31)
  rw [u_X0_shareOut, e_cellsOfKind (EF_11 n), w32_of (x := h 20 6 - cnt (fun c => h 12 c = 4) 336) (by omega) (by omega), ← wC_all P o, e_leastLimit]
  show Ws (EF n) (d + 3) mX0_shareOut Q 23 [(2, 30), (2, 11), (2, 20), (0, s), (0, lmt s (pw (wC (h 12) (h 25)) (h 20 6)) (h 31)), (0, 0), (0, 0)] [] h = _
  generalize lmt s (pw (wC (h 12) (h 25)) (h 20 6)) (h 31) = lim at *
  have inv := plc_inv (w := wC (h 12) (h 25)) (N := h 20 6) (lim := lim) (set := s) (by' := slw (h 31)) (wC_b _ _ _) (slw_b (h 31)) mb lb.1
  have l := loop_n (P := fun m => Ws (EF n) (d + 3) mX0_shareOut Q 23 [(2, 30), (2, 11), (2, 20), (0, s), (0, lim), (0, plc (wC (h 12) (h 25)) (h 20 6) s lim (slw (h 31)) m), (0, (m : Int))] [] (hrow h 14 (dlG (h 25) (wC (h 12) (h 25)) (h 20 6) s lim (slw (h 31)) m (h 14)))) 6 (by
    intro m hm
    have i1 := (inv m (by omega)).1
    rw [b_X0_shareOut_23, if_pos (by omega), e_isIn, b2_if, w32_n1 (by omega), e_takeUpTo (K := h 12) P o (by omega) i1 lb]
    show _ = Ws (EF n) (d + 3) mX0_shareOut Q 23 [(2, 30), (2, 11), (2, 20), (0, s), (0, lim), (0, if bitI s m then plc (wC (h 12) (h 25)) (h 20 6) s lim (slw (h 31)) m + gk (wC (h 12) (h 25)) (h 20 6) (slw (h 31) m) lim 256 (plc (wC (h 12) (h 25)) (h 20 6) s lim (slw (h 31)) m) 0 else plc (wC (h 12) (h 25)) (h 20 6) s lim (slw (h 31)) m), (0, ((m + 1 : Nat) : Int))] [] (hrow h 14 (if bitI s m then asg (h 25) m (gk (wC (h 12) (h 25)) (h 20 6) (slw (h 31) m) lim 256 (plc (wC (h 12) (h 25)) (h 20 6) s lim (slw (h 31)) m) 0) (plc (wC (h 12) (h 25)) (h 20 6) s lim (slw (h 31)) m) (dlG (h 25) (wC (h 12) (h 25)) (h 20 6) s lim (slw (h 31)) m (h 14)) else dlG (h 25) (wC (h 12) (h 25)) (h 20 6) s lim (slw (h 31)) m (h 14)))
    by_cases z : bitI s m
    · rw [if_pos z, if_pos z, if_pos z]
    · rw [if_neg z, if_neg z, if_neg z])
  have e0 : hrow h 14 (dlG (h 25) (wC (h 12) (h 25)) (h 20 6) s lim (slw (h 31)) 0 (h 14)) = h := hrow_self h 14
  rw [e0] at l
  refine l.trans ?_
  show Ws (EF n) (d + 3) mX0_shareOut Q 23 [(2, 30), (2, 11), (2, 20), (0, s), (0, lim), (0, _), (0, ((6 : Nat) : Int))] [] _ = _
  rw [b_X0_shareOut_23, if_neg (by decide)]
end DEAL
