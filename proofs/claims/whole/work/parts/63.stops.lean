/-! stops -/
/-- the first of the first N that is p, or N -/
def fst1 (p : Int → Prop) [DecidablePred p] : Nat → Int → Int
  | 0, a => a
  | k + 1, a => if p a then a else fst1 p k (a + 1)
theorem fst1_b (p : Int → Prop) [DecidablePred p] : ∀ (k : Nat) (a : Int), a ≤ fst1 p k a ∧ fst1 p k a ≤ a + k ∧ (fst1 p k a < a + k → p (fst1 p k a))
  | 0, a => by
    refine ⟨Int.le_refl _, ?_, ?_⟩
    · show a ≤ a + ((0 : Nat) : Int)
      omega
    · intro q
      exact absurd (show a < a + ((0 : Nat) : Int) from q) (by omega)
  | k + 1, a => by
    have ih := fst1_b p k (a + 1)
    show a ≤ (if p a then a else fst1 p k (a + 1)) ∧ (if p a then a else fst1 p k (a + 1)) ≤ a + ((k + 1 : Nat) : Int) ∧ ((if p a then a else fst1 p k (a + 1)) < a + ((k + 1 : Nat) : Int) → p (if p a then a else fst1 p k (a + 1)))
    by_cases z : p a
    · rw [if_pos z]
      exact ⟨Int.le_refl _, by omega, fun _ => z⟩
    · rw [if_neg z]
      exact ⟨by omega, by omega, fun q => ih.2.2 (by omega)⟩
theorem fst1_c {p q : Int → Prop} [DecidablePred p] [DecidablePred q] : ∀ (k : Nat) (a : Int), (∀ j : Int, a ≤ j → j < a + k → (p j ↔ q j)) → fst1 p k a = fst1 q k a
  | 0, a, _ => rfl
  | k + 1, a, h => by
    have ih := fst1_c (p := p) (q := q) k (a + 1) (fun j h1 h2 => h j (by omega) (by omega))
    show (if p a then a else fst1 p k (a + 1)) = if q a then a else fst1 q k (a + 1)
    rw [ih]
    have e := h a (by omega) (by omega)
    by_cases z : p a
    · rw [if_pos z, if_pos (e.mp z)]
    · rw [if_neg z, if_neg (fun w => z (e.mpr w))]
theorem e_firstSpare {n : Int} {d : Nat} {Q : Int → Hp → Prop} {h : Hp} : wpS (EF n) (d + 3) mX0_firstSpare [(2, 30)] h Q = Q (if fst1 (fun j => h 31 j = 4) 6 0 = 6 then -9 else fst1 (fun j => h 31 j = 4) 6 0) h := by
  have key : ∀ (k : Nat) (a : Int), 0 ≤ a → a + k = 6 → Ws (EF n) (d + 2) mX0_firstSpare Q 2 [(2, 30), (0, a)] [] h = Q (if fst1 (fun j => h 31 j = 4) k a = 6 then -9 else fst1 (fun j => h 31 j = 4) k a) h := by
    intro k
    induction k with
    | zero =>
      intro a h0 ha
      have e : a = 6 := by omega
      subst e
      rw [b_X0_firstSpare_2, if_neg (by decide)]
      rfl
    | succ k ih =>
      intro a h0 ha
      rw [b_X0_firstSpare_2, if_pos (by omega), e_isSpare, b2_if, w32_of (x := a + 1) (by omega) (by omega), ih (a + 1) (by omega) (by omega)]
      show _ = Q (if (if h 31 a = 4 then a else fst1 (fun j => h 31 j = 4) k (a + 1)) = 6 then -9 else (if h 31 a = 4 then a else fst1 (fun j => h 31 j = 4) k (a + 1))) h
      by_cases z : h 31 a = 4
      · rw [if_pos (show (0 ≤ a ∧ a < 6) ∧ h 31 a = 4 from ⟨by omega, z⟩), if_pos z, if_neg (by omega)]
      · rw [if_neg (fun q => z q.2), if_neg z]
  rw [u_X0_firstSpare]
  exact key 6 0 (by decide) (by decide)
/-- m's cells to s, of the first k -/
def hov (p : Int → Prop) [DecidablePred p] (G : Int → Int) (m s : Int) (k : Int) : Int → Int := fun j => if (0 ≤ j ∧ j < k) ∧ p j ∧ G j = m then s else G j
theorem hov_0 (p : Int → Prop) [DecidablePred p] (G : Int → Int) (m s : Int) : hov p G m s ((0 : Nat) : Int) = G := by
  funext j
  unfold hov
  exact if_neg (fun q => by omega)
theorem hov_s (p : Int → Prop) [DecidablePred p] (G : Int → Int) (m s : Int) (k : Nat) : hov p G m s ((k + 1 : Nat) : Int) = if p k ∧ G k = m then up (hov p G m s k) k s else hov p G m s k := by
  by_cases z : p k ∧ G k = m
  · rw [if_pos z]
    funext j
    unfold up hov
    by_cases w : j = (k : Int)
    · rw [if_pos w, w]
      exact if_pos ⟨by omega, z⟩
    · rw [if_neg w]
      by_cases v : (0 ≤ j ∧ j < (k : Int)) ∧ p j ∧ G j = m
      · rw [if_pos v, if_pos ⟨by omega, v.2⟩]
      · rw [if_neg v]
        exact if_neg (fun q => v ⟨by omega, q.2⟩)
  · rw [if_neg z]
    funext j
    unfold hov
    by_cases w : j = (k : Int)
    · subst w
      rw [if_neg (fun q => z q.2), if_neg (fun q => z q.2)]
    · by_cases v : (0 ≤ j ∧ j < (k : Int)) ∧ p j ∧ G j = m
      · rw [if_pos v, if_pos ⟨by omega, v.2⟩]
      · rw [if_neg v]
        exact if_neg (fun q => v ⟨by omega, q.2⟩)
theorem hov_k (p : Int → Prop) [DecidablePred p] (G : Int → Int) (m s : Int) (k : Nat) : hov p G m s k k = G k := if_neg (fun q => by omega)
theorem e_handOver {E : PvEnv} (hE : ∀ k, E 11 k = refT 11 k) {d : Nat} {Q : Int → Hp → Prop} {h : Hp} {m s : Int} : wpS E (d + 3) mX8_handOver [(2, 11), (0, m), (0, s)] h Q = Q 0 (hrow h 14 (hov (fun c => h 12 c ≠ -1) (h 14) m s 336)) := by
  rw [u_X8_handOver hE]
  have l := loop_n (P := fun k => Ws E (d + 2) mX8_handOver Q 2 [(2, 11), (0, m), (0, s), (0, (k : Int))] [] (hrow h 14 (hov (fun c => h 12 c ≠ -1) (h 14) m s k))) 336 (by
    intro k hk
    have e12 : hrow h 14 (hov (fun c => h 12 c ≠ -1) (h 14) m s k) 12 = h 12 := hrow_n _ _ (by decide)
    rw [b_X8_handOver_2 hE, if_pos (by omega), e_w_isThere hE, b2_if, e12, hrow_s, hov_k, w32_n1 (by omega), hst_rr, hov_s]
    by_cases z : h 12 (k : Int) = -1
    · rw [if_neg (fun q => q.2 z), if_neg (fun q => q.1 z)]
    · rw [if_pos (show (0 ≤ (k : Int) ∧ (k : Int) < 336) ∧ h 12 (k : Int) ≠ -1 from ⟨by omega, z⟩), and_tl (by omega), and_tl (by omega)]
      by_cases w : h 14 (k : Int) = m
      · rw [if_pos w, if_pos ⟨z, w⟩]
      · rw [if_neg w, if_neg (fun q => w q.2)])
  rw [hov_0, hrow_self] at l
  refine l.trans ?_
  rw [b_X8_handOver_2 hE, if_neg (by decide)]
  rfl
theorem e_m_stops {E : PvEnv} (hE : ∀ k, E 50 k = refT 50 k) {d : Nat} {Q : Int → Hp → Prop} {h : Hp} {m : Int} : wpS E (d + 3) mX10_stops [(2, 50), (0, m)] h Q = if 0 ≤ m ∧ m < 6 then (if h 74 m = 4 ∨ fst1 (fun j => h 74 j = 4) 6 0 = 6 then Q (-4) h else Q (fst1 (fun j => h 74 j = 4) 6 0) (hst (hrow h 60 (hov (fun c => h 57 c ≠ 0) (h 60) m (fst1 (fun j => h 74 j = 4) 6 0) 336)) 74 (fst1 (fun j => h 74 j = 4) 6 0) 0)) else Q (-1) h := by
  rw [u_X10_stops hE, e_m_isMachine, b2_if]
  by_cases z1 : 0 ≤ m ∧ m < 6
  · rw [if_pos z1, if_pos (by omega)]
    have key : ∀ (k : Nat) (a : Int), 0 ≤ a → a + k = 6 → Ws E (d + 2) mX10_stops Q 11 [(2, 50), (0, m), (0, a), (9, 0)] [] h = Ws E (d + 2) mX10_stops Q 33 [(2, 50), (0, m), (0, fst1 (fun j => h 74 j = 4) k a), (9, 0)] [] h := by
      intro k
      induction k with
      | zero =>
        intro a h0 ha
        rw [b_X10_stops_11 hE, if_neg (by omega)]
        rfl
      | succ k ih =>
        intro a h0 ha
        rw [b_X10_stops_11 hE, if_pos (by omega), and_tl (by omega), w32_of (x := a + 1) (by omega) (by omega), ih (a + 1) (by omega) (by omega)]
        show _ = Ws E (d + 2) mX10_stops Q 33 [(2, 50), (0, m), (0, if h 74 a = 4 then a else fst1 (fun j => h 74 j = 4) k (a + 1)), (9, 0)] [] h
        by_cases z : h 74 a = 4
        · rw [if_pos z, if_pos z]
        · rw [if_neg z, if_neg z]
    have hb := fst1_b (fun j => h 74 j = 4) 6 0
    rw [key 6 0 (by decide) (by decide)]
    revert hb
    generalize fst1 (fun j => h 74 j = 4) 6 0 = s
    intro hb
    rw [b_X10_stops_33 hE, and_tl z1]
    by_cases z2 : h 74 m = 4
    · rw [if_pos z2, if_pos (Or.inl z2)]
    · rw [if_neg z2]
      by_cases z3 : s = 6
      · rw [if_pos z3, if_pos (Or.inr z3)]
      · rw [if_neg z3, if_neg (by omega)]
        have l := loop_n (P := fun k => Ws E (d + 2) mX10_stops Q 54 [(2, 50), (0, m), (0, s), (0, (k : Int))] [] (hrow h 60 (hov (fun c => h 57 c ≠ 0) (h 60) m s k))) 336 (by
          intro k hk
          have e57 : hrow h 60 (hov (fun c => h 57 c ≠ 0) (h 60) m s k) 57 = h 57 := hrow_n _ _ (by decide)
          have e0 : up (hov (fun c => h 57 c ≠ 0) (h 60) m s k) (k : Int) (h 60 (k : Int)) = hov (fun c => h 57 c ≠ 0) (h 60) m s k := by
            funext j
            rw [up_at]
            split
            · rename_i q
              rw [q, hov_k]
            · rfl
          rw [b_X10_stops_54 hE, if_pos (by omega), and_tl (by omega), and_tl (by omega), and_tl (by omega), b_X10_stops_89 hE, and_tl (by omega), and_tl (by omega), e57, hrow_s, hov_k, w32_n1 (by omega), hst_rr, hst_rr, e0, hov_s]
          by_cases z : h 57 (k : Int) = 0
          · rw [if_pos z, if_neg (fun q => q.1 z)]
          · rw [if_neg z]
            by_cases w : h 60 (k : Int) = m
            · rw [if_pos w, if_pos ⟨z, w⟩]
            · rw [if_neg w, if_neg (fun q => w q.2)])
        rw [hov_0, hrow_self] at l
        refine l.trans ?_
        rw [b_X10_stops_54 hE, if_neg (by decide), and_tl (by omega)]
        rfl
  · rw [if_neg z1, if_neg (by omega)]
theorem p_stops {n m : Int} : Pr n mX9_stops mX10_stops [(0, m)] := by
  intro h hC
  have hC' := hC
  obtain ⟨c1, c2, c3, c4, c5, c6, c7, c8, c9, c10, c11, c12, c13, c14, c15⟩ := hC
  by_cases z1 : 0 ≤ m ∧ m < 6
  · have em := (c11 m z1.1 z1.2).1
    have ef : fst1 (fun j => h 74 j = 4) 6 0 = fst1 (fun j => h 31 j = 4) 6 0 := fst1_c 6 0 (fun j h1 h2 => by rw [(c11 j (by omega) (by omega)).1])
    have hb := fst1_b (fun j => h 31 j = 4) 6 0
    by_cases z2 : h 31 m = 4 ∨ fst1 (fun j => h 31 j = 4) 6 0 = 6
    · have z2' : h 74 m = 4 ∨ fst1 (fun j => h 74 j = 4) 6 0 = 6 := by rw [em, ef]; exact z2
      refine ⟨-4, h, h, fun Q => ?_, fun Q => (e_m_stops (h := h) (EF_50 n)).trans ((if_pos z1).trans (if_pos z2')), hC'⟩
      rw [u_X9_stops, e_isMachine, b2_if, if_pos z1, e_firstSpare, e_isSpare, b2_if]
      by_cases v : h 31 m = 4
      · rw [if_pos ⟨z1, v⟩]
      · rw [if_neg (fun q => v q.2), e_isMachine, b2_if, if_pos (show fst1 (fun j => h 31 j = 4) 6 0 = 6 by omega), if_neg (by decide)]
    · have z2' : ¬ (h 74 m = 4 ∨ fst1 (fun j => h 74 j = 4) 6 0 = 6) := by rw [em, ef]; exact z2
      have n1 : ¬ h 31 m = 4 := fun q => z2 (Or.inl q)
      have n2 : ¬ fst1 (fun j => h 31 j = 4) 6 0 = 6 := fun q => z2 (Or.inr q)
      have e0 : hst h 31 (fst1 (fun j => h 31 j = 4) 6 0) 0 12 = h 12 := hst_off h (by decide)
      have e1 : hst h 31 (fst1 (fun j => h 31 j = 4) 6 0) 0 14 = h 14 := hst_off h (by decide)
      refine ⟨fst1 (fun j => h 31 j = 4) 6 0, hrow (hst h 31 (fst1 (fun j => h 31 j = 4) 6 0) 0) 14 (hov (fun c => h 12 c ≠ -1) (h 14) m (fst1 (fun j => h 31 j = 4) 6 0) 336), hst (hrow (hrow (hst h 31 (fst1 (fun j => h 31 j = 4) 6 0) 0) 14 (hov (fun c => h 12 c ≠ -1) (h 14) m (fst1 (fun j => h 31 j = 4) 6 0) 336)) 60 (hov (fun c => h 57 c ≠ 0) (h 60) m (fst1 (fun j => h 31 j = 4) 6 0) 336)) 74 (fst1 (fun j => h 31 j = 4) 6 0) 0, fun Q => ?_, fun Q => ?_, ?_⟩
      · rw [u_X9_stops, e_isMachine, b2_if, if_pos z1, e_firstSpare, e_isSpare, b2_if, if_neg (fun q => n1 q.2), if_neg n2, e_isMachine, b2_if, if_pos (by omega), and_tl (by omega), e_handOver (EF_11 n)]
        rw [e1]
        rfl
      · have e := (e_m_stops (Q := Q) (d := 6) (m := m) (h := hrow (hst h 31 (fst1 (fun j => h 31 j = 4) 6 0) 0) 14 (hov (fun c => h 12 c ≠ -1) (h 14) m (fst1 (fun j => h 31 j = 4) 6 0) 336)) (EF_50 n)).trans ((if_pos z1).trans (if_neg z2'))
        have ef' : fst1 (fun j => (hrow (hst h 31 (fst1 (fun j => h 31 j = 4) 6 0) 0) 14 (hov (fun c => h 12 c ≠ -1) (h 14) m (fst1 (fun j => h 31 j = 4) 6 0) 336)) 74 j = 4) 6 0 = fst1 (fun j => h 31 j = 4) 6 0 := ef
        rw [ef'] at e
        exact e
      · revert hb n2
        generalize fst1 (fun j => h 31 j = 4) 6 0 = s
        intro hb n2
        unfold Cpl
        simp only [hst_at, hrow_at, up_at, Int.reduceEq, if_true, if_false, reduceIte]
        refine ⟨c1, c2, c3, c4, c5, c6, ?_, c8, c9, c10, ?_, c12, c13, c14, c15⟩
        · refine ⟨c7.1, fun j j1 j2 => ?_, c7.2.2⟩
          obtain ⟨⟨a1, a2, a3, a4⟩, q⟩ := c7.2.1 j j1 j2
          have aT := cw_T c7 (c := j) ⟨j1, j2⟩
          have hs : rMa s := ⟨by omega, by omega⟩
          unfold hov
          by_cases v : h 12 j = -1
          · rw [if_neg (fun q => q.2.1 v), if_neg (fun q => q.2.1 (aT.mpr v))]
            exact ⟨⟨a1, a2, a3, a4⟩, q⟩
          · have vT : h 57 j ≠ 0 := fun q => v (aT.mp q)
            have eg := (a4 v).2.2
            by_cases w : h 14 j = m
            · rw [if_pos ⟨⟨j1, j2⟩, v, w⟩, if_pos ⟨⟨j1, j2⟩, vT, by rw [eg]; exact w⟩]
              exact ⟨⟨a1, a2, ⟨a3.1, a3.2.1, hs, hs⟩, fun p => ⟨(a4 p).1, (a4 p).2.1, rfl⟩⟩, q⟩
            · rw [if_neg (fun q => w q.2.2), if_neg (fun q => w (by rw [← eg]; exact q.2.2))]
              exact ⟨⟨a1, a2, a3, a4⟩, q⟩
        · intro j j1 j2
          have a := c11 j j1 j2
          by_cases w : j = s
          · subst w
            rw [up_s, up_s]
            exact ⟨rfl, by decide, a.2.2⟩
          · rw [up_n _ _ w, up_n _ _ w]
            exact a
  · exact ⟨-1, h, h, fun Q => by rw [u_X9_stops, e_isMachine, b2_if, if_neg z1], fun Q => (e_m_stops (h := h) (EF_50 n)).trans (if_neg z1), hC'⟩
