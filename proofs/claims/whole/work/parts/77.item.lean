/-! fault, field: items and texts -/
theorem PS_law {z : Int} {M0 R M : Int → Int} {a b c p j a' b' c' p' j' : Int} (h : PS z M0 R M) (hl : CLaw a b c p j a' b' c' p' j') {R' M' : Int → Int} (hR : R' 6 = R 6 ∧ R' 7 = R 7 ∧ R' 0 = a ∧ R' 1 = b ∧ R' 2 = c ∧ R' 3 = p ∧ R' 4 = j) (hM : M' 20 = M 20 ∧ M' 15 = a' ∧ M' 16 = b' ∧ M' 17 = c' ∧ M' 18 = p' ∧ M' 19 = j') (hF : ∀ i : Int, i < 15 ∨ 21 < i → M' i = M i) : PS z M0 R' M' := by
  obtain ⟨h1, h2, h3, h4⟩ := h
  obtain ⟨r6, r7, r0, r1, r2, r3, r4⟩ := hR
  obtain ⟨m0, m1, m2, m3, m4, m5⟩ := hM
  refine ⟨r6.trans h1, ?_, ?_, fun i hi => (hF i hi).trans (h4 i hi)⟩
  · rw [r7, m0]; exact h2
  · rw [r0, r1, r2, r3, r4, m1, m2, m3, m4, m5]; exact hl
section PARSE
variable {n : Int} {h g : Hp} {f : Int → Int} {z t : Int} {M0 : Int → Int} {d d' : Nat}
def RdS (h g : Hp) (z : Int) (M0 R : Int → Int) (X Y : (Int → Hp → Prop) → Prop) : Prop := ∃ (a : Int) (R' M' : Int → Int), (∀ Q, X Q = Q a (hrow h 9 R')) ∧ (∀ Q, Y Q = Q a (hrow g 50 M')) ∧ PS z M0 R' M' ∧ R 7 ≤ R' 7 ∧ (a = 0 ∨ a = 1)
theorem rd_open (T : TX h g f z t) {R M : Int → Int} (P : PS z M0 R M) {x : Int} : RdS h g z M0 R (fun Q => wpS (EF n) (d + 2) mX4_readOpen [(2, 9)] (hrow h 9 R) Q) (fun Q => Ws (EF n) (d' + 1) mX10_readsItem Q 113 [(2, 50), (0, t), (0, x), (9, 0)] [] (hrow g 50 M)) := by
  have tz := T.1
  have pp := P.2.1
  by_cases y : R 7 < z ∧ (f (R 7) = 48 ∨ f (R 7) = 49)
  · have e : f (R 7) - 48 = 0 ∨ f (R 7) - 48 = 1 := by omega
    have hl : CLaw (R 0) (R 1) (f (R 7) - 48) (R 3) (R 4) (M 15) (M 16) (f (R 7) - 48) (M 18) (M 19) := ⟨⟨P.2.2.1.1.1, P.2.2.1.1.2.1, rfl⟩, ⟨P.2.2.1.2.1.1, P.2.2.1.2.1.2.1, P.2.2.1.2.1.2.2.1, P.2.2.1.2.1.2.2.2.1, e⟩, P.2.2.1.2.2⟩
    refine ⟨1, up (up R 2 (f (R 7) - 48)) 7 (R 7 + 1), up (up M 17 (f (R 7) - 48)) 20 (R 7 + 1), fun Q => ?_, fun Q => ?_, PS_pl (PS_law P hl ?_ ?_ ?_) (by omega), ?_, Or.inr rfl⟩
    · have r19 : Ws (EF n) (d + 1) mX4_readOpen Q 19 [(2, 9), (0, f (R 7))] [] (hrow h 9 R) = Q 1 (hrow h 9 (up (up R 2 (f (R 7) - 48)) 7 (R 7 + 1))) := by
        rw [b_X4_readOpen_19, hst_rr, hst_rr, hrow_s, up_n _ _ (show (7 : Int) ≠ 2 by decide), w32_of (x := f (R 7) - 48) (by omega) (by omega), w32_of (x := R 7 + 1) (by omega) (by omega)]
      show wpS (EF n) (d + 2) mX4_readOpen [(2, 9)] (hrow h 9 R) Q = _; rw [u_X4_readOpen, e_sign T P, if_pos y.1, r19]
      by_cases w : f (R 7) = 48
      · rw [if_pos w]
      · rw [if_neg w, if_pos (by omega)]
    · show Ws (EF n) (d' + 1) mX10_readsItem Q 113 [(2, 50), (0, t), (0, x), (9, 0)] [] (hrow g 50 M) = _; rw [b_X10_readsItemw_113 (EF_50 n), e_m_here T P, if_pos y.1, e_m_in, b2_if, if_pos (by omega), e_m_here T P, if_pos y.1, hst_rr, hst_rr, hrow_s, up_n _ _ (show (20 : Int) ≠ 17 by decide), pp.2.2, w32_of (x := f (R 7) - 48) (by omega) (by omega), w32_of (x := R 7 + 1) (by omega) (by omega)]
    · simp only [up_at, Int.reduceEq, if_true, if_false, reduceIte]; exact ⟨trivial, trivial, trivial, trivial, trivial, trivial, trivial⟩
    · simp only [up_at, Int.reduceEq, if_true, if_false, reduceIte]; exact ⟨trivial, trivial, trivial, trivial, trivial, trivial⟩
    · intro i hi; exact up_n _ _ (by omega)
    · rw [up_s]; omega
  · refine ⟨0, R, M, fun Q => ?_, fun Q => ?_, P, Int.le_refl _, Or.inl rfl⟩
    · have no : ¬ ((if R 7 < z then f (R 7) else 0) = 48) ∧ ¬ ((if R 7 < z then f (R 7) else 0) = 49) := by split <;> omega
      show wpS (EF n) (d + 2) mX4_readOpen [(2, 9)] (hrow h 9 R) Q = _; rw [u_X4_readOpen, e_sign T P, if_neg no.1, if_neg no.2]
    · have no : ¬ (48 ≤ (if R 7 < z then f (R 7) else -9) ∧ (if R 7 < z then f (R 7) else -9) ≤ 49) := by split <;> omega
      show Ws (EF n) (d' + 1) mX10_readsItem Q 113 [(2, 50), (0, t), (0, x), (9, 0)] [] (hrow g 50 M) = _; rw [b_X10_readsItemw_113 (EF_50 n), e_m_here T P, e_m_in, b2_if, if_neg no]
theorem rd_part (T : TX h g f z t) {R M : Int → Int} (P : PS z M0 R M) {x : Int} : RdS h g z M0 R (fun Q => wpS (EF n) (d + 3) mX4_readNumber [(2, 9), (0, 6)] (hrow h 9 R) (fun r1 h1 => (if r1 = 0 then Q 0 h1 else (if h1 9 8 = 0 then Q 0 h1 else Q 1 (hst h1 9 3 (h1 9 8)))))) (fun Q => Ws (EF n) (d' + 2) mX10_readsItem Q 154 [(2, 50), (0, t), (0, x), (9, 0)] [] (hrow g 50 M)) := by
  obtain ⟨a, R1, M1, q1, q2, P1, ⟨b1, b2, b3⟩, q4, q5, q6⟩ := rd_num (n := n) (d := d + 1) (d' := d') T (K := 6) (by decide) P
  have q1 : ∀ Q, wpS (EF n) (d + 3) mX4_readNumber [(2, 9), (0, 6)] (hrow h 9 R) Q = Q a (hrow h 9 R1) := q1
  have q2 : ∀ Q, wpS (EF n) (d' + 2) mX10_readsNumber [(2, 50), (0, t), (0, 6)] (hrow g 50 M) Q = Q a (hrow g 50 M1) := q2
  have t6 := tp_6 6 (by decide)
  by_cases y : a = 0 ∨ R1 8 = 0
  · refine ⟨0, R1, M1, fun Q => ?_, fun Q => ?_, P1, q4, Or.inl rfl⟩
    · show wpS (EF n) (d + 3) mX4_readNumber [(2, 9), (0, 6)] (hrow h 9 R) _ = _
      rw [q1, hrow_s]
      by_cases w : a = 0
      · rw [if_pos w]
      · rw [if_neg w, if_pos (by omega)]
    · show Ws (EF n) (d' + 2) mX10_readsItem Q 154 [(2, 50), (0, t), (0, x), (9, 0)] [] (hrow g 50 M) = _; rw [b_X10_readsItemw_154 (EF_50 n), q2, hrow_s, ← b1]
      by_cases w : a = 0
      · rw [if_pos w]
      · rw [if_neg w, if_pos (by omega)]
  · have hl : CLaw (R1 0) (R1 1) (R1 2) (R1 8) (R1 4) (M1 15) (M1 16) (M1 17) (R1 8) (M1 19) := ⟨P1.2.2.1.1, P1.2.2.1.2.1, Or.inr ⟨rfl, by omega, by omega⟩, P1.2.2.1.2.2.2⟩
    refine ⟨1, up R1 3 (R1 8), up M1 18 (R1 8), fun Q => ?_, fun Q => ?_, PS_law P1 hl ?_ ?_ ?_, ?_, Or.inr rfl⟩
    · show wpS (EF n) (d + 3) mX4_readNumber [(2, 9), (0, 6)] (hrow h 9 R) _ = _
      rw [q1, hrow_s, if_neg (by omega), if_neg (by omega), hst_rr]
    · show Ws (EF n) (d' + 2) mX10_readsItem Q 154 [(2, 50), (0, t), (0, x), (9, 0)] [] (hrow g 50 M) = _; rw [b_X10_readsItemw_154 (EF_50 n), q2, hrow_s, ← b1, if_neg (by omega), if_neg (by omega), hst_rr]
    · simp only [up_at, Int.reduceEq, if_true, if_false, reduceIte]; exact ⟨trivial, trivial, trivial, trivial, trivial, trivial, trivial⟩
    · simp only [up_at, Int.reduceEq, if_true, if_false, reduceIte]; exact ⟨trivial, trivial, trivial, trivial, trivial, trivial⟩
    · intro i hi; exact up_n _ _ (by omega)
    · rw [up_n _ _ (by decide)]; exact q4
theorem rd_join (T : TX h g f z t) {R M : Int → Int} (P : PS z M0 R M) {x : Int} : RdS h g z M0 R (fun Q => wpS (EF n) (d + 3) mX4_readNumber [(2, 9), (0, 6)] (hrow h 9 R) (fun r1 h1 => (if r1 = 0 then Q 0 h1 else Q 1 (hst h1 9 4 (h1 9 8))))) (fun Q => Ws (EF n) (d' + 2) mX10_readsItem Q 183 [(2, 50), (0, t), (0, x), (9, 0)] [] (hrow g 50 M)) := by
  obtain ⟨a, R1, M1, q1, q2, P1, ⟨b1, b2, b3⟩, q4, q5, q6⟩ := rd_num (n := n) (d := d + 1) (d' := d') T (K := 6) (by decide) P
  have q1 : ∀ Q, wpS (EF n) (d + 3) mX4_readNumber [(2, 9), (0, 6)] (hrow h 9 R) Q = Q a (hrow h 9 R1) := q1
  have q2 : ∀ Q, wpS (EF n) (d' + 2) mX10_readsNumber [(2, 50), (0, t), (0, 6)] (hrow g 50 M) Q = Q a (hrow g 50 M1) := q2
  have t6 := tp_6 6 (by decide)
  by_cases y : a = 0
  · refine ⟨0, R1, M1, fun Q => ?_, fun Q => ?_, P1, q4, Or.inl rfl⟩
    · show wpS (EF n) (d + 3) mX4_readNumber [(2, 9), (0, 6)] (hrow h 9 R) _ = _
      rw [q1, if_pos y]
    · show Ws (EF n) (d' + 2) mX10_readsItem Q 183 [(2, 50), (0, t), (0, x), (9, 0)] [] (hrow g 50 M) = _; rw [b_X10_readsItemw_183 (EF_50 n), q2, if_pos y]
  · have hl : CLaw (R1 0) (R1 1) (R1 2) (R1 3) (R1 8) (M1 15) (M1 16) (M1 17) (M1 18) (R1 8) := ⟨P1.2.2.1.1, P1.2.2.1.2.1, P1.2.2.1.2.2.1, Or.inr ⟨rfl, by omega, by omega⟩⟩
    refine ⟨1, up R1 4 (R1 8), up M1 19 (R1 8), fun Q => ?_, fun Q => ?_, PS_law P1 hl ?_ ?_ ?_, ?_, Or.inr rfl⟩
    · show wpS (EF n) (d + 3) mX4_readNumber [(2, 9), (0, 6)] (hrow h 9 R) _ = _
      rw [q1, hrow_s, if_neg y, hst_rr]
    · show Ws (EF n) (d' + 2) mX10_readsItem Q 183 [(2, 50), (0, t), (0, x), (9, 0)] [] (hrow g 50 M) = _; rw [b_X10_readsItemw_183 (EF_50 n), q2, hrow_s, ← b1, if_neg y, hst_rr]
    · simp only [up_at, Int.reduceEq, if_true, if_false, reduceIte]; exact ⟨trivial, trivial, trivial, trivial, trivial, trivial, trivial⟩
    · simp only [up_at, Int.reduceEq, if_true, if_false, reduceIte]; exact ⟨trivial, trivial, trivial, trivial, trivial, trivial⟩
    · intro i hi; exact up_n _ _ (by omega)
    · rw [up_n _ _ (by decide)]; exact q4
theorem rd_given (T : TX h g f z t) {R M : Int → Int} (P : PS z M0 R M) {x : Int} : RdS h g z M0 R (fun Q => wpS (EF n) (d + 3) mX4_readGiven [(2, 9)] (hrow h 9 R) Q) (fun Q => Ws (EF n) (d' + 2) mX10_readsItem Q 36 [(2, 50), (0, t), (0, x), (9, 0)] [] (hrow g 50 M)) := by
  obtain ⟨a, R1, M1, q1, q2, P1, ⟨b1, b2, b3⟩, q4, q5, q6⟩ := rd_num (n := n) (d := d) (d' := d') T (K := 2) (by decide) P
  have q1 : ∀ Q, wpS (EF n) (d + 2) mX4_readNumber [(2, 9), (0, 2)] (hrow h 9 R) Q = Q a (hrow h 9 R1) := q1
  have q2 : ∀ Q, wpS (EF n) (d' + 2) mX10_readsNumber [(2, 50), (0, t), (0, 2)] (hrow g 50 M) Q = Q a (hrow g 50 M1) := q2
  have pp := P1.2.1
  have tz := T.1
  have t2 : tp 2 = 100 := rfl
  by_cases y0 : a = 0
  · refine ⟨0, R1, M1, fun Q => ?_, fun Q => ?_, P1, q4, Or.inl rfl⟩
    · show wpS (EF n) (d + 3) mX4_readGiven [(2, 9)] (hrow h 9 R) Q = _
      rw [u_X4_readGiven, q1, if_pos y0]
    · show Ws (EF n) (d' + 2) mX10_readsItem Q 36 [(2, 50), (0, t), (0, x), (9, 0)] [] (hrow g 50 M) = _; rw [b_X10_readsItemw_36 (EF_50 n), q2, if_pos y0]
  · by_cases y : R1 7 < z ∧ f (R1 7) = 47
    · have P2 := PS_pl (p := R1 7 + 1) P1 (by omega)
      obtain ⟨a', R3, M3, s1, s2, P3, ⟨d1, d2, d3⟩, s4, s5, s6⟩ := rd_num (n := n) (d := d) (d' := d') T (K := 2) (by decide) P2
      have s1 : ∀ Q, wpS (EF n) (d + 2) mX4_readNumber [(2, 9), (0, 2)] (hrow h 9 (up R1 7 (R1 7 + 1))) Q = Q a' (hrow h 9 R3) := s1
      have s2 : ∀ Q, wpS (EF n) (d' + 2) mX10_readsNumber [(2, 50), (0, t), (0, 2)] (hrow g 50 (up M1 20 (R1 7 + 1))) Q = Q a' (hrow g 50 M3) := s2
      rw [up_s] at s4
      have x0 : ∀ Q, wpS (EF n) (d + 3) mX4_readGiven [(2, 9)] (hrow h 9 R) Q = (if a' = 0 then Q 0 (hrow h 9 R3) else (if R3 8 = 0 then Q 0 (hrow h 9 R3) else (if R3 8 < R1 8 then Q 0 (hrow h 9 R3) else Q 1 (hrow h 9 (up (up R3 0 (R1 8)) 1 (R3 8)))))) := by
        intro Q
        rw [u_X4_readGiven, q1, if_neg y0, e_sign T P1, if_pos y.1, if_pos y.2, hst_rr, hrow_s, w32_of (x := R1 7 + 1) (by omega) (by omega), s1, hrow_s, hst_rr, hst_rr, hrow_s, up_n _ _ (show (8 : Int) ≠ 0 by decide)]
      have m0 : ∀ Q, Ws (EF n) (d' + 2) mX10_readsItem Q 36 [(2, 50), (0, t), (0, x), (9, 0)] [] (hrow g 50 M) = (if a' = 0 then Q 0 (hrow g 50 M3) else (if R3 8 = 0 then Q 0 (hrow g 50 M3) else (if R3 8 < R1 8 then Q 0 (hrow g 50 M3) else Q 1 (hrow g 50 (up (up M3 15 (R1 8)) 16 (R3 8)))))) := by
        intro Q
        show Ws (EF n) (d' + 2) mX10_readsItem Q 36 [(2, 50), (0, t), (0, x), (9, 0)] [] (hrow g 50 M) = _; rw [b_X10_readsItemw_36 (EF_50 n), q2, if_neg y0, e_m_here T P1, if_pos y.1, if_pos y.2, hst_rr, hrow_s, pp.2.2, w32_of (x := R1 7 + 1) (by omega) (by omega), s2, hrow_s, hst_rr, hst_rr, hrow_s, up_n _ _ (show (21 : Int) ≠ 15 by decide), ← b1, ← d1]
      by_cases w : a' = 0 ∨ R3 8 = 0 ∨ R3 8 < R1 8
      · refine ⟨0, R3, M3, fun Q => ?_, fun Q => ?_, P3, by omega, Or.inl rfl⟩
        · show wpS (EF n) (d + 3) mX4_readGiven [(2, 9)] (hrow h 9 R) Q = _
          rw [x0]
          by_cases w1 : a' = 0
          · rw [if_pos w1]
          · rw [if_neg w1]
            by_cases w2 : R3 8 = 0
            · rw [if_pos w2]
            · rw [if_neg w2, if_pos (by omega)]
        · show Ws (EF n) (d' + 2) mX10_readsItem Q 36 [(2, 50), (0, t), (0, x), (9, 0)] [] (hrow g 50 M) = _
          rw [m0]
          by_cases w1 : a' = 0
          · rw [if_pos w1]
          · rw [if_neg w1]
            by_cases w2 : R3 8 = 0
            · rw [if_pos w2]
            · rw [if_neg w2, if_pos (by omega)]
      · have hl : CLaw (R1 8) (R3 8) (R3 2) (R3 3) (R3 4) (R1 8) (R3 8) (M3 17) (M3 18) (M3 19) := ⟨⟨rfl, rfl, P3.2.2.1.1.2.2⟩, ⟨b2, by omega, by omega, by omega, P3.2.2.1.2.1.2.2.2.2⟩, P3.2.2.1.2.2⟩
        refine ⟨1, up (up R3 0 (R1 8)) 1 (R3 8), up (up M3 15 (R1 8)) 16 (R3 8), fun Q => ?_, fun Q => ?_, PS_law P3 hl ?_ ?_ ?_, ?_, Or.inr rfl⟩
        · show wpS (EF n) (d + 3) mX4_readGiven [(2, 9)] (hrow h 9 R) Q = _
          rw [x0, if_neg (by omega), if_neg (by omega), if_neg (by omega)]
        · show Ws (EF n) (d' + 2) mX10_readsItem Q 36 [(2, 50), (0, t), (0, x), (9, 0)] [] (hrow g 50 M) = _
          rw [m0, if_neg (by omega), if_neg (by omega), if_neg (by omega)]
        · simp only [up_at, Int.reduceEq, if_true, if_false, reduceIte]; exact ⟨trivial, trivial, trivial, trivial, trivial, trivial, trivial⟩
        · simp only [up_at, Int.reduceEq, if_true, if_false, reduceIte]; exact ⟨trivial, trivial, trivial, trivial, trivial, trivial⟩
        · intro i hi; rw [up_n _ _ (by omega)]; exact up_n _ _ (by omega)
        · rw [up_n _ _ (by decide), up_n _ _ (by decide)]; omega
    · refine ⟨0, R1, M1, fun Q => ?_, fun Q => ?_, P1, q4, Or.inl rfl⟩
      · have no : ¬ ((if R1 7 < z then f (R1 7) else 0) = 47) := by split <;> omega
        show wpS (EF n) (d + 3) mX4_readGiven [(2, 9)] (hrow h 9 R) Q = _
        rw [u_X4_readGiven, q1, if_neg y0, e_sign T P1, if_neg no]
      · have no : ¬ ((if R1 7 < z then f (R1 7) else -9) = 47) := by split <;> omega
        show Ws (EF n) (d' + 2) mX10_readsItem Q 36 [(2, 50), (0, t), (0, x), (9, 0)] [] (hrow g 50 M) = _; rw [b_X10_readsItemw_36 (EF_50 n), q2, if_neg y0, e_m_here T P1, if_neg no]
/-- one item of a text -/
theorem rd_item (T : TX h g f z t) {R M : Int → Int} (P : PS z M0 R M) (hz : R 7 < z) : ∃ (a : Int) (R' M' : Int → Int), (∀ Q, wpS (EF n) (d + 4) mX4_readItem [(2, 9)] (hrow h 9 R) Q = Q a (hrow h 9 R')) ∧ (∀ Q v, ∃ v', Ws (EF n) (d' + 3) mX10_reads Q 32 [(2, 50), (0, t), v] [] (hrow g 50 M) = if a = 0 then Q (R' 7) (hrow g 50 M') else Ws (EF n) (d' + 3) mX10_reads Q 32 [(2, 50), (0, t), v'] [] (hrow g 50 M')) ∧ PS z M0 R' M' ∧ (a = 0 ∨ (a = 1 ∧ R 7 + 1 ≤ R' 7)) := by
  have pp := P.2.1
  have tz := T.1
  have P1 := PS_pl (p := R 7 + 1) P (by omega)
  have e55 : hrow g 50 M 55 t = z := T.2.2.1
  have hx : ∀ Q, wpS (EF n) (d + 4) mX4_readItem [(2, 9)] (hrow h 9 R) Q = (if f (R 7) = 32 then Ws (EF n) (d + 3) mX4_readItem Q 56 [(2, 9)] [] (hrow h 9 R) else (if f (R 7) = 70 then Ws (EF n) (d + 3) mX4_readItem Q 68 [(2, 9)] [] (hrow h 9 R) else (if f (R 7) = 74 then Ws (EF n) (d + 3) mX4_readItem Q 136 [(2, 9)] [] (hrow h 9 R) else (if f (R 7) = 79 then Ws (EF n) (d + 3) mX4_readItem Q 83 [(2, 9)] [] (hrow h 9 R) else (if f (R 7) = 80 then Ws (EF n) (d + 3) mX4_readItem Q 98 [(2, 9)] [] (hrow h 9 R) else Ws (EF n) (d + 3) mX4_readItem Q 167 [(2, 9)] [] (hrow h 9 R)))))) := by
    intro Q
    rw [u_X4_readItem, e_sign T P, if_pos hz, t_X4_readItem_4]
  have hm : ∀ Q v, Ws (EF n) (d' + 3) mX10_reads Q 32 [(2, 50), (0, t), v] [] (hrow g 50 M) = (if f (R 7) = 32 then Ws (EF n) (d' + 3) mX10_reads Q 32 [(2, 50), (0, t), (0, f (R 7))] [] (hrow g 50 (up M 20 (R 7 + 1))) else (if f (R 7) = 70 then Ws (EF n) (d' + 3) mX10_reads Q 99 [(2, 50), (0, t), (0, f (R 7))] [] (hrow g 50 M) else (if f (R 7) = 79 then Ws (EF n) (d' + 3) mX10_reads Q 99 [(2, 50), (0, t), (0, f (R 7))] [] (hrow g 50 M) else (if f (R 7) = 80 then Ws (EF n) (d' + 3) mX10_reads Q 99 [(2, 50), (0, t), (0, f (R 7))] [] (hrow g 50 M) else (if f (R 7) = 74 then Ws (EF n) (d' + 3) mX10_reads Q 99 [(2, 50), (0, t), (0, f (R 7))] [] (hrow g 50 M) else Q (R 7) (hrow g 50 M)))))) := by
    intro Q v
    rw [b_X10_reads_32 (EF_50 n), and_tl T.2.1, hrow_s, e55, pp.2.2, if_pos hz, e_m_here T P, if_pos hz, hst_rr, hrow_s, pp.2.2, w32_of (x := R 7 + 1) (by omega) (by omega)]
  have hw : w32 (R 7 + 1) = R 7 + 1 := w32_of (by omega) (by omega)
  by_cases y0 : f (R 7) = 32
  · refine ⟨1, up R 7 (R 7 + 1), up M 20 (R 7 + 1), fun Q => ?_, fun Q v => ⟨(0, f (R 7)), ?_⟩, P1, Or.inr ⟨rfl, by rw [up_s]; exact Int.le_refl _⟩⟩
    · rw [hx, if_pos y0, b_X4_readItemw_56, hst_rr, hrow_s, hw]
    · rw [hm, if_pos y0, if_neg (by decide)]
  · have hm99 : ∀ (Q : Int → Hp → Prop), (f (R 7) = 70 ∨ f (R 7) = 79 ∨ f (R 7) = 80 ∨ f (R 7) = 74) → ∀ v, Ws (EF n) (d' + 3) mX10_reads Q 32 [(2, 50), (0, t), v] [] (hrow g 50 M) = wpS (EF n) (d' + 3) mX10_readsItem [(2, 50), (0, t), (0, f (R 7))] (hrow g 50 (up M 20 (R 7 + 1))) (fun r1 h1 => (if r1 = 0 then Q (h1 50 20) h1 else Ws (EF n) (d' + 3) mX10_reads Q 32 [(2, 50), (0, t), (0, f (R 7))] [] h1)) := by
      intro Q hy v
      have e99 : Ws (EF n) (d' + 3) mX10_reads Q 99 [(2, 50), (0, t), (0, f (R 7))] [] (hrow g 50 M) = wpS (EF n) (d' + 3) mX10_readsItem [(2, 50), (0, t), (0, f (R 7))] (hrow g 50 (up M 20 (R 7 + 1))) (fun r1 h1 => (if r1 = 0 then Q (h1 50 20) h1 else Ws (EF n) (d' + 3) mX10_reads Q 32 [(2, 50), (0, t), (0, f (R 7))] [] h1)) := by
        rw [b_X10_reads_99 (EF_50 n), hst_rr, hrow_s, pp.2.2, hw]
      rw [hm, if_neg y0, e99]
      by_cases w1 : f (R 7) = 70
      · rw [if_pos w1]
      · rw [if_neg w1]
        by_cases w2 : f (R 7) = 79
        · rw [if_pos w2]
        · rw [if_neg w2]
          by_cases w3 : f (R 7) = 80
          · rw [if_pos w3]
          · rw [if_neg w3, if_pos (by omega)]
    have fin : ∀ (a : Int) (R' M' : Int → Int), PS z M0 R' M' → (a = 0 ∨ a = 1) → R 7 + 1 ≤ R' 7 → (∀ Q, wpS (EF n) (d + 4) mX4_readItem [(2, 9)] (hrow h 9 R) Q = Q a (hrow h 9 R')) → (f (R 7) = 70 ∨ f (R 7) = 79 ∨ f (R 7) = 80 ∨ f (R 7) = 74) → (∀ Q, wpS (EF n) (d' + 3) mX10_readsItem [(2, 50), (0, t), (0, f (R 7))] (hrow g 50 (up M 20 (R 7 + 1))) Q = Q a (hrow g 50 M')) → ∃ (a : Int) (R' M' : Int → Int), (∀ Q, wpS (EF n) (d + 4) mX4_readItem [(2, 9)] (hrow h 9 R) Q = Q a (hrow h 9 R')) ∧ (∀ Q v, ∃ v', Ws (EF n) (d' + 3) mX10_reads Q 32 [(2, 50), (0, t), v] [] (hrow g 50 M) = if a = 0 then Q (R' 7) (hrow g 50 M') else Ws (EF n) (d' + 3) mX10_reads Q 32 [(2, 50), (0, t), v'] [] (hrow g 50 M')) ∧ PS z M0 R' M' ∧ (a = 0 ∨ (a = 1 ∧ R 7 + 1 ≤ R' 7)) := by
      intro a R' M' P' ha hp q1 hy q2
      refine ⟨a, R', M', q1, fun Q v => ⟨(0, f (R 7)), ?_⟩, P', ha.imp id (fun e => ⟨e, hp⟩)⟩
      rw [hm99 Q hy v, q2, hrow_s, P'.2.1.2.2]
    by_cases y1 : f (R 7) = 70
    · obtain ⟨a, R', M', q1, q2, q3, q4, q5⟩ := rd_given (n := n) (d := d) (d' := d') (x := f (R 7)) T P1
      rw [up_s] at q4
      refine fin a R' M' q3 q5 q4 (fun Q => ?_) (by omega) (fun Q => ?_)
      · have q1' := q1 (fun r1 h1 => (isBit r1 ∧ Q r1 h1))
        rw [hx, if_neg y0, if_pos y1, b_X4_readItemw_68, hst_rr, hrow_s, hw]
        refine q1'.trans (and_tl ?_)
        exact q5
      · rw [u_X10_readsItem (EF_50 n), t_X10_readsItem_1, if_pos y1]
        exact q2 Q
    · by_cases y2 : f (R 7) = 74
      · obtain ⟨a, R', M', q1, q2, q3, q4, q5⟩ := rd_join (n := n) (d := d) (d' := d') (x := f (R 7)) T P1
        rw [up_s] at q4
        refine fin a R' M' q3 q5 q4 (fun Q => ?_) (by omega) (fun Q => ?_)
        · have q1' := q1 Q
          rw [hx, if_neg y0, if_neg y1, if_pos y2, b_X4_readItemw_136, hst_rr, hrow_s, hw]
          exact q1'
        · rw [u_X10_readsItem (EF_50 n), t_X10_readsItem_1, if_neg y1, if_neg (by omega), if_neg (by omega)]
          exact q2 Q
      · by_cases y3 : f (R 7) = 79
        · obtain ⟨a, R', M', q1, q2, q3, q4, q5⟩ := rd_open (n := n) (d := d + 1) (d' := d' + 1) (x := f (R 7)) T P1
          rw [up_s] at q4
          refine fin a R' M' q3 q5 q4 (fun Q => ?_) (by omega) (fun Q => ?_)
          · have q1' := q1 (fun r1 h1 => (isBit r1 ∧ Q r1 h1))
            rw [hx, if_neg y0, if_neg y1, if_neg y2, if_pos y3, b_X4_readItemw_83, hst_rr, hrow_s, hw]
            refine q1'.trans (and_tl ?_)
            exact q5
          · rw [u_X10_readsItem (EF_50 n), t_X10_readsItem_1, if_neg y1, if_pos y3]
            exact q2 Q
        · by_cases y4 : f (R 7) = 80
          · obtain ⟨a, R', M', q1, q2, q3, q4, q5⟩ := rd_part (n := n) (d := d) (d' := d') (x := f (R 7)) T P1
            rw [up_s] at q4
            refine fin a R' M' q3 q5 q4 (fun Q => ?_) (by omega) (fun Q => ?_)
            · have q1' := q1 Q
              rw [hx, if_neg y0, if_neg y1, if_neg y2, if_neg y3, if_pos y4, b_X4_readItemw_98, hst_rr, hrow_s, hw]
              exact q1'
            · rw [u_X10_readsItem (EF_50 n), t_X10_readsItem_1, if_neg y1, if_neg y3, if_pos y4]
              exact q2 Q
          · refine ⟨0, R, M, fun Q => ?_, fun Q v => ⟨v, ?_⟩, P, Or.inl rfl⟩
            · rw [hx, if_neg y0, if_neg y1, if_neg y2, if_neg y3, if_neg y4, b_X4_readItemw_167]
            · rw [hm, if_neg y0, if_neg y1, if_neg y3, if_neg y4, if_neg y2, if_pos rfl]
end PARSE
