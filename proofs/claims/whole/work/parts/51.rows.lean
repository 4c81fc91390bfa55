/-! rows and texts: the reference's side, and the pairs -/
theorem e_m_ask {E : PvEnv} (hE : ∀ k, E 50 k = refT 50 k) {d : Nat} {Q : Int → Hp → Prop} {h : Hp} {v a : Int} : wpS E (d + 1) mX10_ask [(2, 50), (0, v), (0, a)] h Q = Q a (hst h 50 2 v) := by
  rw [u_X10_ask hE]
theorem e_m_askedRow {E : PvEnv} (hE : ∀ k, E 50 k = refT 50 k) {d : Nat} {Q : Int → Hp → Prop} {h : Hp} {r : Int} : wpS E (d + 3) mX10_askedRow [(2, 50), (0, r)] h Q = if 0 ≤ r ∧ r < 6 then (if h 52 r < 0 then Q (-3) (mfnd h 1) else Q 0 h) else Q (-1) h := by
  rw [u_X10_askedRow hE, e_m_isRow, b2_if]
  by_cases z : 0 ≤ r ∧ r < 6
  · rw [if_pos z, if_pos (by omega), and_tl z, e_meets hE (by decide) (by decide)]
  · rw [if_neg z, if_neg (by omega)]
theorem e_m_askedText {E : PvEnv} (hE : ∀ k, E 50 k = refT 50 k) {d : Nat} {Q : Int → Hp → Prop} {h : Hp} {r : Int} : wpS E (d + 3) mX10_askedText [(2, 50), (0, r)] h Q = if 0 ≤ r ∧ r < 4 then (if h 55 r < 0 then Q (-3) (mfnd h 1) else Q 0 h) else Q (-1) h := by
  rw [u_X10_askedText hE, e_m_isText, b2_if]
  by_cases z : 0 ≤ r ∧ r < 4
  · rw [if_pos z, if_pos (by omega), and_tl z, e_meets hE (by decide) (by decide)]
  · rw [if_neg z, if_neg (by omega)]
theorem ix_m {r i : Int} (h1 : 0 ≤ r) (h2 : r < 6) (h3 : 0 ≤ i) (h4 : i ≤ 40) : w32 (w32 (40 * r) + i) = 40 * r + i := by
  rw [w32_of (x := 40 * r) (by omega) (by omega), w32_of (by omega) (by omega)]
theorem l_m_row {E : PvEnv} (hE : ∀ k, E 50 k = refT 50 k) {d : Nat} {Q : Int → Hp → Prop} {h : Hp} {r m : Int} (hr : 0 ≤ r ∧ r < 6) : Ws E d mX10_row Q 34 [(2, 50), (0, r), (0, m), (0, 0)] [] h = Q m (hrow h 53 (shf (h 53) r 40 0)) := by
  have step : ∀ k : Nat, k < 40 → Ws E d mX10_row Q 34 [(2, 50), (0, r), (0, m), (0, (k : Int))] [] (hrow h 53 (shf (h 53) r k 0)) = Ws E d mX10_row Q 34 [(2, 50), (0, r), (0, m), (0, ((k + 1 : Nat) : Int))] [] (hrow h 53 (shf (h 53) r ((k + 1 : Nat) : Int) 0)) := by
    intro k hk
    rw [b_X10_row_34 hE, if_pos (by omega), ix_m (by omega) (by omega) (by omega) (by omega), and_tl (by omega), w32_n1 (by omega), hst_rr]
    congr 2
    funext j
    unfold up shf
    by_cases w : j = 40 * r + (k : Int)
    · rw [if_pos w, if_pos (by omega)]
    · rw [if_neg w]
      by_cases w2 : 40 * r ≤ j ∧ j < 40 * r + (k : Int)
      · rw [if_pos w2, if_pos (by omega)]
      · rw [if_neg w2, if_neg (by omega)]
  have l := loop_n (P := fun k => Ws E d mX10_row Q 34 [(2, 50), (0, r), (0, m), (0, (k : Int))] [] (hrow h 53 (shf (h 53) r k 0))) 40 step
  have e0 : hrow h 53 (shf (h 53) r ((0 : Nat) : Int) 0) = h := by
    have : shf (h 53) r ((0 : Nat) : Int) 0 = h 53 := by
      funext j
      unfold shf
      rw [if_neg (by omega)]
    rw [this, hrow_self]
  rw [e0] at l
  refine l.trans ?_
  rw [b_X10_row_34 hE, if_neg (by decide)]
  rfl
theorem l_m_text {E : PvEnv} (hE : ∀ k, E 50 k = refT 50 k) {d : Nat} {Q : Int → Hp → Prop} {h : Hp} {r m : Int} (hr : 0 ≤ r ∧ r < 4) : Ws E d mX10_text Q 34 [(2, 50), (0, r), (0, m), (0, 0)] [] h = Q m (hrow h 56 (shf (h 56) r 40 32)) := by
  have step : ∀ k : Nat, k < 40 → Ws E d mX10_text Q 34 [(2, 50), (0, r), (0, m), (0, (k : Int))] [] (hrow h 56 (shf (h 56) r k 32)) = Ws E d mX10_text Q 34 [(2, 50), (0, r), (0, m), (0, ((k + 1 : Nat) : Int))] [] (hrow h 56 (shf (h 56) r ((k + 1 : Nat) : Int) 32)) := by
    intro k hk
    rw [b_X10_text_34 hE, if_pos (by omega), ix_m (by omega) (by omega) (by omega) (by omega), and_tl (by omega), w32_n1 (by omega), hst_rr]
    congr 2
    funext j
    unfold up shf
    by_cases w : j = 40 * r + (k : Int)
    · rw [if_pos w, if_pos (by omega)]
    · rw [if_neg w]
      by_cases w2 : 40 * r ≤ j ∧ j < 40 * r + (k : Int)
      · rw [if_pos w2, if_pos (by omega)]
      · rw [if_neg w2, if_neg (by omega)]
  have l := loop_n (P := fun k => Ws E d mX10_text Q 34 [(2, 50), (0, r), (0, m), (0, (k : Int))] [] (hrow h 56 (shf (h 56) r k 32))) 40 step
  have e0 : hrow h 56 (shf (h 56) r ((0 : Nat) : Int) 32) = h := by
    have : shf (h 56) r ((0 : Nat) : Int) 32 = h 56 := by
      funext j
      unfold shf
      rw [if_neg (by omega)]
    rw [this, hrow_self]
  rw [e0] at l
  refine l.trans ?_
  rw [b_X10_text_34 hE, if_neg (by decide)]
  rfl

theorem CSh_make {N lo hi : Int} {s p S P : Int → Int} {r m v : Int} (c : CSh N lo hi s p S P) (hr : 0 ≤ r ∧ r < N) (hm : 0 ≤ m ∧ m ≤ 40) (hv : lo ≤ v ∧ v ≤ hi) : CSh N lo hi (up s r m) (shf p r m v) (up S r m) (shf P r 40 v) := by
  obtain ⟨c1, c2, c3⟩ := c
  refine ⟨fun q h1 h2 => ?_, fun q h1 h2 => ?_, fun q i h1 h2 h3 h4 => ?_⟩
  · rw [up_at]
    have := c1 q h1 h2
    split <;> omega
  · rw [up_at, up_at]
    split
    · exact Or.inl rfl
    · exact c2 q h1 h2
  · rw [up_at] at h4
    by_cases z : q = r
    · subst z
      rw [if_pos rfl] at h4
      unfold shf
      rw [if_pos (by omega), if_pos (by omega)]
      exact ⟨rfl, hv⟩
    · rw [if_neg z] at h4
      have hs := c1 q h1 h2
      unfold shf
      rw [if_neg (by omega), if_neg (by omega)]
      exact c3 q i h1 h2 h3 h4
theorem CSh_set {N lo hi : Int} {s p S P : Int → Int} {r i v : Int} (c : CSh N lo hi s p S P) (hv : lo ≤ v ∧ v ≤ hi) : CSh N lo hi s (up p (40 * r + i) v) S (up P (40 * r + i) v) := by
  obtain ⟨c1, c2, c3⟩ := c
  refine ⟨c1, c2, fun q k h1 h2 h3 h4 => ?_⟩
  rw [up_at, up_at]
  split
  · exact ⟨rfl, hv⟩
  · exact c3 q k h1 h2 h3 h4
theorem CSh_tear {N lo hi : Int} {s p S P : Int → Int} {r : Int} (c : CSh N lo hi s p S P) : CSh N lo hi (up s r (-1)) p (up S r (-9)) P := by
  obtain ⟨c1, c2, c3⟩ := c
  refine ⟨fun q h1 h2 => ?_, fun q h1 h2 => ?_, fun q k h1 h2 h3 h4 => ?_⟩
  · rw [up_at]
    have := c1 q h1 h2
    split <;> omega
  · rw [up_at, up_at]
    split
    · exact Or.inr ⟨rfl, rfl⟩
    · exact c2 q h1 h2
  · rw [up_at] at h4
    by_cases z : q = r
    · rw [if_pos z] at h4
      omega
    · rw [if_neg z] at h4
      exact c3 q k h1 h2 h3 h4
theorem CSh_neg {N lo hi : Int} {s p S P : Int → Int} {r : Int} (c : CSh N lo hi s p S P) (h1 : 0 ≤ r ∧ r < N) : (S r < 0) ↔ (s r < 0) := by
  have := c.2.1 r h1.1 h1.2
  omega
theorem CSh_eq {N lo hi : Int} {s p S P : Int → Int} {r : Int} (c : CSh N lo hi s p S P) (h1 : 0 ≤ r ∧ r < N) (h2 : 0 ≤ s r) : S r = s r := by
  have := c.2.1 r h1.1 h1.2
  omega
theorem p_row {n r m : Int} : Pr n mX9_row mX10_row [(0, r), (0, m)] := by
  intro h hC
  by_cases z1 : 0 ≤ r ∧ r < 6
  · by_cases z2 : 40 < m
    · exact ⟨-1, h, h, fun Q => by rw [u_X9_row, e_isNumber_a, b2_if, if_pos z1, if_pos z2], fun Q => by rw [u_X10_row (EF_50 n), e_m_isRow, b2_if, if_pos (by omega), if_pos z2], hC⟩
    · by_cases z3 : m < 0
      · exact ⟨-3, fnd h 5, mfnd (fnd h 5) 5, fun Q => by rw [u_X9_row, e_isNumber_a, b2_if, if_pos z1, if_neg z2, if_pos z3, e_refuse (by decide) (by decide)], fun Q => by rw [u_X10_row (EF_50 n), e_m_isRow, b2_if, if_pos (by omega), if_neg z2, if_pos z3, e_meets (EF_50 n) (by decide) (by decide)], Cpl_fnd hC (by decide) (by decide)⟩
      · refine ⟨m, hrow (hst h 2 r m) 3 (shf (h 3) r m 0), hrow (hst (hrow (hst h 2 r m) 3 (shf (h 3) r m 0)) 52 r m) 53 (shf (h 53) r 40 0), fun Q => by rw [u_X9_row, e_isNumber_a, b2_if, if_pos z1, if_neg z2, if_neg z3, e_make_a z1 (by omega)], fun Q => ?_, ?_⟩
        · rw [u_X10_row (EF_50 n), e_m_isRow, b2_if, if_pos (by omega), if_neg z2, if_neg z3, and_tl (by omega), l_m_row (EF_50 n) z1]
          rfl
        · obtain ⟨c1, c2, c3, c4, c5, c6, c7, c8, c9, c10, c11, c12, c13, c14, c15⟩ := hC
          unfold Cpl
          simp only [hst_at, hrow_at, up_at, Int.reduceEq, if_true, if_false, reduceIte]
          exact ⟨c1, c2, CSh_make c3 z1 (by omega) (by decide), c4, c5, c6, c7, c8, c9, c10, c11, c12, c13, c14, c15⟩
  · exact ⟨-1, h, h, fun Q => by rw [u_X9_row, e_isNumber_a, b2_if, if_neg z1], fun Q => by rw [u_X10_row (EF_50 n), e_m_isRow, b2_if, if_neg (by omega)], hC⟩
theorem p_text {n r m : Int} : Pr n mX9_text mX10_text [(0, r), (0, m)] := by
  intro h hC
  by_cases z1 : 0 ≤ r ∧ r < 4
  · by_cases z2 : 40 < m
    · exact ⟨-1, h, h, fun Q => by rw [u_X9_text, e_isNumber_b, b2_if, if_pos z1, if_pos z2], fun Q => by rw [u_X10_text (EF_50 n), e_m_isText, b2_if, if_pos (by omega), if_pos z2], hC⟩
    · by_cases z3 : m < 0
      · exact ⟨-3, fnd h 5, mfnd (fnd h 5) 5, fun Q => by rw [u_X9_text, e_isNumber_b, b2_if, if_pos z1, if_neg z2, if_pos z3, e_refuse (by decide) (by decide)], fun Q => by rw [u_X10_text (EF_50 n), e_m_isText, b2_if, if_pos (by omega), if_neg z2, if_pos z3, e_meets (EF_50 n) (by decide) (by decide)], Cpl_fnd hC (by decide) (by decide)⟩
      · refine ⟨m, hrow (hst h 5 r m) 6 (shf (h 6) r m 32), hrow (hst (hrow (hst h 5 r m) 6 (shf (h 6) r m 32)) 55 r m) 56 (shf (h 56) r 40 32), fun Q => by rw [u_X9_text, e_isNumber_b, b2_if, if_pos z1, if_neg z2, if_neg z3, e_make_b z1 (by omega)], fun Q => ?_, ?_⟩
        · rw [u_X10_text (EF_50 n), e_m_isText, b2_if, if_pos (by omega), if_neg z2, if_neg z3, and_tl (by omega), l_m_text (EF_50 n) z1]
          rfl
        · obtain ⟨c1, c2, c3, c4, c5, c6, c7, c8, c9, c10, c11, c12, c13, c14, c15⟩ := hC
          unfold Cpl
          simp only [hst_at, hrow_at, up_at, Int.reduceEq, if_true, if_false, reduceIte]
          exact ⟨c1, c2, c3, CSh_make c4 z1 (by omega) (by decide), c5, c6, c7, c8, c9, c10, c11, c12, c13, c14, c15⟩
  · exact ⟨-1, h, h, fun Q => by rw [u_X9_text, e_isNumber_b, b2_if, if_neg z1], fun Q => by rw [u_X10_text (EF_50 n), e_m_isText, b2_if, if_neg (by omega)], hC⟩

theorem CSh_mz {N lo hi : Int} {s p S P : Int → Int} (c : CSh N lo hi s p S P) : ∀ r : Int, 0 ≤ r → r < N → -9 ≤ S r ∧ S r ≤ 40 := by
  intro r h1 h2
  have a := c.1 r h1 h2
  have b := c.2.1 r h1 h2
  omega
theorem w8_b (v : Int) : -128 ≤ w8 v ∧ w8 v ≤ 127 := by unfold w8; omega
theorem e_m_lay {E : PvEnv} (hE : ∀ k, E 50 k = refT 50 k) {d : Nat} {Q : Int → Hp → Prop} {h : Hp} {r i v : Int} (hz : ∀ r : Int, 0 ≤ r → r < 6 → -9 ≤ h 52 r ∧ h 52 r ≤ 40) : wpS E (d + 4) mX10_lay [(2, 50), (0, r), (0, i), (0, v)] h Q = if 0 ≤ r ∧ r < 6 then (if h 52 r < 0 then Q (-3) (mfnd h 1) else if 0 ≤ i ∧ i < h 52 r then Q 1 (hst (hst h 50 2 (h 53 (40 * r + i))) 53 (40 * r + i) v) else Q (-3) (mfnd h 2)) else Q (-1) h := by
  rw [u_X10_lay hE, e_m_askedRow hE]
  by_cases z1 : 0 ≤ r ∧ r < 6
  · have := hz r z1.1 z1.2
    rw [if_pos z1, if_pos z1]
    by_cases z2 : h 52 r < 0
    · rw [if_pos z2, if_pos z2, if_pos (by decide)]
    · rw [if_neg z2, if_neg z2, if_neg (by decide), and_tl z1, w32_of (by omega) (by omega), e_m_in, b2_if]
      by_cases z3 : 0 ≤ i ∧ i < h 52 r
      · rw [if_pos (by omega), if_pos z3, ix_m (by omega) (by omega) (by omega) (by omega), and_tl (by omega), and_tl (by omega)]
      · rw [if_neg (by omega), if_neg z3, e_meets hE (by decide) (by decide)]
  · rw [if_neg z1, if_neg z1, if_pos (by decide)]
theorem e_m_put {E : PvEnv} (hE : ∀ k, E 50 k = refT 50 k) {d : Nat} {Q : Int → Hp → Prop} {h : Hp} {r i v : Int} (hz : ∀ r : Int, 0 ≤ r → r < 4 → -9 ≤ h 55 r ∧ h 55 r ≤ 40) : wpS E (d + 4) mX10_put [(2, 50), (0, r), (0, i), (0, v)] h Q = if 0 ≤ r ∧ r < 4 then (if h 55 r < 0 then Q (-3) (mfnd h 1) else if 0 ≤ i ∧ i < h 55 r then Q (w32 (h 56 (40 * r + i) + 1000)) (hst h 56 (40 * r + i) (w8 v)) else Q (-3) (mfnd h 2)) else Q (-1) h := by
  rw [u_X10_put hE, e_m_askedText hE]
  by_cases z1 : 0 ≤ r ∧ r < 4
  · have := hz r z1.1 z1.2
    rw [if_pos z1, if_pos z1]
    by_cases z2 : h 55 r < 0
    · rw [if_pos z2, if_pos z2, if_pos (by decide)]
    · rw [if_neg z2, if_neg z2, if_neg (by decide), and_tl z1, w32_of (by omega) (by omega), e_m_in, b2_if]
      by_cases z3 : 0 ≤ i ∧ i < h 55 r
      · rw [if_pos (by omega), if_pos z3, ix_m (by omega) (by omega) (by omega) (by omega), and_tl (by omega), and_tl (by omega)]
      · rw [if_neg (by omega), if_neg z3, e_meets hE (by decide) (by decide)]
  · rw [if_neg z1, if_neg z1, if_pos (by decide)]
theorem e_m_tear {E : PvEnv} (hE : ∀ k, E 50 k = refT 50 k) {d : Nat} {Q : Int → Hp → Prop} {h : Hp} {r : Int} : wpS E (d + 4) mX10_tear [(2, 50), (0, r)] h Q = if 0 ≤ r ∧ r < 6 then (if h 52 r < 0 then Q (-3) (mfnd h 1) else Q 1 (hst h 52 r (-9))) else Q (-1) h := by
  rw [u_X10_tear hE, e_m_askedRow hE]
  by_cases z1 : 0 ≤ r ∧ r < 6
  · rw [if_pos z1, if_pos z1]
    by_cases z2 : h 52 r < 0
    · rw [if_pos z2, if_pos z2, if_pos (by decide)]
    · rw [if_neg z2, if_neg z2, if_neg (by decide), and_tl z1]
  · rw [if_neg z1, if_neg z1, if_pos (by decide)]
theorem p_lay {n r i v : Int} (hi : in32 i) (hv : in32 v) : Pr n mX9_lay mX10_lay [(0, r), (0, i), (0, v)] := by
  intro h hC
  have hC' := hC
  obtain ⟨c1, c2, c3, c4, c5, c6, c7, c8, c9, c10, c11, c12, c13, c14, c15⟩ := hC
  have hz := CSh_mz c3
  have hv' : -2147483648 ≤ v ∧ v ≤ 2147483647 := by unfold in32 at hv; omega
  by_cases z1 : 0 ≤ r ∧ r < 6
  · by_cases z2 : h 2 r < 0
    · exact ⟨-3, fnd h 1, mfnd (fnd h 1) 1, fun Q => by rw [u_X9_lay, e_isNumber_a, b2_if, if_pos z1, e_isThere_a, b2_if, if_neg (by omega), e_refuse (by decide) (by decide)], fun Q => (e_m_lay (h := fnd h 1) (EF_50 n) hz).trans ((if_pos z1).trans (if_pos ((CSh_neg c3 z1).mpr z2))), Cpl_fnd hC' (by decide) (by decide)⟩
    · have e2 := CSh_eq c3 z1 (by omega)
      have e3 : ¬ h 52 r < 0 := by omega
      by_cases z3 : 0 ≤ i ∧ i < h 2 r
      · have z3' : 0 ≤ i ∧ i < h 52 r := by omega
        refine ⟨1, hst (hst h 3 (40 * r + i) v) 0 14 (h 3 (40 * r + i)), _, fun Q => ?_, fun Q => (e_m_lay (h := hst (hst h 3 (40 * r + i) v) 0 14 (h 3 (40 * r + i))) (EF_50 n) hz).trans ((if_pos z1).trans ((if_neg e3).trans (if_pos z3'))), ?_⟩
        · rw [u_X9_lay, e_isNumber_a, b2_if, if_pos z1, e_isThere_a, b2_if, if_pos (by omega), e_hasPlaces_a c3.1 hi, b2_if, if_pos (by omega), e_swap_a c3.1 (by omega)]
        · unfold Cpl
          simp only [hst_at, hrow_at, up_at, Int.reduceEq, if_true, if_false, reduceIte]
          refine ⟨c1, ?_, CSh_set c3 hv', c4, c5, c6, c7, c8, c9, c10, c11, c12, c13, c14, c15⟩
          exact (c3.2.2 r i z1.1 z1.2 z3.1 z3.2).1
      · have z3' : ¬ (0 ≤ i ∧ i < h 52 r) := by omega
        exact ⟨-3, fnd h 2, mfnd (fnd h 2) 2, fun Q => by rw [u_X9_lay, e_isNumber_a, b2_if, if_pos z1, e_isThere_a, b2_if, if_pos (by omega), e_hasPlaces_a c3.1 hi, b2_if, if_neg (by omega), e_refuse (by decide) (by decide)], fun Q => (e_m_lay (h := fnd h 2) (EF_50 n) hz).trans ((if_pos z1).trans ((if_neg e3).trans (if_neg z3'))), Cpl_fnd hC' (by decide) (by decide)⟩
  · exact ⟨-1, h, h, fun Q => by rw [u_X9_lay, e_isNumber_a, b2_if, if_neg z1], fun Q => (e_m_lay (h := h) (EF_50 n) hz).trans (if_neg z1), hC'⟩
theorem p_put {n r i v : Int} (hi : in32 i) : Pr n mX9_put mX10_put [(0, r), (0, i), (0, v)] := by
  intro h hC
  have hC' := hC
  obtain ⟨c1, c2, c3, c4, c5, c6, c7, c8, c9, c10, c11, c12, c13, c14, c15⟩ := hC
  have hz := CSh_mz c4
  by_cases z1 : 0 ≤ r ∧ r < 4
  · by_cases z2 : h 5 r < 0
    · exact ⟨-3, fnd h 1, mfnd (fnd h 1) 1, fun Q => by rw [u_X9_put, e_isNumber_b, b2_if, if_pos z1, e_isThere_b, b2_if, if_neg (by omega), e_refuse (by decide) (by decide)], fun Q => (e_m_put (h := fnd h 1) (EF_50 n) hz).trans ((if_pos z1).trans (if_pos ((CSh_neg c4 z1).mpr z2))), Cpl_fnd hC' (by decide) (by decide)⟩
    · have e2 := CSh_eq c4 z1 (by omega)
      have e3 : ¬ h 55 r < 0 := by omega
      by_cases z3 : 0 ≤ i ∧ i < h 5 r
      · have z3' : 0 ≤ i ∧ i < h 55 r := by omega
        have e4 := (c4.2.2 r i z1.1 z1.2 z3.1 z3.2).1
        refine ⟨w32 (h 56 (40 * r + i) + 1000), hst h 6 (40 * r + i) (w8 v), _, fun Q => ?_, fun Q => (e_m_put (h := hst h 6 (40 * r + i) (w8 v)) (EF_50 n) hz).trans ((if_pos z1).trans ((if_neg e3).trans (if_pos z3'))), ?_⟩
        · rw [u_X9_put, e_isNumber_b, b2_if, if_pos z1, e_isThere_b, b2_if, if_pos (by omega), e_hasPlaces_b c4.1 hi, b2_if, if_pos (by omega), e_swap_b c4.1 (by omega), e4]
        · unfold Cpl
          simp only [hst_at, hrow_at, up_at, Int.reduceEq, if_true, if_false, reduceIte]
          exact ⟨c1, c2, c3, CSh_set c4 (w8_b v), c5, c6, c7, c8, c9, c10, c11, c12, c13, c14, c15⟩
      · have z3' : ¬ (0 ≤ i ∧ i < h 55 r) := by omega
        exact ⟨-3, fnd h 2, mfnd (fnd h 2) 2, fun Q => by rw [u_X9_put, e_isNumber_b, b2_if, if_pos z1, e_isThere_b, b2_if, if_pos (by omega), e_hasPlaces_b c4.1 hi, b2_if, if_neg (by omega), e_refuse (by decide) (by decide)], fun Q => (e_m_put (h := fnd h 2) (EF_50 n) hz).trans ((if_pos z1).trans ((if_neg e3).trans (if_neg z3'))), Cpl_fnd hC' (by decide) (by decide)⟩
  · exact ⟨-1, h, h, fun Q => by rw [u_X9_put, e_isNumber_b, b2_if, if_neg z1], fun Q => (e_m_put (h := h) (EF_50 n) hz).trans (if_neg z1), hC'⟩
theorem p_tear {n r : Int} : Pr n mX9_tear mX10_tear [(0, r)] := by
  intro h hC
  have hC' := hC
  obtain ⟨c1, c2, c3, c4, c5, c6, c7, c8, c9, c10, c11, c12, c13, c14, c15⟩ := hC
  by_cases z1 : 0 ≤ r ∧ r < 6
  · by_cases z2 : h 2 r < 0
    · exact ⟨-3, fnd h 1, mfnd (fnd h 1) 1, fun Q => by rw [u_X9_tear, e_isNumber_a, b2_if, if_pos z1, e_isThere_a, b2_if, if_neg (by omega), e_refuse (by decide) (by decide)], fun Q => (e_m_tear (EF_50 n)).trans ((if_pos z1).trans (if_pos ((CSh_neg c3 z1).mpr z2))), Cpl_fnd hC' (by decide) (by decide)⟩
    · have e2 := CSh_eq c3 z1 (by omega)
      have e3 : ¬ h 52 r < 0 := by omega
      refine ⟨1, hst h 2 r (-1), hst (hst h 2 r (-1)) 52 r (-9), fun Q => by rw [u_X9_tear, e_isNumber_a, b2_if, if_pos z1, e_isThere_a, b2_if, if_pos (by omega), e_remove_a z1], fun Q => (e_m_tear (EF_50 n)).trans ((if_pos z1).trans (if_neg e3)), ?_⟩
      unfold Cpl
      simp only [hst_at, hrow_at, up_at, Int.reduceEq, if_true, if_false, reduceIte]
      exact ⟨c1, c2, CSh_tear c3, c4, c5, c6, c7, c8, c9, c10, c11, c12, c13, c14, c15⟩
  · exact ⟨-1, h, h, fun Q => by rw [u_X9_tear, e_isNumber_a, b2_if, if_neg z1], fun Q => (e_m_tear (EF_50 n)).trans (if_neg z1), hC'⟩
