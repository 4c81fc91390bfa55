/-! average, copy -/
theorem sm40 {f : Int → Int} {k : Nat} (hk : k ≤ 41) (hf : ∀ j : Nat, j < k → -2147483648 ≤ f j ∧ f j ≤ 2147483647) : -9000000000000 ≤ sm f k ∧ sm f k ≤ 9000000000000 := by
  have := sm_b k hf
  have h2 : (k : Int) ≤ 41 := by omega
  have h3 : (0 : Int) ≤ k := by omega
  have a : (k : Int) * (-2147483648) ≥ 41 * (-2147483648) := by omega
  have b : (k : Int) * 2147483647 ≤ 41 * 2147483647 := by omega
  omega
theorem l_average {n : Int} {d : Nat} {Q : Int → Hp → Prop} {h : Hp} {r m : Int} (hs : SzOK 6 (h 2)) (hr : 0 ≤ r ∧ r < 6) (hm : h 2 r = m) (h1 : 1 ≤ m) (hv : ∀ i : Int, 0 ≤ i → i < m → -2147483648 ≤ h 3 (40 * r + i) ∧ h 3 (40 * r + i) ≤ 2147483647) : Ws (EF n) (d + 4) mX9_average Q 55 [(2, 0), (0, r), (0, m), (1, 0), (9, 0), (0, 0)] [] h = Q 1 (hst h 0 14 (w32 (w64 (Int.tdiv (sm (fun i => h 3 (40 * r + i)) m.toNat) m)))) := by
  have hz := hs r hr.1 hr.2
  have hN : ((m.toNat : Nat) : Int) = m := by omega
  have hv' : ∀ k : Nat, (k : Int) ≤ m → ∀ j : Nat, j < k → -2147483648 ≤ (fun i => h 3 (40 * r + i)) (j : Int) ∧ (fun i => h 3 (40 * r + i)) (j : Int) ≤ 2147483647 := fun k hk j hj => hv j (by omega) (by omega)
  have step : ∀ k : Nat, k < m.toNat → Ws (EF n) (d + 4) mX9_average Q 55 [(2, 0), (0, r), (0, m), (1, sm (fun i => h 3 (40 * r + i)) k), (9, 0), (0, (k : Int))] [] h = Ws (EF n) (d + 4) mX9_average Q 55 [(2, 0), (0, r), (0, m), (1, sm (fun i => h 3 (40 * r + i)) (k + 1)), (9, 0), (0, ((k + 1 : Nat) : Int))] [] h := by
    intro k hk
    have b := sm40 (f := fun i => h 3 (40 * r + i)) (k := k + 1) (by omega) (hv' (k + 1) (by omega))
    have b' : sm (fun i => h 3 (40 * r + i)) (k + 1) = sm (fun i => h 3 (40 * r + i)) k + h 3 (40 * r + (k : Int)) := rfl
    rw [b_X9_average_55, if_pos (by omega), e_get_a hs (by unfold in32; omega), if_pos (by omega), w64_of (by omega) (by omega), w32_n1 (by omega)]
    rfl
  have l := loop_n (P := fun k => Ws (EF n) (d + 4) mX9_average Q 55 [(2, 0), (0, r), (0, m), (1, sm (fun i => h 3 (40 * r + i)) k), (9, 0), (0, (k : Int))] [] h) m.toNat step
  refine l.trans ?_
  rw [b_X9_average_55, hN, if_neg (by omega), and_tl (by omega)]
theorem e_m_average {E : PvEnv} (hE : ∀ k, E 50 k = refT 50 k) {d : Nat} {Q : Int → Hp → Prop} {h : Hp} {r : Int} (hz : ∀ r : Int, 0 ≤ r → r < 6 → -9 ≤ h 52 r ∧ h 52 r ≤ 40) (hv : ∀ i : Int, 0 ≤ r → r < 6 → 0 ≤ i → i < h 52 r → -2147483648 ≤ h 53 (40 * r + i) ∧ h 53 (40 * r + i) ≤ 2147483647) : wpS E (d + 4) mX10_average [(2, 50), (0, r)] h Q = if 0 ≤ r ∧ r < 6 then (if h 52 r < 0 then Q (-3) (mfnd h 1) else if h 52 r = 0 then Q (-3) (mfnd h 4) else Q 1 (hst h 50 2 (w32 (w64 (Int.tdiv (sm (fun i => h 53 (40 * r + i)) (h 52 r).toNat) (h 52 r)))))) else Q (-1) h := by
  rw [u_X10_average hE, e_m_askedRow hE]
  by_cases z1 : 0 ≤ r ∧ r < 6
  · have q := hz r z1.1 z1.2
    rw [if_pos z1, if_pos z1]
    by_cases z2 : h 52 r < 0
    · rw [if_pos z2, if_pos z2, if_pos (by decide)]
    · rw [if_neg z2, if_neg z2, if_neg (by decide)]
      have hN : (((h 52 r).toNat : Nat) : Int) = h 52 r := by omega
      have hv' : ∀ k : Nat, (k : Int) ≤ h 52 r → ∀ j : Nat, j < k → -2147483648 ≤ (fun i => h 53 (40 * r + i)) (j : Int) ∧ (fun i => h 53 (40 * r + i)) (j : Int) ≤ 2147483647 := fun k hk j hj => hv j z1.1 z1.2 (by omega) (by omega)
      have step : ∀ k : Nat, k < (h 52 r).toNat → Ws E (d + 3) mX10_average Q 17 [(2, 50), (0, r), (0, 0), (1, sm (fun i => h 53 (40 * r + i)) k), (9, 0), (0, (k : Int))] [] h = Ws E (d + 3) mX10_average Q 17 [(2, 50), (0, r), (0, 0), (1, sm (fun i => h 53 (40 * r + i)) (k + 1)), (9, 0), (0, ((k + 1 : Nat) : Int))] [] h := by
        intro k hk
        have b := sm40 (f := fun i => h 53 (40 * r + i)) (k := k + 1) (by omega) (hv' (k + 1) (by omega))
        have b' : sm (fun i => h 53 (40 * r + i)) (k + 1) = sm (fun i => h 53 (40 * r + i)) k + h 53 (40 * r + (k : Int)) := rfl
        rw [b_X10_average_17 hE, and_tl z1, if_pos (by omega), ix_m (by omega) (by omega) (by omega) (by omega), and_tl (by omega), w64_of (by omega) (by omega), w32_n1 (by omega)]
        rfl
      have l := loop_n (P := fun k => Ws E (d + 3) mX10_average Q 17 [(2, 50), (0, r), (0, 0), (1, sm (fun i => h 53 (40 * r + i)) k), (9, 0), (0, (k : Int))] [] h) (h 52 r).toNat step
      refine l.trans ?_
      rw [b_X10_average_17 hE, and_tl z1, hN, if_neg (by omega), and_tl z1, e_meets hE (by decide) (by decide), and_tl z1]
      by_cases z3 : h 52 r = 0
      · rw [if_pos z3, if_pos z3]
      · rw [if_neg z3, if_neg z3, and_tl z3, e_m_ask hE]
  · rw [if_neg z1, if_neg z1, if_pos (by decide)]
theorem p_average {n r : Int} : Pr n mX9_average mX10_average [(0, r)] := by
  intro h hC
  have hC' := hC
  obtain ⟨c1, c2, c3, c4, c5, c6, c7, c8, c9, c10, c11, c12, c13, c14, c15⟩ := hC
  have hz := CSh_mz c3
  have hv : ∀ i : Int, 0 ≤ r → r < 6 → 0 ≤ i → i < h 52 r → -2147483648 ≤ h 53 (40 * r + i) ∧ h 53 (40 * r + i) ≤ 2147483647 := by
    intro i a1 a2 a3 a4
    have q := c3.2.1 r a1 a2
    have p := c3.2.2 r i a1 a2 a3 (by omega)
    rw [p.1]
    exact p.2
  by_cases z1 : 0 ≤ r ∧ r < 6
  · by_cases z2 : h 2 r < 0
    · exact ⟨-3, fnd h 1, mfnd (fnd h 1) 1, fun Q => by rw [u_X9_average, e_isNumber_a, b2_if, if_pos z1, e_isThere_a, b2_if, if_neg (by omega), e_refuse (by decide) (by decide)], fun Q => (e_m_average (h := fnd h 1) (EF_50 n) hz hv).trans ((if_pos z1).trans (if_pos ((CSh_neg c3 z1).mpr z2))), Cpl_fnd hC' (by decide) (by decide)⟩
    · have e2 := CSh_eq c3 z1 (by omega)
      have e3 : ¬ h 52 r < 0 := by omega
      by_cases z3 : h 2 r = 0
      · have z3' : h 52 r = 0 := by omega
        exact ⟨-3, fnd h 4, mfnd (fnd h 4) 4, fun Q => by rw [u_X9_average, e_isNumber_a, b2_if, if_pos z1, e_isThere_a, b2_if, if_pos (by omega), e_sizeOf_a, if_pos z1, if_pos (by omega), e_refuse (by decide) (by decide)], fun Q => (e_m_average (h := fnd h 4) (EF_50 n) hz hv).trans ((if_pos z1).trans ((if_neg e3).trans (if_pos z3'))), Cpl_fnd hC' (by decide) (by decide)⟩
      · have z3' : ¬ h 52 r = 0 := by omega
        have es : sm (fun i => h 53 (40 * r + i)) (h 2 r).toNat = sm (fun i => h 3 (40 * r + i)) (h 2 r).toNat := sm_c _ (fun j hj => (c3.2.2 r j z1.1 z1.2 (by omega) (by omega)).1)
        refine ⟨1, hst h 0 14 (w32 (w64 (Int.tdiv (sm (fun i => h 3 (40 * r + i)) (h 2 r).toNat) (h 2 r)))), _, fun Q => ?_, fun Q => (e_m_average (h := hst h 0 14 (w32 (w64 (Int.tdiv (sm (fun i => h 3 (40 * r + i)) (h 2 r).toNat) (h 2 r))))) (EF_50 n) hz hv).trans ((if_pos z1).trans ((if_neg e3).trans (if_neg z3'))), ?_⟩
        · rw [u_X9_average, e_isNumber_a, b2_if, if_pos z1, e_isThere_a, b2_if, if_pos (by omega), e_sizeOf_a, if_pos z1, if_neg (by omega), l_average c3.1 z1 rfl (by omega) (fun i a b => (c3.2.2 r i z1.1 z1.2 a b).2)]
        · unfold Cpl
          simp only [hst_at, hrow_at, up_at, Int.reduceEq, if_true, if_false, reduceIte]
          refine ⟨c1, ?_, c3, c4, c5, c6, c7, c8, c9, c10, c11, c12, c13, c14, c15⟩
          rw [e2, es]
  · exact ⟨-1, h, h, fun Q => by rw [u_X9_average, e_isNumber_a, b2_if, if_neg z1], fun Q => (e_m_average (h := h) (EF_50 n) hz hv).trans (if_neg z1), hC'⟩
/-- what copy writes -/
def cpy (f : Int → Int) (a b m : Int) : Int → Int := fun j => if b ≤ j ∧ j < b + m then f (a + (j - b)) else f j
def mov (g f : Int → Int) (a m : Int) : Int → Int := fun j => if 0 ≤ j ∧ j < m then f (a + j) else g j
theorem ix_c {r i k : Int} (h1 : 0 ≤ r) (h2 : r < 6) (h3 : 0 ≤ i) (h4 : i ≤ 40) (h5 : 0 ≤ k) (h6 : k ≤ 40) : w32 (w32 (w32 (40 * r) + i) + k) = 40 * r + i + k := by
  rw [ix_m h1 h2 h3 h4, w32_of (by omega) (by omega)]
theorem l_m_copy {E : PvEnv} (hE : ∀ k, E 50 k = refT 50 k) {d : Nat} {Q : Int → Hp → Prop} {h : Hp} {r i t j m : Int} (hr : (0 ≤ r ∧ r < 6) ∧ 0 ≤ t ∧ t < 6) (hi : (0 ≤ i ∧ i + m ≤ 40) ∧ 0 ≤ j ∧ j + m ≤ 40) (hm : 0 ≤ m) : Ws E d mX10_copy Q 104 [(2, 50), (0, r), (0, i), (0, t), (0, j), (0, m), (0, 0)] [] h = Q 1 (hrow (hrow h 54 (mov (h 54) (h 53) (40 * r + i) m)) 53 (cpy (h 53) (40 * r + i) (40 * t + j) m)) := by
  have hN : ((m.toNat : Nat) : Int) = m := by omega
  have s1 : ∀ k : Nat, k < m.toNat → Ws E d mX10_copy Q 104 [(2, 50), (0, r), (0, i), (0, t), (0, j), (0, m), (0, (k : Int))] [] (hrow h 54 (mov (h 54) (h 53) (40 * r + i) k)) = Ws E d mX10_copy Q 104 [(2, 50), (0, r), (0, i), (0, t), (0, j), (0, m), (0, ((k + 1 : Nat) : Int))] [] (hrow h 54 (mov (h 54) (h 53) (40 * r + i) ((k + 1 : Nat) : Int))) := by
    intro k hk
    rw [b_X10_copy_104 hE, if_pos (by omega), ix_c (by omega) (by omega) (by omega) (by omega) (by omega) (by omega), and_tl (by omega), and_tl (by omega), w32_n1 (by omega), hst_rr, hrow_n _ _ (by decide)]
    congr 2
    funext q
    unfold up mov
    by_cases w : q = (k : Int)
    · subst w
      rw [if_pos rfl, if_pos (by omega)]
    · rw [if_neg w]
      by_cases w2 : 0 ≤ q ∧ q < (k : Int)
      · rw [if_pos w2, if_pos (by omega)]
      · rw [if_neg w2, if_neg (by omega)]
  have l1 := loop_n (P := fun k => Ws E d mX10_copy Q 104 [(2, 50), (0, r), (0, i), (0, t), (0, j), (0, m), (0, (k : Int))] [] (hrow h 54 (mov (h 54) (h 53) (40 * r + i) k))) m.toNat s1
  have e0 : hrow h 54 (mov (h 54) (h 53) (40 * r + i) ((0 : Nat) : Int)) = h := by
    have : mov (h 54) (h 53) (40 * r + i) ((0 : Nat) : Int) = h 54 := by
      funext q
      unfold mov
      rw [if_neg (by omega)]
    rw [this, hrow_self]
  rw [e0, hN] at l1
  refine l1.trans ?_
  rw [b_X10_copy_104 hE, if_neg (by omega)]
  have s2 : ∀ k : Nat, k < m.toNat → Ws E d mX10_copy Q 141 [(2, 50), (0, r), (0, i), (0, t), (0, j), (0, m), (0, (k : Int))] [] (hrow (hrow h 54 (mov (h 54) (h 53) (40 * r + i) m)) 53 (cpy (h 53) (40 * r + i) (40 * t + j) k)) = Ws E d mX10_copy Q 141 [(2, 50), (0, r), (0, i), (0, t), (0, j), (0, m), (0, ((k + 1 : Nat) : Int))] [] (hrow (hrow h 54 (mov (h 54) (h 53) (40 * r + i) m)) 53 (cpy (h 53) (40 * r + i) (40 * t + j) ((k + 1 : Nat) : Int))) := by
    intro k hk
    rw [b_X10_copy_141 hE, if_pos (by omega), ix_c (by omega) (by omega) (by omega) (by omega) (by omega) (by omega), and_tl (by omega), and_tl (by omega), w32_n1 (by omega), hst_rr, hrow_n _ _ (by decide), hrow_s]
    congr 2
    funext q
    unfold up mov cpy
    by_cases w : q = 40 * t + j + (k : Int)
    · rw [if_pos w, if_pos (by omega), if_pos (by omega)]
      congr 1
      omega
    · rw [if_neg w]
      by_cases w2 : 40 * t + j ≤ q ∧ q < 40 * t + j + (k : Int)
      · rw [if_pos w2, if_pos (by omega)]
      · rw [if_neg w2, if_neg (by omega)]
  have l2 := loop_n (P := fun k => Ws E d mX10_copy Q 141 [(2, 50), (0, r), (0, i), (0, t), (0, j), (0, m), (0, (k : Int))] [] (hrow (hrow h 54 (mov (h 54) (h 53) (40 * r + i) m)) 53 (cpy (h 53) (40 * r + i) (40 * t + j) k))) m.toNat s2
  have f0 : hrow (hrow h 54 (mov (h 54) (h 53) (40 * r + i) m)) 53 (cpy (h 53) (40 * r + i) (40 * t + j) ((0 : Nat) : Int)) = hrow h 54 (mov (h 54) (h 53) (40 * r + i) m) := by
    have : cpy (h 53) (40 * r + i) (40 * t + j) ((0 : Nat) : Int) = hrow h 54 (mov (h 54) (h 53) (40 * r + i) m) 53 := by
      funext q
      unfold cpy
      rw [if_neg (by omega), hrow_n _ _ (by decide)]
    rw [this, hrow_self]
  rw [f0, hN] at l2
  refine l2.trans ?_
  rw [b_X10_copy_141 hE, if_neg (by omega)]
theorem lc_gt {a b : Int} : (0 < lcmpI a b) = (b < a) := by
  unfold lcmpI
  split
  · simp; omega
  · split
    · simp; omega
    · simp; omega
theorem lc_if {a b : Int} {A B : Prop} : (if 0 < lcmpI a b then A else B) = if b < a then A else B := by
  by_cases z : b < a
  · rw [if_pos z, if_pos (by rw [lc_gt]; exact z)]
  · rw [if_neg z, if_neg (by rw [lc_gt]; exact z)]
theorem e_m_copy {E : PvEnv} (hE : ∀ k, E 50 k = refT 50 k) {d : Nat} {Q : Int → Hp → Prop} {h : Hp} {r i t j m : Int} (hz : ∀ r : Int, 0 ≤ r → r < 6 → -9 ≤ h 52 r ∧ h 52 r ≤ 40) (hi : in32 i) (hj : in32 j) (hm : in32 m) : wpS E (d + 3) mX10_copy [(2, 50), (0, r), (0, i), (0, t), (0, j), (0, m)] h Q = if (0 ≤ r ∧ r < 6) ∧ 0 ≤ t ∧ t < 6 then (if m < 0 then Q (-3) (mfnd h 5) else if h 52 r < 0 ∨ h 52 t < 0 then Q (-3) (mfnd h 1) else if i < 0 ∨ j < 0 ∨ h 52 r < i + m ∨ h 52 t < j + m then Q (-3) (mfnd h 2) else Q 1 (hrow (hrow h 54 (mov (h 54) (h 53) (40 * r + i) m)) 53 (cpy (h 53) (40 * r + i) (40 * t + j) m))) else Q (-1) h := by
  unfold in32 at hi hj hm
  rw [u_X10_copy hE, e_m_isRow, b2_if, e_m_isRow, b2_if]
  by_cases z1 : 0 ≤ r ∧ r < 6
  · rw [if_pos (show 0 ≤ r ∧ r ≤ 5 by omega)]
    by_cases z2 : 0 ≤ t ∧ t < 6
    · have q1 := hz r z1.1 z1.2
      have q2 := hz t z2.1 z2.2
      rw [if_pos (show 0 ≤ t ∧ t ≤ 5 by omega), if_pos (show (0 ≤ r ∧ r < 6) ∧ 0 ≤ t ∧ t < 6 from ⟨z1, z2⟩)]
      by_cases z3 : m < 0
      · rw [if_pos z3, if_pos z3, e_meets hE (by decide) (by decide)]
      · rw [if_neg z3, if_neg z3, and_tl z1, b_X10_copy_45 hE, b_X10_copy_95 hE, e_meets hE (by decide) (by decide), e_meets hE (by decide) (by decide), and_tl z2, and_tl z1, and_tl z2, lc_if, lc_if, w64_of (by omega) (by omega), w64_of (by omega) (by omega)]
        by_cases z4 : h 52 r < 0
        · rw [if_pos z4, if_pos (show h 52 r < 0 ∨ h 52 t < 0 from Or.inl z4)]
        · rw [if_neg z4]
          by_cases z5 : h 52 t < 0
          · rw [if_pos z5, if_pos (show h 52 r < 0 ∨ h 52 t < 0 from Or.inr z5)]
          · rw [if_neg z5, if_neg (show ¬ (h 52 r < 0 ∨ h 52 t < 0) by omega)]
            by_cases w : i < 0 ∨ j < 0 ∨ h 52 r < i + m ∨ h 52 t < j + m
            · rw [if_pos w]
              by_cases w1 : i < 0
              · rw [if_pos w1]
              · rw [if_neg w1]
                by_cases w2 : j < 0
                · rw [if_pos w2]
                · rw [if_neg w2]
                  by_cases w3 : h 52 r < i + m
                  · rw [if_pos w3]
                  · rw [if_neg w3, if_pos (by omega)]
            · rw [if_neg w, if_neg (by omega), if_neg (by omega), if_neg (by omega), if_neg (by omega), l_m_copy hE ⟨z1, z2⟩ (by omega) (by omega)]
    · rw [if_neg (show ¬ (0 ≤ t ∧ t ≤ 5) by omega), if_neg (show ¬ ((0 ≤ r ∧ r < 6) ∧ 0 ≤ t ∧ t < 6) by omega)]
  · rw [if_neg (show ¬ (0 ≤ r ∧ r ≤ 5) by omega), if_neg (show ¬ ((0 ≤ r ∧ r < 6) ∧ 0 ≤ t ∧ t < 6) by omega)]
theorem CSh_cpy {s p S P : Int → Int} {r i t j m : Int} {lo hi : Int} (c : CSh 6 lo hi s p S P) (h1 : (0 ≤ r ∧ r < 6) ∧ 0 ≤ t ∧ t < 6) (h2 : 0 ≤ i ∧ i + m ≤ s r) (h3 : 0 ≤ j ∧ j + m ≤ s t) : CSh 6 lo hi s (cpy p (40 * r + i) (40 * t + j) m) S (cpy P (40 * r + i) (40 * t + j) m) := by
  obtain ⟨c1, c2, c3⟩ := c
  refine ⟨c1, c2, fun q k g1 g2 g3 g4 => ?_⟩
  unfold cpy
  by_cases w : 40 * t + j ≤ 40 * q + k ∧ 40 * q + k < 40 * t + j + m
  · rw [if_pos w, if_pos w]
    have a := c1 q g1 g2
    have b := c1 t h1.2.1 h1.2.2
    have := c3 r (i + (40 * q + k - (40 * t + j))) h1.1.1 h1.1.2 (by omega) (by omega)
    rw [← Int.add_assoc] at this
    exact this
  · rw [if_neg w, if_neg w]
    exact c3 q k g1 g2 g3 g4

theorem p_copy {n r i t j m : Int} (hi : in32 i) (hj : in32 j) (hm : in32 m) : Pr n mX9_copy mX10_copy [(0, r), (0, i), (0, t), (0, j), (0, m)] := by
  intro h hC
  have hC' := hC
  obtain ⟨c1, c2, c3, c4, c5, c6, c7, c8, c9, c10, c11, c12, c13, c14, c15⟩ := hC
  have hz := CSh_mz c3
  have x0 : ∀ Q : Int → Hp → Prop, wpS (EF n) 9 mX9_copy [(2, 0), (0, r), (0, i), (0, t), (0, j), (0, m)] h Q = if (0 ≤ r ∧ r < 6) ∧ 0 ≤ t ∧ t < 6 then (if m < 0 then Q (-3) (fnd h 5) else if h 2 r < 0 ∨ h 2 t < 0 then Q (-3) (fnd h 1) else if i < 0 ∨ j < 0 ∨ h 2 r < i + m ∨ h 2 t < j + m then Q (-3) (fnd h 2) else Q 1 (hcpy h 3 (40 * r + i) 3 (40 * t + j) m)) else Q (-1) h := by
    intro Q
    rw [u_X9_copy, e_isNumber_a, b2_if, e_isNumber_a, b2_if]
    by_cases z1 : 0 ≤ r ∧ r < 6
    · rw [if_pos z1]
      by_cases z2 : 0 ≤ t ∧ t < 6
      · rw [if_pos z2, if_pos (show (0 ≤ r ∧ r < 6) ∧ 0 ≤ t ∧ t < 6 from ⟨z1, z2⟩)]
        by_cases z3 : m < 0
        · rw [if_pos z3, if_pos z3, e_refuse (by decide) (by decide)]
        · rw [if_neg z3, if_neg z3, e_isThere_a, b2_if, e_isThere_a, b2_if, e_hasPlaces_a c3.1 hi, b2_if, e_hasPlaces_a c3.1 hj, b2_if, b_X9_copy_57, b_X9_copy_92, e_refuse (by decide) (by decide), e_refuse (by decide) (by decide)]
          by_cases z4 : h 2 r < 0
          · rw [if_neg (by omega), if_pos (show h 2 r < 0 ∨ h 2 t < 0 from Or.inl z4)]
          · rw [if_pos (by omega)]
            by_cases z5 : h 2 t < 0
            · rw [if_neg (by omega), if_pos (show h 2 r < 0 ∨ h 2 t < 0 from Or.inr z5)]
            · rw [if_pos (by omega), if_neg (show ¬ (h 2 r < 0 ∨ h 2 t < 0) by omega)]
              by_cases w1 : 0 ≤ i ∧ i + m ≤ h 2 r
              · rw [if_pos (by omega)]
                by_cases w2 : 0 ≤ j ∧ j + m ≤ h 2 t
                · rw [if_pos (by omega), if_neg (by omega), e_bring_a c3.1 (by omega) (by omega)]
                · rw [if_neg (by omega), if_pos (by omega)]
              · rw [if_neg (by omega), if_pos (by omega)]
      · rw [if_neg z2, if_neg (show ¬ ((0 ≤ r ∧ r < 6) ∧ 0 ≤ t ∧ t < 6) by omega)]
    · rw [if_neg z1, if_neg (show ¬ ((0 ≤ r ∧ r < 6) ∧ 0 ≤ t ∧ t < 6) by omega)]
  by_cases z1 : (0 ≤ r ∧ r < 6) ∧ 0 ≤ t ∧ t < 6
  · by_cases z3 : m < 0
    · exact ⟨-3, fnd h 5, mfnd (fnd h 5) 5, fun Q => (x0 Q).trans ((if_pos z1).trans (if_pos z3)), fun Q => (e_m_copy (h := fnd h 5) (EF_50 n) hz hi hj hm).trans ((if_pos z1).trans (if_pos z3)), Cpl_fnd hC' (by decide) (by decide)⟩
    · have n1 := CSh_neg c3 z1.1
      have n2 := CSh_neg c3 z1.2
      by_cases z4 : h 2 r < 0 ∨ h 2 t < 0
      · have z4' : h 52 r < 0 ∨ h 52 t < 0 := by omega
        exact ⟨-3, fnd h 1, mfnd (fnd h 1) 1, fun Q => (x0 Q).trans ((if_pos z1).trans ((if_neg z3).trans (if_pos z4))), fun Q => (e_m_copy (h := fnd h 1) (EF_50 n) hz hi hj hm).trans ((if_pos z1).trans ((if_neg z3).trans (if_pos z4'))), Cpl_fnd hC' (by decide) (by decide)⟩
      · have z4' : ¬ (h 52 r < 0 ∨ h 52 t < 0) := by omega
        have e1 := CSh_eq c3 z1.1 (by omega)
        have e2 := CSh_eq c3 z1.2 (by omega)
        by_cases z5 : i < 0 ∨ j < 0 ∨ h 2 r < i + m ∨ h 2 t < j + m
        · have z5' : i < 0 ∨ j < 0 ∨ h 52 r < i + m ∨ h 52 t < j + m := by omega
          exact ⟨-3, fnd h 2, mfnd (fnd h 2) 2, fun Q => (x0 Q).trans ((if_pos z1).trans ((if_neg z3).trans ((if_neg z4).trans (if_pos z5)))), fun Q => (e_m_copy (h := fnd h 2) (EF_50 n) hz hi hj hm).trans ((if_pos z1).trans ((if_neg z3).trans ((if_neg z4').trans (if_pos z5')))), Cpl_fnd hC' (by decide) (by decide)⟩
        · have z5' : ¬ (i < 0 ∨ j < 0 ∨ h 52 r < i + m ∨ h 52 t < j + m) := by omega
          refine ⟨1, hcpy h 3 (40 * r + i) 3 (40 * t + j) m, _, fun Q => (x0 Q).trans ((if_pos z1).trans ((if_neg z3).trans ((if_neg z4).trans (if_neg z5)))), fun Q => (e_m_copy (h := hcpy h 3 (40 * r + i) 3 (40 * t + j) m) (EF_50 n) (by rw [hcpy_row]; exact hz) hi hj hm).trans ((if_pos z1).trans ((if_neg z3).trans ((if_neg (by rw [hcpy_row]; exact z4')).trans (if_neg (by rw [hcpy_row]; exact z5'))))), ?_⟩
          rw [hcpy_row]
          unfold Cpl
          simp only [hst_at, hrow_at, up_at, Int.reduceEq, if_true, if_false, reduceIte]
          exact ⟨c1, c2, CSh_cpy c3 z1 (by omega) (by omega), c4, c5, c6, c7, c8, c9, c10, c11, c12, c13, c14, c15⟩
  · exact ⟨-1, h, h, fun Q => (x0 Q).trans (if_neg z1), fun Q => (e_m_copy (h := h) (EF_50 n) hz hi hj hm).trans (if_neg z1), hC'⟩
