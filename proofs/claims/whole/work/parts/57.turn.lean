/-! join, amount, at, turning, told, mark -/
theorem e_m_join {E : PvEnv} (hE : ∀ k, E 50 k = refT 50 k) {d : Nat} {Q : Int → Hp → Prop} {h : Hp} {c : Int} (ha : ∀ k : Int, 0 ≤ k → k < 336 → 0 ≤ h 58 k ∧ h 58 k ≤ 1000000) : wpS E (d + 5) mX10_join [(2, 50), (0, c)] h Q = if 0 ≤ c ∧ c < 80 then (if h 57 (16 + 4 * c) ≠ 0 ∧ h 57 (16 + 4 * c + 1) ≠ 0 ∧ h 57 (16 + 4 * c + 2) ≠ 0 ∧ h 57 (16 + 4 * c + 3) ≠ 0 then (if (h 59 (16 + 4 * c) = 1 ∧ h 59 (16 + 4 * c + 1) = 1 ∧ h 59 (16 + 4 * c + 2) = 1 ∧ h 59 (16 + 4 * c + 3) = 1) then (if 1000000 < sum4 (h 58) c then Q (-3) (mfnd h 2) else Q (sum4 (h 58) c) (mv h (up (fun j => if 16 + 4 * c ≤ j ∧ j < 16 + 4 * c + 4 then 0 else h 57 j) c 1) (up (h 58) c (sum4 (h 58) c)) (up (h 59) c (if c < 16 then 0 else 1)) (up (h 60) c (h 60 (16 + 4 * c))) (up (h 61) c (-9)) (pnt (h 62) c))) else Q (-3) (mfnd h 3)) else Q (-3) (mfnd h 1)) else Q (-1) h := by
  rw [u_X10_join hE, e_m_in, b2_if]
  by_cases z1 : 0 ≤ c ∧ c < 80
  · rw [if_pos z1, if_pos (by omega), e_m_together hE z1 ha]
    by_cases z2 : h 57 (16 + 4 * c) ≠ 0 ∧ h 57 (16 + 4 * c + 1) ≠ 0 ∧ h 57 (16 + 4 * c + 2) ≠ 0 ∧ h 57 (16 + 4 * c + 3) ≠ 0
    · rw [if_pos z2, if_pos z2]
      by_cases z3 : (h 59 (16 + 4 * c) = 1 ∧ h 59 (16 + 4 * c + 1) = 1 ∧ h 59 (16 + 4 * c + 2) = 1 ∧ h 59 (16 + 4 * c + 3) = 1)
      · have a0 := ha (16 + 4 * c) (by omega) (by omega)
        have a1 := ha (16 + 4 * c + 1) (by omega) (by omega)
        have a2 := ha (16 + 4 * c + 2) (by omega) (by omega)
        have a3 := ha (16 + 4 * c + 3) (by omega) (by omega)
        have s0 : 0 ≤ sum4 (h 58) c := by unfold sum4; omega
        rw [if_pos z3, if_pos z3, if_neg (by omega), if_neg (by omega), e_meets hE (by decide) (by decide)]
        have e := e_m_doJoin (Q := fun r3 h3 => Q (sum4 (h 58) c) h3) hE (d := d) (h := h) (T := h 57) (A := h 58) (K := h 59) (G := h 60) (X := h 61) (S := h 62) (c := c) z1 ha z2 z3
        rw [mv_id] at e
        rw [e]
      · rw [if_neg z3, if_neg z3, if_neg (by decide), if_pos (by decide), e_meets hE (by decide) (by decide)]
    · rw [if_neg z2, if_neg z2, if_pos rfl, e_meets hE (by decide) (by decide)]
  · rw [if_neg z1, if_neg (by omega)]
theorem e_m_amount {E : PvEnv} (hE : ∀ k, E 50 k = refT 50 k) {d : Nat} {Q : Int → Hp → Prop} {h : Hp} {c v : Int} : wpS E (d + 4) mX10_amount [(2, 50), (0, c), (0, v)] h Q = if 0 ≤ v ∧ v ≤ 1000000 then (if 0 ≤ c ∧ c < 336 then (if h 57 c = 0 then Q (-3) (mfnd h 1) else Q (h 58 c) (hst h 58 c v)) else Q (-1) h) else Q (-1) h := by
  rw [u_X10_amount hE, e_m_isAmount, b2_if, e_m_askedCell hE]
  by_cases z0 : 0 ≤ v ∧ v ≤ 1000000
  · rw [if_pos z0, if_pos z0]
    by_cases z1 : 0 ≤ c ∧ c < 336
    · rw [if_pos z1, if_pos z1]
      by_cases z2 : h 57 c = 0
      · rw [if_pos z2, if_pos z2, if_pos (by decide)]
      · rw [if_neg z2, if_neg z2, if_neg (by decide), and_tl z1, and_tl z1]
    · rw [if_neg z1, if_neg z1, if_pos (by decide)]
  · rw [if_neg z0, if_neg z0]
theorem e_m_become {E : PvEnv} (hE : ∀ k, E 50 k = refT 50 k) {d : Nat} {Q : Int → Hp → Prop} {h : Hp} {c f t b x : Int} : wpS E (d + 4) mX10_become [(2, 50), (0, c), (0, f), (0, t), (0, b), (0, x)] h Q = if 0 ≤ c ∧ c < 336 then (if h 57 c = 0 then Q (-3) (mfnd h 1) else if h 59 c = (if b = 0 then f else t) then Q 1 (hst (hst h 59 c (if b = 0 then t else f)) 61 c (if b = 0 then x else -9)) else Q (-3) (mfnd h 3)) else Q (-1) h := by
  rw [u_X10_become hE, e_m_askedCell hE]
  by_cases z1 : 0 ≤ c ∧ c < 336
  · rw [if_pos z1, if_pos z1]
    by_cases z2 : h 57 c = 0
    · rw [if_pos z2, if_pos z2, if_pos (by decide)]
    · rw [if_neg z2, if_neg z2, if_neg (by decide), and_tl z1]
      by_cases zb : b = 0
      · rw [if_pos zb, if_pos zb, if_pos zb, if_pos zb, b_X10_become_31 hE, if_pos zb, b_X10_become_55 hE, and_tl z1, if_pos zb, and_tl z1, e_meets hE (by decide) (by decide)]
      · rw [if_neg zb, if_neg zb, if_neg zb, if_neg zb, b_X10_become_31 hE, if_neg zb, b_X10_become_55 hE, and_tl z1, if_neg zb, and_tl z1, e_meets hE (by decide) (by decide)]
  · rw [if_neg z1, if_neg z1, if_pos (by decide)]
theorem e_turn {n : Int} {d : Nat} {Q : Int → Hp → Prop} {h : Hp} {c f t : Int} : wpS (EF n) (d + 3) mX9_turn [(2, 0), (0, c), (0, f), (0, t)] h Q = if 0 ≤ c ∧ c < 336 then (if h 12 c = -1 then Q (-3) (fnd h 1) else if h 12 c = f then Q 1 (bec h c t) else Q (-3) (fnd h 3)) else Q (-1) h := by
  rw [u_X9_turn, e_isName, b2_if, e_w_isThere (EF_11 n), b2_if]
  by_cases z1 : 0 ≤ c ∧ c < 336
  · rw [if_pos z1, if_pos z1]
    by_cases z2 : h 12 c = -1
    · rw [if_pos z2, if_neg (by omega), e_refuse (by decide) (by decide)]
    · rw [if_neg z2, if_pos ⟨z1, z2⟩, and_tl z1, e_become (EF_11 n) z1, e_refuse (by decide) (by decide)]
  · rw [if_neg z1, if_neg z1]
/-- one cell's kind and mark -/
theorem CWld_one {t t' : Int} {K A G X O T A' K' G' X' S : Int → Int} {c k x x' : Int} (w : CWld t t' K A G X O T A' K' G' X' S) (hk0 : K c ≠ -1) (hc : 0 ≤ c ∧ c < 336) (hk : 0 ≤ k ∧ k ≤ 4) (hm : CMrk k x x') : CWld t t' (up K c k) A G (up X c x) O T A' (up K' c k) G' (up X' c x') S := by
  obtain ⟨w1, w2, w3, w4⟩ := w
  have kk : ∀ j, (up K c k j ≠ -1) ↔ (K j ≠ -1) := by
    intro j
    rw [up_at]
    split
    · rename_i e; subst e; constructor
      · intro _; exact hk0
      · intro _; omega
    · exact Iff.rfl
  refine ⟨w1, fun j j1 j2 => ?_, ⟨fun s s1 s2 => ?_, fun j s j1 j2 j3 => w3.2 j s j1 ((kk j).mp j2) j3⟩, w4⟩
  · obtain ⟨⟨a1, a2, a3, a4⟩, m⟩ := w2 j j1 j2
    by_cases z : j = c
    · subst z
      rw [up_s, up_s, up_s, up_s]
      refine ⟨⟨⟨by omega, by omega⟩, ?_, a3, fun _ => ⟨rfl, (a4 hk0).2⟩⟩, hm⟩
      rw [a2, if_neg hk0, if_neg (by omega)]
    · rw [up_n _ _ z, up_n _ _ z, up_n _ _ z, up_n _ _ z]
      exact ⟨⟨a1, a2, a3, a4⟩, m⟩
  · have := w3.1 s s1 s2
    exact ⟨this.1, (kk _).mpr this.2.1, this.2.2⟩
/-- the layout does not look at kinds but at who is there -/
theorem CLay_one {b cells : Int} {F B D R V K O : Int → Int} {c k : Int} (w : CLay b cells F B D R V K O) (hk0 : K c ≠ -1) : CLay b cells F B D R V (up K c k) O := by
  refine ⟨w.1, fun e => ⟨fun j j1 j2 j3 => (w.2 e).1 j j1 j2 ?_, (w.2 e).2⟩⟩
  rw [up_at] at j3
  by_cases z : j = c
  · rw [z]; exact hk0
  · rw [if_neg z] at j3; exact j3
theorem CMrk_0 {k x x' : Int} (h : k = 0 ∨ k = 1) : CMrk k x x' := ⟨fun z => by omega, fun z => by omega⟩
theorem p_join {n c : Int} : Pr n mX9_join mX10_join [(0, c)] := by
  intro h hC
  have hC' := hC
  obtain ⟨c1, c2, c3, c4, c5, c6, c7, c8, c9, c10, c11, c12, c13, c14, c15⟩ := hC
  have hA := cw_A' c7
  have hA1 := cw_A c7
  by_cases z1 : 0 ≤ c ∧ c < 80
  · have tt : ∀ q : Int, 0 ≤ q → q < 4 → (h 57 (16 + 4 * c + q) ≠ 0 ↔ h 12 (16 + 4 * c + q) ≠ -1) := fun q a b => not_congr (cw_T c7 (by omega))
    have t0 := tt 0 (by omega) (by omega)
    have t1 := tt 1 (by omega) (by omega)
    have t2 := tt 2 (by omega) (by omega)
    have t3 := tt 3 (by omega) (by omega)
    rw [Int.add_zero] at t0
    by_cases z2 : (h 12 (16 + 4 * c) ≠ -1 ∧ h 12 (16 + 4 * c + 1) ≠ -1 ∧ h 12 (16 + 4 * c + 2) ≠ -1 ∧ h 12 (16 + 4 * c + 3) ≠ -1)
    · have z2' : h 57 (16 + 4 * c) ≠ 0 ∧ h 57 (16 + 4 * c + 1) ≠ 0 ∧ h 57 (16 + 4 * c + 2) ≠ 0 ∧ h 57 (16 + 4 * c + 3) ≠ 0 := ⟨t0.mpr z2.1, t1.mpr z2.2.1, t2.mpr z2.2.2.1, t3.mpr z2.2.2.2⟩
      have g0 := cw_e c7 (c := 16 + 4 * c) (by omega) z2.1
      have g1 := cw_e c7 (c := 16 + 4 * c + 1) (by omega) z2.2.1
      have g2 := cw_e c7 (c := 16 + 4 * c + 2) (by omega) z2.2.2.1
      have g3 := cw_e c7 (c := 16 + 4 * c + 3) (by omega) z2.2.2.2
      have es : sum4 (h 58) c = sum4 (h 13) c := by
        unfold sum4
        rw [g0.2.1, g1.2.1, g2.2.1, g3.2.1]
      by_cases z3 : (h 12 (16 + 4 * c) = 1 ∧ h 12 (16 + 4 * c + 1) = 1 ∧ h 12 (16 + 4 * c + 2) = 1 ∧ h 12 (16 + 4 * c + 3) = 1)
      · have z3' : (h 59 (16 + 4 * c) = 1 ∧ h 59 (16 + 4 * c + 1) = 1 ∧ h 59 (16 + 4 * c + 2) = 1 ∧ h 59 (16 + 4 * c + 3) = 1) := by
          rw [g0.1, g1.1, g2.1, g3.1]
          exact z3
        by_cases z4 : 1000000 < sum4 (h 13) c
        · have z4' : 1000000 < sum4 (h 58) c := by omega
          exact ⟨-3, fnd h 2, mfnd (fnd h 2) 2, fun Q => by rw [u_X9_join, if_neg (by omega), if_pos z1.2, e_hasFour (EF_11 n) z1, if_pos z2, if_neg (by decide), e_hasFourFine (EF_11 n) z1, if_pos z3, if_neg (by decide), e_sumOfFour (EF_11 n) z1 z2 hA1, if_pos z4, e_refuse (by decide) (by decide)], fun Q => (e_m_join (h := fnd h 2) (EF_50 n) hA).trans ((if_pos z1).trans ((if_pos z2').trans ((if_pos z3').trans (if_pos z4')))), Cpl_fnd hC' (by decide) (by decide)⟩
        · have z4' : ¬ 1000000 < sum4 (h 58) c := by omega
          have q : ∀ Q : Int → Hp → Prop, wpS (EF n) 8 mX8_makeOneOfFour [(2, 11), (0, c)] h Q = Q 0 (wv h (up (h 11) 9 1) (joiK (h 12) c) (up (h 13) c (sum4 (h 13) c)) (up (h 14) c (h 14 (16 + 4 * c))) (pnt (h 19) c)) := fun Q => by
            have := e_makeOne (E := EF n) (EF_11 n) (d := 3) (Q := Q) (h := h) (R := h 11) (K := h 12) (A := h 13) (G := h 14) (O := h 19) z1 z2 hA1 c6
            rw [wv_id] at this
            exact this
          refine ⟨sum4 (h 58) c, wv h (up (h 11) 9 1) (joiK (h 12) c) (up (h 13) c (sum4 (h 13) c)) (up (h 14) c (h 14 (16 + 4 * c))) (pnt (h 19) c), _, fun Q => ?_, fun Q => (e_m_join (h := wv h (up (h 11) 9 1) (joiK (h 12) c) (up (h 13) c (sum4 (h 13) c)) (up (h 14) c (h 14 (16 + 4 * c))) (pnt (h 19) c)) (EF_50 n) hA).trans ((if_pos z1).trans ((if_pos z2').trans ((if_pos z3').trans (if_neg z4')))), ?_⟩
          · rw [u_X9_join, if_neg (by omega), if_pos z1.2, e_hasFour (EF_11 n) z1, if_pos z2, if_neg (by decide), e_hasFourFine (EF_11 n) z1, if_pos z3, if_neg (by decide), e_sumOfFour (EF_11 n) z1 z2 hA1, if_neg z4, q, es]
          · unfold Cpl wv mv
            simp only [hst_at, hrow_at, up_at, Int.reduceEq, if_true, if_false, reduceIte]
            exact ⟨c1, c2, c3, c4, c5, c6, CWld_join c7 z1 z2 (by omega), CLay_cut (b := 1), c9, c10, c11, c12, c13, c14, c15⟩
      · have z3' : ¬ (h 59 (16 + 4 * c) = 1 ∧ h 59 (16 + 4 * c + 1) = 1 ∧ h 59 (16 + 4 * c + 2) = 1 ∧ h 59 (16 + 4 * c + 3) = 1) := by
          rw [g0.1, g1.1, g2.1, g3.1]
          exact z3
        exact ⟨-3, fnd h 3, mfnd (fnd h 3) 3, fun Q => by rw [u_X9_join, if_neg (by omega), if_pos z1.2, e_hasFour (EF_11 n) z1, if_pos z2, if_neg (by decide), e_hasFourFine (EF_11 n) z1, if_neg z3, if_pos rfl, e_refuse (by decide) (by decide)], fun Q => (e_m_join (h := fnd h 3) (EF_50 n) hA).trans ((if_pos z1).trans ((if_pos z2').trans (if_neg z3'))), Cpl_fnd hC' (by decide) (by decide)⟩
    · have z2' : ¬ (h 57 (16 + 4 * c) ≠ 0 ∧ h 57 (16 + 4 * c + 1) ≠ 0 ∧ h 57 (16 + 4 * c + 2) ≠ 0 ∧ h 57 (16 + 4 * c + 3) ≠ 0) := fun w => z2 ⟨t0.mp w.1, t1.mp w.2.1, t2.mp w.2.2.1, t3.mp w.2.2.2⟩
      exact ⟨-3, fnd h 1, mfnd (fnd h 1) 1, fun Q => by rw [u_X9_join, if_neg (by omega), if_pos z1.2, e_hasFour (EF_11 n) z1, if_neg z2, if_pos rfl, e_refuse (by decide) (by decide)], fun Q => (e_m_join (h := fnd h 1) (EF_50 n) hA).trans ((if_pos z1).trans (if_neg z2')), Cpl_fnd hC' (by decide) (by decide)⟩
  · refine ⟨-1, h, h, fun Q => ?_, fun Q => (e_m_join (h := h) (EF_50 n) hA).trans (if_neg z1), hC'⟩
    rw [u_X9_join]
    by_cases w : c < 0
    · rw [if_pos w]
    · rw [if_neg w, if_neg (by omega)]
theorem p_amount {n c v : Int} : Pr n mX9_amount mX10_amount [(0, c), (0, v)] := by
  intro h hC
  have hC' := hC
  obtain ⟨c1, c2, c3, c4, c5, c6, c7, c8, c9, c10, c11, c12, c13, c14, c15⟩ := hC
  by_cases z1 : 0 ≤ c ∧ c < 336
  · by_cases z0 : 0 ≤ v ∧ v ≤ 1000000
    · by_cases z2 : h 12 c = -1
      · exact ⟨-3, fnd h 1, mfnd (fnd h 1) 1, fun Q => by rw [u_X9_amount, e_isName, b2_if, if_pos z1, e_isAmount, b2_if, if_pos z0, e_w_isThere (EF_11 n), b2_if, if_neg (by omega), e_refuse (by decide) (by decide)], fun Q => (e_m_amount (h := fnd h 1) (EF_50 n)).trans ((if_pos z0).trans ((if_pos z1).trans (if_pos ((cw_T c7 z1).mpr z2)))), Cpl_fnd hC' (by decide) (by decide)⟩
      · have z2' : ¬ h 57 c = 0 := fun w => z2 ((cw_T c7 z1).mp w)
        have e := cw_e c7 z1 z2
        refine ⟨h 58 c, hst h 13 c v, hst (hst h 13 c v) 58 c v, fun Q => by rw [u_X9_amount, e_isName, b2_if, if_pos z1, e_isAmount, b2_if, if_pos z0, e_w_isThere (EF_11 n), b2_if, if_pos ⟨z1, z2⟩, and_tl z1, and_tl z1, e.2.1], fun Q => (e_m_amount (h := hst h 13 c v) (EF_50 n)).trans ((if_pos z0).trans ((if_pos z1).trans (if_neg z2'))), ?_⟩
        unfold Cpl
        simp only [hst_at, hrow_at, up_at, Int.reduceEq, if_true, if_false, reduceIte]
        refine ⟨c1, c2, c3, c4, c5, c6, ?_, c8, c9, c10, c11, c12, c13, c14, c15⟩
        refine ⟨c7.1, fun j j1 j2 => ?_, c7.2.2⟩
        obtain ⟨⟨a1, a2, a3, a4⟩, m⟩ := c7.2.1 j j1 j2
        by_cases z : j = c
        · subst z
          rw [up_s, up_s]
          exact ⟨⟨a1, a2, ⟨z0, z0, a3.2.2⟩, fun w => ⟨(a4 w).1, rfl, (a4 w).2.2⟩⟩, m⟩
        · rw [up_n _ _ z, up_n _ _ z]
          exact ⟨⟨a1, a2, a3, a4⟩, m⟩
    · exact ⟨-1, h, h, fun Q => by rw [u_X9_amount, e_isName, b2_if, if_pos z1, e_isAmount, b2_if, if_neg z0], fun Q => (e_m_amount (h := h) (EF_50 n)).trans (if_neg z0), hC'⟩
  · refine ⟨-1, h, h, fun Q => by rw [u_X9_amount, e_isName, b2_if, if_neg z1], fun Q => (e_m_amount (h := h) (EF_50 n)).trans ?_, hC'⟩
    by_cases z0 : 0 ≤ v ∧ v ≤ 1000000
    · rw [if_pos z0, if_neg z1]
    · rw [if_neg z0]
theorem p_at {n x y : Int} : Pr n mX9_at mX10_at [(0, x), (0, y)] := by
  intro h hC
  have hC' := hC
  obtain ⟨c1, c2, c3, c4, c5, c6, c7, c8, c9, c10, c11, c12, c13, c14, c15⟩ := hC
  by_cases z : (0 ≤ x ∧ x < 16) ∧ 0 ≤ y ∧ y < 16
  · refine ⟨h 19 (16 * y + x), h, h, fun Q => by rw [u_X9_at, e_isOnWorld, b2_if, if_pos z, e_ownerAt (EF_11 n), if_pos z], fun Q => ?_, hC'⟩
    rw [u_X10_at (EF_50 n), e_m_in, b2_if, if_pos (by omega), e_m_in, b2_if, if_pos (by omega), w32_of (x := 16 * y) (by omega) (by omega), w32_of (by omega) (by omega), and_tl (by omega), c7.2.2.2 _ (by omega) (by omega)]
  · refine ⟨-1, h, h, fun Q => by rw [u_X9_at, e_isOnWorld, b2_if, if_neg z], fun Q => ?_, hC'⟩
    rw [u_X10_at (EF_50 n), e_m_in, b2_if]
    by_cases w : 0 ≤ x ∧ x < 16
    · rw [if_pos (by omega), e_m_in, b2_if, if_neg (by omega)]
    · rw [if_neg (by omega)]
theorem p_edge {n c b : Int} : Pr n mX9_edge mX10_edge [(0, c), (0, b)] := by
  intro h hC
  have hC' := hC
  obtain ⟨c1, c2, c3, c4, c5, c6, c7, c8, c9, c10, c11, c12, c13, c14, c15⟩ := hC
  have gen : ∀ f t x : Int, (0 ≤ t ∧ t ≤ 4) → (f = (if b = 0 then 0 else 3)) → (t = (if b = 0 then 3 else 0)) → x = (if b = 0 then 0 else -9) → CMrk t (if t = 2 then -1 else if t = 4 then h 11 8 else 0) x → ∃ a h1 h2, (∀ Q : Int → Hp → Prop, wpS (EF n) 8 mX9_turn [(2, 0), (0, c), (0, f), (0, t)] h Q = Q a h1) ∧ (∀ Q : Int → Hp → Prop, wpS (EF n) 9 mX10_edge ((2, 50) :: [(0, c), (0, b)]) h1 Q = Q a h2) ∧ Cpl h2 := by
    intro f t x ht hf0 ht0 hx hm
    by_cases z1 : 0 ≤ c ∧ c < 336
    · by_cases z2 : h 12 c = -1
      · exact ⟨-3, fnd h 1, mfnd (fnd h 1) 1, fun Q => by rw [e_turn, if_pos z1, if_pos z2], fun Q => (u_X10_edge (EF_50 n)).trans ((e_m_become (h := fnd h 1) (EF_50 n)).trans ((if_pos z1).trans (if_pos ((cw_T c7 z1).mpr z2)))), Cpl_fnd hC' (by decide) (by decide)⟩
      · have z2' : ¬ h 57 c = 0 := fun w => z2 ((cw_T c7 z1).mp w)
        have e := cw_e c7 z1 z2
        by_cases z3 : h 12 c = f
        · have z3' : h 59 c = (if b = 0 then 0 else 3) := by rw [e.1, z3, hf0]
          refine ⟨1, bec h c t, _, fun Q => by rw [e_turn, if_pos z1, if_neg z2, if_pos z3], fun Q => (u_X10_edge (EF_50 n)).trans ((e_m_become (h := bec h c t) (EF_50 n)).trans ((if_pos z1).trans ((if_neg z2').trans (if_pos z3')))), ?_⟩
          have hx' : (if b = 0 then 0 else -9) = x := hx.symm
          rw [← ht0, hx']
          unfold Cpl bec
          simp only [hst_at, hrow_at, up_at, Int.reduceEq, if_true, if_false, reduceIte]
          exact ⟨c1, c2, c3, c4, c5, c6, CWld_one c7 z2 z1 ht hm, CLay_one c8 z2, c9, c10, c11, c12, c13, c14, c15⟩
        · have z3' : ¬ h 59 c = (if b = 0 then 0 else 3) := by rw [e.1, ← hf0]; exact z3
          exact ⟨-3, fnd h 3, mfnd (fnd h 3) 3, fun Q => by rw [e_turn, if_pos z1, if_neg z2, if_neg z3], fun Q => (u_X10_edge (EF_50 n)).trans ((e_m_become (h := fnd h 3) (EF_50 n)).trans ((if_pos z1).trans ((if_neg z2').trans (if_neg z3')))), Cpl_fnd hC' (by decide) (by decide)⟩
    · exact ⟨-1, h, h, fun Q => by rw [e_turn, if_neg z1], fun Q => (u_X10_edge (EF_50 n)).trans ((e_m_become (h := h) (EF_50 n)).trans (if_neg z1)), hC'⟩
  by_cases zb : b = 0
  · obtain ⟨a, h1, h2, q1, q2, q3⟩ := gen 0 3 (0) (by decide) (by rw [if_pos zb]) (by rw [if_pos zb]) (by rw [if_pos zb]) (by exact ⟨fun z => absurd z (by decide), fun _ => rfl⟩)
    exact ⟨a, h1, h2, fun Q => by rw [u_X9_edge, if_pos zb, q1], q2, q3⟩
  · obtain ⟨a, h1, h2, q1, q2, q3⟩ := gen 3 0 (-9) (by decide) (by rw [if_neg zb]) (by rw [if_neg zb]) (by rw [if_neg zb]) (CMrk_0 (by decide))
    exact ⟨a, h1, h2, fun Q => by rw [u_X9_edge, if_neg zb, q1], q2, q3⟩
theorem p_freeze {n c b : Int} : Pr n mX9_freeze mX10_freeze [(0, c), (0, b)] := by
  intro h hC
  have hC' := hC
  obtain ⟨c1, c2, c3, c4, c5, c6, c7, c8, c9, c10, c11, c12, c13, c14, c15⟩ := hC
  have gen : ∀ f t x : Int, (0 ≤ t ∧ t ≤ 4) → (f = (if b = 0 then 0 else 4)) → (t = (if b = 0 then 4 else 0)) → x = (if b = 0 then h 50 28 else -9) → CMrk t (if t = 2 then -1 else if t = 4 then h 11 8 else 0) x → ∃ a h1 h2, (∀ Q : Int → Hp → Prop, wpS (EF n) 8 mX9_turn [(2, 0), (0, c), (0, f), (0, t)] h Q = Q a h1) ∧ (∀ Q : Int → Hp → Prop, wpS (EF n) 9 mX10_freeze ((2, 50) :: [(0, c), (0, b)]) h1 Q = Q a h2) ∧ Cpl h2 := by
    intro f t x ht hf0 ht0 hx hm
    by_cases z1 : 0 ≤ c ∧ c < 336
    · by_cases z2 : h 12 c = -1
      · exact ⟨-3, fnd h 1, mfnd (fnd h 1) 1, fun Q => by rw [e_turn, if_pos z1, if_pos z2], fun Q => (u_X10_freeze (EF_50 n)).trans ((e_m_become (h := fnd h 1) (EF_50 n)).trans ((if_pos z1).trans (if_pos ((cw_T c7 z1).mpr z2)))), Cpl_fnd hC' (by decide) (by decide)⟩
      · have z2' : ¬ h 57 c = 0 := fun w => z2 ((cw_T c7 z1).mp w)
        have e := cw_e c7 z1 z2
        by_cases z3 : h 12 c = f
        · have z3' : h 59 c = (if b = 0 then 0 else 4) := by rw [e.1, z3, hf0]
          refine ⟨1, bec h c t, _, fun Q => by rw [e_turn, if_pos z1, if_neg z2, if_pos z3], fun Q => (u_X10_freeze (EF_50 n)).trans ((e_m_become (h := bec h c t) (EF_50 n)).trans ((if_pos z1).trans ((if_neg z2').trans (if_pos z3')))), ?_⟩
          have hx' : (if b = 0 then bec h c t 50 28 else -9) = x := hx.symm
          rw [← ht0, hx']
          unfold Cpl bec
          simp only [hst_at, hrow_at, up_at, Int.reduceEq, if_true, if_false, reduceIte]
          exact ⟨c1, c2, c3, c4, c5, c6, CWld_one c7 z2 z1 ht hm, CLay_one c8 z2, c9, c10, c11, c12, c13, c14, c15⟩
        · have z3' : ¬ h 59 c = (if b = 0 then 0 else 4) := by rw [e.1, ← hf0]; exact z3
          exact ⟨-3, fnd h 3, mfnd (fnd h 3) 3, fun Q => by rw [e_turn, if_pos z1, if_neg z2, if_neg z3], fun Q => (u_X10_freeze (EF_50 n)).trans ((e_m_become (h := fnd h 3) (EF_50 n)).trans ((if_pos z1).trans ((if_neg z2').trans (if_neg z3')))), Cpl_fnd hC' (by decide) (by decide)⟩
    · exact ⟨-1, h, h, fun Q => by rw [e_turn, if_neg z1], fun Q => (u_X10_freeze (EF_50 n)).trans ((e_m_become (h := h) (EF_50 n)).trans (if_neg z1)), hC'⟩
  by_cases zb : b = 0
  · obtain ⟨a, h1, h2, q1, q2, q3⟩ := gen 0 4 (h 50 28) (by decide) (by rw [if_pos zb]) (by rw [if_pos zb]) (by rw [if_pos zb]) (by exact ⟨fun z => absurd z (by decide), fun _ => c7.1⟩)
    exact ⟨a, h1, h2, fun Q => by rw [u_X9_freeze, if_pos zb, q1], q2, q3⟩
  · obtain ⟨a, h1, h2, q1, q2, q3⟩ := gen 4 0 (-9) (by decide) (by rw [if_neg zb]) (by rw [if_neg zb]) (by rw [if_neg zb]) (CMrk_0 (by decide))
    exact ⟨a, h1, h2, fun Q => by rw [u_X9_freeze, if_neg zb, q1], q2, q3⟩
theorem p_see {n c b : Int} : Pr n mX9_see mX10_see [(0, c), (0, b)] := by
  intro h hC
  have hC' := hC
  obtain ⟨c1, c2, c3, c4, c5, c6, c7, c8, c9, c10, c11, c12, c13, c14, c15⟩ := hC
  have gen : ∀ f t x : Int, (0 ≤ t ∧ t ≤ 4) → (f = (if b = 0 then 1 else 2)) → (t = (if b = 0 then 2 else 1)) → x = (if b = 0 then -9 else -9) → CMrk t (if t = 2 then -1 else if t = 4 then h 11 8 else 0) x → ∃ a h1 h2, (∀ Q : Int → Hp → Prop, wpS (EF n) 8 mX9_turn [(2, 0), (0, c), (0, f), (0, t)] h Q = Q a h1) ∧ (∀ Q : Int → Hp → Prop, wpS (EF n) 9 mX10_see ((2, 50) :: [(0, c), (0, b)]) h1 Q = Q a h2) ∧ Cpl h2 := by
    intro f t x ht hf0 ht0 hx hm
    by_cases z1 : 0 ≤ c ∧ c < 336
    · by_cases z2 : h 12 c = -1
      · exact ⟨-3, fnd h 1, mfnd (fnd h 1) 1, fun Q => by rw [e_turn, if_pos z1, if_pos z2], fun Q => (u_X10_see (EF_50 n)).trans ((e_m_become (h := fnd h 1) (EF_50 n)).trans ((if_pos z1).trans (if_pos ((cw_T c7 z1).mpr z2)))), Cpl_fnd hC' (by decide) (by decide)⟩
      · have z2' : ¬ h 57 c = 0 := fun w => z2 ((cw_T c7 z1).mp w)
        have e := cw_e c7 z1 z2
        by_cases z3 : h 12 c = f
        · have z3' : h 59 c = (if b = 0 then 1 else 2) := by rw [e.1, z3, hf0]
          refine ⟨1, bec h c t, _, fun Q => by rw [e_turn, if_pos z1, if_neg z2, if_pos z3], fun Q => (u_X10_see (EF_50 n)).trans ((e_m_become (h := bec h c t) (EF_50 n)).trans ((if_pos z1).trans ((if_neg z2').trans (if_pos z3')))), ?_⟩
          have hx' : (if b = 0 then -9 else -9) = x := hx.symm
          rw [← ht0, hx']
          unfold Cpl bec
          simp only [hst_at, hrow_at, up_at, Int.reduceEq, if_true, if_false, reduceIte]
          exact ⟨c1, c2, c3, c4, c5, c6, CWld_one c7 z2 z1 ht hm, CLay_one c8 z2, c9, c10, c11, c12, c13, c14, c15⟩
        · have z3' : ¬ h 59 c = (if b = 0 then 1 else 2) := by rw [e.1, ← hf0]; exact z3
          exact ⟨-3, fnd h 3, mfnd (fnd h 3) 3, fun Q => by rw [e_turn, if_pos z1, if_neg z2, if_neg z3], fun Q => (u_X10_see (EF_50 n)).trans ((e_m_become (h := fnd h 3) (EF_50 n)).trans ((if_pos z1).trans ((if_neg z2').trans (if_neg z3')))), Cpl_fnd hC' (by decide) (by decide)⟩
    · exact ⟨-1, h, h, fun Q => by rw [e_turn, if_neg z1], fun Q => (u_X10_see (EF_50 n)).trans ((e_m_become (h := h) (EF_50 n)).trans (if_neg z1)), hC'⟩
  by_cases zb : b = 0
  · obtain ⟨a, h1, h2, q1, q2, q3⟩ := gen 1 2 (-9) (by decide) (by rw [if_pos zb]) (by rw [if_pos zb]) (by rw [if_pos zb]) (by exact ⟨fun _ => Or.inr ⟨by rw [if_pos rfl]; decide, by decide⟩, fun z => absurd z (by decide)⟩)
    exact ⟨a, h1, h2, fun Q => by rw [u_X9_see, if_pos zb, q1], q2, q3⟩
  · obtain ⟨a, h1, h2, q1, q2, q3⟩ := gen 2 1 (-9) (by decide) (by rw [if_neg zb]) (by rw [if_neg zb]) (by rw [if_neg zb]) (CMrk_0 (by decide))
    exact ⟨a, h1, h2, fun Q => by rw [u_X9_see, if_neg zb, q1], q2, q3⟩
