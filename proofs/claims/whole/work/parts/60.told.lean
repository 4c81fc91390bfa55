/-! told, mark, sum, top, flip -/
theorem e_property {n : Int} {d : Nat} {Q : Int → Hp → Prop} {h : Hp} {c w : Int} (hc : 0 ≤ c ∧ c < 336) (hg : CGeo (h 16) (h 17) (h 18)) : wpS (EF n) (d + 1) mX8_property [(2, 11), (0, c), (0, w)] h Q = Q (if w = 0 then h 12 c else if w = 1 then h 13 c else if w = 2 then gw c else if w = 3 then gx c else if w = 4 then gy c else h 14 c) h := by
  obtain ⟨g1, g2, g3⟩ := hg c hc.1 hc.2
  rw [u_X8_property (EF_11 n), t_X8_property_1, b_X8_propertyw_36 (EF_11 n), b_X8_propertyw_43 (EF_11 n), b_X8_propertyw_50 (EF_11 n), b_X8_propertyw_57 (EF_11 n), b_X8_propertyw_64 (EF_11 n), b_X8_propertyw_71 (EF_11 n), and_tl hc, and_tl hc, and_tl hc, and_tl hc, and_tl hc, and_tl hc, g1, g2, g3]
  repeat' split
  all_goals rfl
theorem e_m_cellTells {E : PvEnv} (hE : ∀ k, E 50 k = refT 50 k) {d : Nat} {Q : Int → Hp → Prop} {h : Hp} {c w : Int} (hc : 0 ≤ c ∧ c < 336) : wpS E (d + 3) mX10_cellTells [(2, 50), (0, c), (0, w)] h Q = Q (if w = 0 then h 59 c else if w = 1 then h 58 c else if w = 2 then gw c else if w = 3 then gx c else if w = 4 then gy c else h 60 c) h := by
  rw [u_X10_cellTells hE, t_X10_cellTells_1, b_X10_cellTellsw_36 hE, b_X10_cellTellsw_43 hE, b_X10_cellTellsw_50 hE, b_X10_cellTellsw_55 hE, b_X10_cellTellsw_60 hE, b_X10_cellTellsw_65 hE, and_tl hc, and_tl hc, and_tl hc, e_m_side, e_m_leftOf hc, e_m_topOf hc]
  repeat' split
  all_goals rfl
theorem e_m_told {E : PvEnv} (hE : ∀ k, E 50 k = refT 50 k) {d : Nat} {Q : Int → Hp → Prop} {h : Hp} {c w : Int} : wpS E (d + 4) mX10_told [(2, 50), (0, c), (0, w)] h Q = if 0 ≤ w ∧ w ≤ 5 then (if 0 ≤ c ∧ c < 336 then (if h 57 c = 0 then Q (-3) (mfnd h 1) else Q 1 (hst h 50 2 (if w = 0 then h 59 c else if w = 1 then h 58 c else if w = 2 then gw c else if w = 3 then gx c else if w = 4 then gy c else h 60 c))) else Q (-1) h) else Q (-1) h := by
  rw [u_X10_told hE, e_m_in, b2_if, e_m_askedCell hE]
  by_cases z0 : 0 ≤ w ∧ w ≤ 5
  · rw [if_pos z0, if_pos z0]
    by_cases z1 : 0 ≤ c ∧ c < 336
    · rw [if_pos z1, if_pos z1]
      by_cases z2 : h 57 c = 0
      · rw [if_pos z2, if_pos z2, if_pos (by decide)]
      · rw [if_neg z2, if_neg z2, if_neg (by decide), e_m_cellTells hE z1, e_m_ask hE]
    · rw [if_neg z1, if_neg z1, if_pos (by decide)]
  · rw [if_neg z0, if_neg z0]
theorem e_m_mark {E : PvEnv} (hE : ∀ k, E 50 k = refT 50 k) {d : Nat} {Q : Int → Hp → Prop} {h : Hp} {c k : Int} : wpS E (d + 4) mX10_mark [(2, 50), (0, c), (0, k)] h Q = if 1 ≤ k ∧ k ≤ 4 then (if 0 ≤ c ∧ c < 336 then (if h 57 c = 0 then Q (-3) (mfnd h 1) else if h 59 c = k ∨ (k = 1 ∧ h 59 c = 2) then Q (if k = 1 then w32 (Int.tdiv (w32 (c - 16)) 4) else if k = 2 ∧ h 61 c < 0 then h 58 c else h 61 c) h else Q (-3) (mfnd h 3)) else Q (-1) h) else Q (-1) h := by
  rw [u_X10_mark hE, e_m_in, b2_if, e_m_askedCell hE]
  by_cases z0 : 1 ≤ k ∧ k ≤ 4
  · rw [if_pos z0, if_pos z0]
    by_cases z1 : 0 ≤ c ∧ c < 336
    · rw [if_pos z1, if_pos z1]
      by_cases z2 : h 57 c = 0
      · rw [if_pos z2, if_pos z2, if_pos (by decide)]
      · rw [if_neg z2, if_neg z2, if_neg (by decide), and_tl z1, and_tl z1, b_X10_mark_48 hE, e_meets hE (by decide) (by decide)]
        have e54 : Ws E (d + 3) mX10_mark Q 54 [(2, 50), (0, c), (0, k), (0, 0)] [] h = Q (if k = 1 then w32 (Int.tdiv (w32 (c - 16)) 4) else if k = 2 ∧ h 61 c < 0 then h 58 c else h 61 c) h := by
          rw [b_X10_mark_54 hE, b_X10_mark_89 hE, and_tl z1, and_tl z1, and_tl z1, e_m_parent0 z1]
          by_cases v1 : k = 1
          · rw [if_pos v1, if_pos v1]
          · rw [if_neg v1, if_neg v1]
            by_cases v2 : k = 2
            · rw [if_pos v2]
              by_cases v3 : h 61 c < 0
              · rw [if_pos v3, if_pos ⟨v2, v3⟩]
              · rw [if_neg v3, if_neg (fun q => v3 q.2)]
            · rw [if_neg v2, if_neg (fun q => v2 q.1)]
        rw [e54]
        by_cases v1 : h 59 c = k
        · rw [if_pos v1, if_pos (Or.inl v1)]
        · rw [if_neg v1]
          by_cases v2 : k = 1
          · rw [if_pos v2]
            by_cases v3 : h 59 c = 2
            · rw [if_pos v3, if_pos (Or.inr ⟨v2, v3⟩)]
            · rw [if_neg v3, if_neg (by omega)]
          · rw [if_neg v2, if_neg (by omega)]
    · rw [if_neg z1, if_neg z1, if_pos (by decide)]
  · rw [if_neg z0, if_neg z0]
theorem p_told {n c w : Int} : Pr n mX9_told mX10_told [(0, c), (0, w)] := by
  intro h hC
  have hC' := hC
  obtain ⟨c1, c2, c3, c4, c5, c6, c7, c8, c9, c10, c11, c12, c13, c14, c15⟩ := hC
  by_cases z1 : 0 ≤ c ∧ c < 336
  · by_cases z0 : 0 ≤ w ∧ w ≤ 5
    · by_cases z2 : h 12 c = -1
      · exact ⟨-3, fnd h 1, mfnd (fnd h 1) 1, fun Q => by rw [u_X9_told, e_isName, b2_if, if_pos z1, if_neg (by omega), if_neg (by omega), e_w_isThere (EF_11 n), b2_if, if_neg (by omega), e_refuse (by decide) (by decide)], fun Q => (e_m_told (h := fnd h 1) (EF_50 n)).trans ((if_pos z0).trans ((if_pos z1).trans (if_pos ((cw_T c7 z1).mpr z2)))), Cpl_fnd hC' (by decide) (by decide)⟩
      · have z2' : ¬ h 57 c = 0 := fun w => z2 ((cw_T c7 z1).mp w)
        have e := cw_e c7 z1 z2
        refine ⟨1, hst h 0 14 (if w = 0 then h 12 c else if w = 1 then h 13 c else if w = 2 then gw c else if w = 3 then gx c else if w = 4 then gy c else h 14 c), _, fun Q => by rw [u_X9_told, e_isName, b2_if, if_pos z1, if_neg (by omega), if_neg (by omega), e_w_isThere (EF_11 n), b2_if, if_pos ⟨z1, z2⟩, e_property z1 c6], fun Q => (e_m_told (h := hst h 0 14 (if w = 0 then h 12 c else if w = 1 then h 13 c else if w = 2 then gw c else if w = 3 then gx c else if w = 4 then gy c else h 14 c)) (EF_50 n)).trans ((if_pos z0).trans ((if_pos z1).trans (if_neg z2'))), ?_⟩
        unfold Cpl
        simp only [hst_at, hrow_at, up_at, Int.reduceEq, if_true, if_false, reduceIte]
        refine ⟨c1, ?_, c3, c4, c5, c6, c7, c8, c9, c10, c11, c12, c13, c14, c15⟩
        rw [e.1, e.2.1, e.2.2]
    · refine ⟨-1, h, h, fun Q => ?_, fun Q => (e_m_told (h := h) (EF_50 n)).trans (if_neg z0), hC'⟩
      rw [u_X9_told, e_isName, b2_if, if_pos z1]
      by_cases v : w < 0
      · rw [if_pos v]
      · rw [if_neg v, if_pos (by omega)]
  · refine ⟨-1, h, h, fun Q => by rw [u_X9_told, e_isName, b2_if, if_neg z1], fun Q => (e_m_told (h := h) (EF_50 n)).trans ?_, hC'⟩
    by_cases z0 : 0 ≤ w ∧ w ≤ 5
    · rw [if_pos z0, if_neg z1]
    · rw [if_neg z0]
theorem p_mark {n c k : Int} : Pr n mX9_mark mX10_mark [(0, c), (0, k)] := by
  intro h hC
  have hC' := hC
  obtain ⟨c1, c2, c3, c4, c5, c6, c7, c8, c9, c10, c11, c12, c13, c14, c15⟩ := hC
  by_cases z1 : 0 ≤ c ∧ c < 336
  · by_cases z0 : 1 ≤ k ∧ k ≤ 4
    · by_cases z2 : h 12 c = -1
      · exact ⟨-3, fnd h 1, mfnd (fnd h 1) 1, fun Q => by rw [u_X9_mark, e_isName, b2_if, if_pos z1, if_neg (by omega), if_neg (by omega), e_w_isThere (EF_11 n), b2_if, if_neg (by omega), e_refuse (by decide) (by decide)], fun Q => (e_m_mark (h := fnd h 1) (EF_50 n)).trans ((if_pos z0).trans ((if_pos z1).trans (if_pos ((cw_T c7 z1).mpr z2)))), Cpl_fnd hC' (by decide) (by decide)⟩
      · have z2' : ¬ h 57 c = 0 := fun w => z2 ((cw_T c7 z1).mp w)
        have e := cw_e c7 z1 z2
        have m := (c7.2.1 c z1.1 z1.2).2
        have x0 : ∀ Q : Int → Hp → Prop, wpS (EF n) 9 mX9_mark [(2, 0), (0, c), (0, k)] h Q = if h 12 c = k ∨ (k = 1 ∧ h 12 c = 2) then Q (if k = 1 then w32 (Int.tdiv (w32 (c - 16)) 4) else if h 12 c = 2 ∧ h 15 c < 0 then h 13 c else h 15 c) h else Q (-3) (fnd h 3) := by
          intro Q
          rw [u_X9_mark, e_isName, b2_if, if_pos z1, if_neg (by omega), if_neg (by omega), e_w_isThere (EF_11 n), b2_if, if_pos ⟨z1, z2⟩, and_tl z1, b_X9_mark_61, b_X9_mark_66, u_X9_parentOf, e_markOf (EF_11 n) z1, e_refuse (by decide) (by decide)]
          by_cases v1 : k = 1
          · rw [if_pos v1, if_pos v1]
            by_cases v2 : h 12 c = 1
            · rw [if_pos v2, if_pos (by omega)]
            · rw [if_neg v2]
              by_cases v3 : h 12 c = 2
              · rw [if_pos v3, if_pos (by omega)]
              · rw [if_neg v3, if_neg (by omega), if_neg (by omega)]
          · rw [if_neg v1, if_neg v1]
            by_cases v2 : h 12 c = k
            · rw [if_pos v2, if_pos (Or.inl v2)]
            · rw [if_neg v2, if_neg (by omega)]
        by_cases z3 : h 12 c = k ∨ (k = 1 ∧ h 12 c = 2)
        · have z3' : h 59 c = k ∨ (k = 1 ∧ h 59 c = 2) := by rw [e.1]; exact z3
          refine ⟨_, h, h, fun Q => (x0 Q).trans (if_pos z3), fun Q => ((e_m_mark (h := h) (EF_50 n)).trans ((if_pos z0).trans ((if_pos z1).trans ((if_neg z2').trans (if_pos z3'))))).trans ?_, hC'⟩
          congr 1
          by_cases v1 : k = 1
          · rw [if_pos v1, if_pos v1]
          · rw [if_neg v1, if_neg v1, e.2.1]
            have hk : h 12 c = k := by omega
            by_cases v2 : k = 2
            · rcases m.1 (by omega) with ⟨q1, q2⟩ | ⟨q1, q2⟩
              · rw [if_neg (by omega), if_neg (by omega), q1]
              · rw [if_pos (by omega), if_pos (by omega)]
            · rw [if_neg (by omega), if_neg (by omega), m.2 (by omega)]
        · have z3' : ¬ (h 59 c = k ∨ (k = 1 ∧ h 59 c = 2)) := by rw [e.1]; exact z3
          exact ⟨-3, fnd h 3, mfnd (fnd h 3) 3, fun Q => (x0 Q).trans (if_neg z3), fun Q => (e_m_mark (h := fnd h 3) (EF_50 n)).trans ((if_pos z0).trans ((if_pos z1).trans ((if_neg z2').trans (if_neg z3')))), Cpl_fnd hC' (by decide) (by decide)⟩
    · refine ⟨-1, h, h, fun Q => ?_, fun Q => (e_m_mark (h := h) (EF_50 n)).trans (if_neg z0), hC'⟩
      rw [u_X9_mark, e_isName, b2_if, if_pos z1]
      by_cases v : k < 1
      · rw [if_pos v]
      · rw [if_neg v, if_pos (by omega)]
  · refine ⟨-1, h, h, fun Q => by rw [u_X9_mark, e_isName, b2_if, if_neg z1], fun Q => (e_m_mark (h := h) (EF_50 n)).trans ?_, hC'⟩
    by_cases z0 : 1 ≤ k ∧ k ≤ 4
    · rw [if_pos z0, if_neg z1]
    · rw [if_neg z0]
theorem e_m_sum {E : PvEnv} (hE : ∀ k, E 50 k = refT 50 k) {d : Nat} {Q : Int → Hp → Prop} {h : Hp} (ha : ∀ k : Int, 0 ≤ k → k < 336 → 0 ≤ h 58 k ∧ h 58 k ≤ 1000000) : wpS E (d + 1) mX10_sum [(2, 50)] h Q = Q (sm (fun c => if h 57 c = 0 then 0 else h 58 c) 336) h := by
  rw [u_X10_sum hE]
  have l := sum_loop (P := fun a k => Ws E d mX10_sum Q 4 [(2, 50), (1, a), (9, 0), (0, k)] [] h) (fun c => if h 57 c = 0 then 0 else h 58 c) 336 (lo := 0) (hi := 1000000) (by
    intro j hj
    have := ha j (by omega) (by omega)
    split <;> omega) (by
    intro k a hk h0 h1
    show Ws E d mX10_sum Q 4 [(2, 50), (1, a), (9, 0), (0, (k : Int))] [] h = _
    have := ha k (by omega) (by omega)
    rw [b_X10_sum_4 hE, if_pos (by omega), and_tl (by omega), and_tl (by omega), b_X10_sum_32 hE, b_X10_sum_32 hE, w32_n1 (by omega), w64_of (x := a + 0) (by omega) (by omega), w64_of (x := a + _) (by omega) (by omega)]
    by_cases z : h 57 (k : Int) = 0
    · rw [if_pos z, if_pos z]
    · rw [if_neg z, if_neg z])
  refine l.trans ?_
  show Ws E d mX10_sum Q 4 [(2, 50), (1, _), (9, 0), (0, ((336 : Nat) : Int))] [] h = _
  rw [b_X10_sum_4 hE, if_neg (by decide)]
theorem p_sum {n : Int} : Pr n mX9_sum mX10_sum [] := by
  intro h hC
  have hC' := hC
  obtain ⟨c1, c2, c3, c4, c5, c6, c7, c8, c9, c10, c11, c12, c13, c14, c15⟩ := hC
  refine ⟨sAm (h 12) (h 13), h, h, fun Q => by rw [u_X9_sum, e_sumOfAmounts (EF_11 n) (cw_A c7)], fun Q => ?_, hC'⟩
  have e : sm (fun c => if h 57 c = 0 then 0 else h 58 c) 336 = sAm (h 12) (h 13) := by
    unfold sAm
    refine sm_c 336 (fun j hj => ?_)
    have a := cw_T c7 (c := j) (by omega)
    by_cases z : h 12 j = -1
    · rw [if_pos z, if_pos (a.mpr z)]
    · rw [if_neg z, if_neg (fun q => z (a.mp q)), (cw_e c7 (by omega) z).2.1]
  rw [e_m_sum (EF_50 n) (cw_A' c7), e]
