/-! machines, flips, what is told: the pairs -/
theorem cw_cells {t t' : Int} {K A G X O T A' K' G' X' S : Int → Int} {m : Int} (w : CWld t t' K A G X O T A' K' G' X' S) : cnt (fun c => T c ≠ 0 ∧ G' c = m) 336 = cnt (fun c => K c ≠ -1 ∧ G c = m) 336 := by
  refine cnt_c 336 (fun j hj => ?_)
  have a := cw_T w (c := j) (by omega)
  constructor
  · intro q
    have k : K j ≠ -1 := fun z => q.1 (a.mpr z)
    exact ⟨k, by rw [← (cw_e w (by omega) k).2.2]; exact q.2⟩
  · intro q
    exact ⟨fun z => q.1 (a.mp z), by rw [(cw_e w (by omega) q.1).2.2]; exact q.2⟩
theorem cw_work {t t' : Int} {K A G X O T A' K' G' X' S : Int → Int} {m : Int} (w : CWld t t' K A G X O T A' K' G' X' S) : cnt (fun c => (T c ≠ 0 ∧ G' c = m) ∧ K' c ≠ 4) 336 = cnt (fun c => (K c ≠ -1 ∧ G c = m) ∧ K c ≠ 4) 336 := by
  refine cnt_c 336 (fun j hj => ?_)
  have a := cw_T w (c := j) (by omega)
  constructor
  · intro q
    have k : K j ≠ -1 := fun z => q.1.1 (a.mpr z)
    have e := cw_e w (c := j) (by omega) k
    exact ⟨⟨k, by rw [← e.2.2]; exact q.1.2⟩, by rw [← e.1]; exact q.2⟩
  · intro q
    have e := cw_e w (c := j) (by omega) q.1.1
    exact ⟨⟨fun z => q.1.1 (a.mp z), by rw [e.2.2]; exact q.1.2⟩, by rw [e.1]; exact q.2⟩
theorem cw_wk {t t' : Int} {K A G X O T A' K' G' X' S : Int → Int} {C E W Z L W' : Int → Int} {m : Int} (w : CWld t t' K A G X O T A' K' G' X' S) (c : CCrw C E W Z L W') (hm : 0 ≤ m ∧ m < 6) : (if Z m = 1 then 2 else 1) * cnt (fun c => (T c ≠ 0 ∧ G' c = m) ∧ K' c ≠ 4) 336 = wk K G C m := by
  rw [cw_work w, (c m hm.1 hm.2).1]
  rfl
theorem p_work {n m : Int} : Pr n mX9_work mX10_work [(0, m)] := by
  intro h hC
  have hC' := hC
  obtain ⟨c1, c2, c3, c4, c5, c6, c7, c8, c9, c10, c11, c12, c13, c14, c15⟩ := hC
  by_cases z : 0 ≤ m ∧ m < 6
  · exact ⟨wk (h 12) (h 14) (h 31) m, h, h, fun Q => by rw [u_X9_work, e_isMachine, b2_if, if_pos z, e_workOf z], fun Q => by rw [u_X10_work (EF_50 n), e_m_isMachine, b2_if, if_pos (by omega), e_m_workOf (EF_50 n) z, cw_wk c7 c11 z], hC'⟩
  · exact ⟨-1, h, h, fun Q => by rw [u_X9_work, e_isMachine, b2_if, if_neg z], fun Q => by rw [u_X10_work (EF_50 n), e_m_isMachine, b2_if, if_neg (by omega)], hC'⟩
theorem p_machine {n m k : Int} : Pr n mX9_machine mX10_machine [(0, m), (0, k)] := by
  intro h hC
  have hC' := hC
  obtain ⟨c1, c2, c3, c4, c5, c6, c7, c8, c9, c10, c11, c12, c13, c14, c15⟩ := hC
  by_cases z : (0 ≤ m ∧ m < 6) ∧ 0 ≤ k ∧ k ≤ 4
  · by_cases z2 : k = 4 ∧ 0 < cnt (fun c => h 12 c ≠ -1 ∧ h 14 c = m) 336
    · refine ⟨-4, h, h, fun Q => ?_, fun Q => ?_, hC'⟩
      · rw [u_X9_machine, e_isMachine, b2_if, if_pos z.1, if_neg (by omega), if_neg (by omega), if_pos z2.1, e_cellsOf, if_pos z2.2]
      · rw [u_X10_machine (EF_50 n), e_m_isMachine, b2_if, if_pos (by omega), e_m_in, b2_if, if_pos (by omega), if_pos z2.1, e_m_cellsOf (EF_50 n), cw_cells c7, if_pos z2.2]
    · refine ⟨h 31 m, hst h 31 m k, hst (hst h 31 m k) 74 m k, fun Q => ?_, fun Q => ?_, ?_⟩
      · rw [u_X9_machine, e_isMachine, b2_if, if_pos z.1, if_neg (by omega), if_neg (by omega), e_cellsOf, b_X9_machine_41, and_tl z.1, and_tl z.1]
        by_cases w : k = 4
        · rw [if_pos w, if_neg (fun q => z2 ⟨w, q⟩)]
        · rw [if_neg w]
      · rw [u_X10_machine (EF_50 n), e_m_isMachine, b2_if, if_pos (by omega), e_m_in, b2_if, if_pos (by omega), e_m_cellsOf (EF_50 n), b_X10_machine_34 (EF_50 n), and_tl z.1, and_tl z.1]
        have e1 : (hst h 31 m k) 74 m = h 31 m := (c11 m z.1.1 z.1.2).1
        have e2 : cnt (fun c => (hst h 31 m k) 57 c ≠ 0 ∧ (hst h 31 m k) 60 c = m) 336 = cnt (fun c => h 12 c ≠ -1 ∧ h 14 c = m) 336 := cw_cells c7
        rw [e1, e2]
        by_cases w : k = 4
        · rw [if_pos w, if_neg (fun q => z2 ⟨w, q⟩)]
        · rw [if_neg w]
      · unfold Cpl
        simp only [hst_at, hrow_at, up_at, Int.reduceEq, if_true, if_false, reduceIte]
        refine ⟨c1, c2, c3, c4, c5, c6, c7, c8, c9, c10, ?_, c12, c13, c14, c15⟩
        intro j j1 j2
        have a := c11 j j1 j2
        by_cases w : j = m
        · subst w
          rw [up_s, up_s]
          exact ⟨rfl, z.2, a.2.2⟩
        · rw [up_n _ _ w, up_n _ _ w]
          exact a
  · refine ⟨-1, h, h, fun Q => ?_, fun Q => ?_, hC'⟩
    · rw [u_X9_machine, e_isMachine, b2_if]
      by_cases w : 0 ≤ m ∧ m < 6
      · rw [if_pos w]
        by_cases v : k < 0
        · rw [if_pos v]
        · rw [if_neg v, if_pos (by omega)]
      · rw [if_neg w]
    · rw [u_X10_machine (EF_50 n), e_m_isMachine, b2_if]
      by_cases w : 0 ≤ m ∧ m < 6
      · rw [if_pos (by omega), e_m_in, b2_if, if_neg (by omega)]
      · rw [if_neg (by omega)]
theorem e_m_give {E : PvEnv} (hE : ∀ k, E 50 k = refT 50 k) {d : Nat} {Q : Int → Hp → Prop} {h : Hp} {c m : Int} : wpS E (d + 4) mX10_give [(2, 50), (0, c), (0, m)] h Q = if 0 ≤ m ∧ m < 6 then (if 0 ≤ c ∧ c < 336 then (if h 57 c = 0 then Q (-3) (mfnd h 1) else if h 74 m = 4 then Q (-4) h else Q (h 60 c) (hst h 60 c m)) else Q (-1) h) else Q (-1) h := by
  rw [u_X10_give hE, e_m_isMachine, b2_if, e_m_askedCell hE]
  by_cases z0 : 0 ≤ m ∧ m < 6
  · rw [if_pos z0, if_pos (by omega)]
    by_cases z1 : 0 ≤ c ∧ c < 336
    · rw [if_pos z1, if_pos z1]
      by_cases z2 : h 57 c = 0
      · rw [if_pos z2, if_pos z2, if_pos (by decide)]
      · rw [if_neg z2, if_neg z2, if_neg (by decide), and_tl z0, and_tl z1, and_tl z1]
    · rw [if_neg z1, if_neg z1, if_pos (by decide)]
  · rw [if_neg z0, if_neg (by omega)]
theorem p_give {n c m : Int} : Pr n mX9_give mX10_give [(0, c), (0, m)] := by
  intro h hC
  have hC' := hC
  obtain ⟨c1, c2, c3, c4, c5, c6, c7, c8, c9, c10, c11, c12, c13, c14, c15⟩ := hC
  by_cases z1 : 0 ≤ c ∧ c < 336
  · by_cases z0 : 0 ≤ m ∧ m < 6
    · by_cases z2 : h 12 c = -1
      · exact ⟨-3, fnd h 1, mfnd (fnd h 1) 1, fun Q => by rw [u_X9_give, e_isName, b2_if, if_pos z1, e_isMachine, b2_if, if_pos z0, e_w_isThere (EF_11 n), b2_if, if_neg (by omega), e_refuse (by decide) (by decide)], fun Q => (e_m_give (h := fnd h 1) (EF_50 n)).trans ((if_pos z0).trans ((if_pos z1).trans (if_pos ((cw_T c7 z1).mpr z2)))), Cpl_fnd hC' (by decide) (by decide)⟩
      · have z2' : ¬ h 57 c = 0 := fun w => z2 ((cw_T c7 z1).mp w)
        have e := cw_e c7 z1 z2
        have em := (c11 m z0.1 z0.2).1
        by_cases z3 : h 31 m = 4
        · exact ⟨-4, h, h, fun Q => by rw [u_X9_give, e_isName, b2_if, if_pos z1, e_isMachine, b2_if, if_pos z0, e_w_isThere (EF_11 n), b2_if, if_pos ⟨z1, z2⟩, e_isSpare, b2_if, if_pos ⟨z0, z3⟩], fun Q => (e_m_give (h := h) (EF_50 n)).trans ((if_pos z0).trans ((if_pos z1).trans ((if_neg z2').trans (if_pos (em.trans z3))))), hC'⟩
        · have z3' : ¬ h 74 m = 4 := by rw [em]; exact z3
          refine ⟨h 60 c, hst h 14 c m, hst (hst h 14 c m) 60 c m, fun Q => by rw [u_X9_give, e_isName, b2_if, if_pos z1, e_isMachine, b2_if, if_pos z0, e_w_isThere (EF_11 n), b2_if, if_pos ⟨z1, z2⟩, e_isSpare, b2_if, if_neg (fun q => z3 q.2), and_tl z1, and_tl z1, e.2.2], fun Q => (e_m_give (h := hst h 14 c m) (EF_50 n)).trans ((if_pos z0).trans ((if_pos z1).trans ((if_neg z2').trans (if_neg z3')))), ?_⟩
          unfold Cpl
          simp only [hst_at, hrow_at, up_at, Int.reduceEq, if_true, if_false, reduceIte]
          refine ⟨c1, c2, c3, c4, c5, c6, ?_, c8, c9, c10, c11, c12, c13, c14, c15⟩
          refine ⟨c7.1, fun j j1 j2 => ?_, c7.2.2⟩
          obtain ⟨⟨a1, a2, a3, a4⟩, q⟩ := c7.2.1 j j1 j2
          by_cases z : j = c
          · subst z
            rw [up_s, up_s]
            exact ⟨⟨a1, a2, ⟨a3.1, a3.2.1, z0, z0⟩, fun w => ⟨(a4 w).1, (a4 w).2.1, rfl⟩⟩, q⟩
          · rw [up_n _ _ z, up_n _ _ z]
            exact ⟨⟨a1, a2, a3, a4⟩, q⟩
    · exact ⟨-1, h, h, fun Q => by rw [u_X9_give, e_isName, b2_if, if_pos z1, e_isMachine, b2_if, if_neg z0], fun Q => (e_m_give (h := h) (EF_50 n)).trans (if_neg z0), hC'⟩
  · refine ⟨-1, h, h, fun Q => by rw [u_X9_give, e_isName, b2_if, if_neg z1], fun Q => (e_m_give (h := h) (EF_50 n)).trans ?_, hC'⟩
    by_cases z0 : 0 ≤ m ∧ m < 6
    · rw [if_pos z0, if_neg z1]
    · rw [if_neg z0]
theorem p_ran {n m w : Int} : Pr n mX9_ran mX10_ran [(0, m), (0, w)] := by
  intro h hC
  have hC' := hC
  obtain ⟨c1, c2, c3, c4, c5, c6, c7, c8, c9, c10, c11, c12, c13, c14, c15⟩ := hC
  by_cases z : (0 ≤ m ∧ m < 6) ∧ 0 ≤ w ∧ w ≤ 1
  · have a := c11 m z.1.1 z.1.2
    refine ⟨if w = 0 then h 32 m else h 33 m, h, h, fun Q => ?_, fun Q => ?_, hC'⟩
    · rw [u_X9_ran, e_isMachine, b2_if, if_pos z.1, if_neg (by omega), if_neg (by omega), and_tl z.1, and_tl z.1]
      split <;> rfl
    · rw [u_X10_ran (EF_50 n), e_m_isMachine, b2_if, if_pos (by omega), e_m_in, b2_if, if_pos (by omega), and_tl z.1, and_tl z.1, a.2.2.1, a.2.2.2]
      split <;> rfl
  · refine ⟨-1, h, h, fun Q => ?_, fun Q => ?_, hC'⟩
    · rw [u_X9_ran, e_isMachine, b2_if]
      by_cases q : 0 ≤ m ∧ m < 6
      · rw [if_pos q]
        by_cases v : w < 0
        · rw [if_pos v]
        · rw [if_neg v, if_pos (by omega)]
      · rw [if_neg q]
    · rw [u_X10_ran (EF_50 n), e_m_isMachine, b2_if]
      by_cases q : 0 ≤ m ∧ m < 6
      · rw [if_pos (by omega), e_m_in, b2_if, if_neg (by omega)]
      · rw [if_neg (by omega)]
theorem p_asked {n : Int} : Pr n mX9_asked mX10_asked [] := by
  intro h hC
  have hC' := hC
  obtain ⟨c1, c2, c3, c4, c5, c6, c7, c8, c9, c10, c11, c12, c13, c14, c15⟩ := hC
  exact ⟨h 0 14, h, h, fun Q => by rw [u_X9_asked], fun Q => by rw [u_X10_asked (EF_50 n), c2], hC'⟩
theorem p_upper {n : Int} : Pr n mX9_upper mX10_upper [] := by
  intro h hC
  have hC' := hC
  obtain ⟨c1, c2, c3, c4, c5, c6, c7, c8, c9, c10, c11, c12, c13, c14, c15⟩ := hC
  exact ⟨h 48 0, h, h, fun Q => by rw [u_X9_upper], fun Q => by rw [u_X10_upper (EF_50 n), c15.1], hC'⟩
theorem p_lower {n : Int} : Pr n mX9_lower mX10_lower [] := by
  intro h hC
  have hC' := hC
  obtain ⟨c1, c2, c3, c4, c5, c6, c7, c8, c9, c10, c11, c12, c13, c14, c15⟩ := hC
  exact ⟨h 48 1, h, h, fun Q => by rw [u_X9_lower], fun Q => by rw [u_X10_lower (EF_50 n), c15.2], hC'⟩
theorem p_finding {n : Int} : Pr n mX9_finding mX10_finding [] := by
  intro h hC
  have hC' := hC
  obtain ⟨c1, c2, c3, c4, c5, c6, c7, c8, c9, c10, c11, c12, c13, c14, c15⟩ := hC
  exact ⟨h 0 13, h, h, fun Q => by rw [u_X9_finding], fun Q => by rw [u_X10_finding (EF_50 n), c1.1], hC'⟩
theorem p_findings {n f : Int} : Pr n mX9_findings mX10_findings [(0, f)] := by
  intro h hC
  have hC' := hC
  obtain ⟨c1, c2, c3, c4, c5, c6, c7, c8, c9, c10, c11, c12, c13, c14, c15⟩ := hC
  by_cases z : 1 ≤ f ∧ f ≤ 5
  · exact ⟨h 49 f, h, h, fun Q => by rw [u_X9_findings, if_neg (by omega), if_neg (by omega), and_tl (by omega)], fun Q => by rw [u_X10_findings (EF_50 n), e_m_in, b2_if, if_pos z, and_tl (by omega), c1.2 f z.1 z.2], hC'⟩
  · refine ⟨-1, h, h, fun Q => ?_, fun Q => by rw [u_X10_findings (EF_50 n), e_m_in, b2_if, if_neg z], hC'⟩
    rw [u_X9_findings]
    by_cases w : f < 1
    · rw [if_pos w]
    · rw [if_neg w, if_pos (by omega)]
theorem p_over {n f : Int} : Pr n mX9_over mX10_over [(0, f)] := by
  intro h hC
  have hC' := hC
  obtain ⟨c1, c2, c3, c4, c5, c6, c7, c8, c9, c10, c11, c12, c13, c14, c15⟩ := hC
  refine ⟨if f = 0 then h 26 6 else if f = 1 then h 26 7 else 0, h, h, fun Q => ?_, fun Q => ?_, hC'⟩
  · rw [u_X9_over]
    repeat' split
    all_goals rfl
  · rw [u_X10_over (EF_50 n), c10.1, c10.2]
    repeat' split
    all_goals rfl
