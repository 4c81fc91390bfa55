/-! cells: the pairs -/
theorem e_m_doJoin {E : PvEnv} (hE : ∀ k, E 50 k = refT 50 k) {d : Nat} {Q : Int → Hp → Prop} {h : Hp} {T A K G X S : Int → Int} {c : Int} (hc : 0 ≤ c ∧ c < 80) (ha : ∀ k : Int, 0 ≤ k → k < 336 → 0 ≤ A k ∧ A k ≤ 1000000) (ht : T (16 + 4 * c) ≠ 0 ∧ T (16 + 4 * c + 1) ≠ 0 ∧ T (16 + 4 * c + 2) ≠ 0 ∧ T (16 + 4 * c + 3) ≠ 0) (hf : fourF K c) : wpS E (d + 4) mX10_doJoin [(2, 50), (0, c)] (mv h T A K G X S) Q = Q 0 (mv h (up (fun j => if 16 + 4 * c ≤ j ∧ j < 16 + 4 * c + 4 then 0 else T j) c 1) (up A c (sum4 A c)) (up K c (if c < 16 then 0 else 1)) (up G c (G (16 + 4 * c))) (up X c (-9)) (pnt S c)) := by
  rw [u_X10_doJoin hE, e_m_child hc, e_m_together hE hc (by rw [mv_r58]; exact ha), mv_r57, mv_r58, mv_r59, if_pos ht, if_pos (show (K (16 + 4 * c) = 1 ∧ K (16 + 4 * c + 1) = 1 ∧ K (16 + 4 * c + 2) = 1 ∧ K (16 + 4 * c + 3) = 1) from hf)]
  have step : ∀ k : Nat, k < 4 → Ws E (d + 3) mX10_doJoin Q 14 [(2, 50), (0, c), (0, 16 + 4 * c), (0, sum4 A c), (0, (k : Int))] [] (mv h (fun j => if 16 + 4 * c ≤ j ∧ j < 16 + 4 * c + (k : Int) then 0 else T j) A K G X S) = Ws E (d + 3) mX10_doJoin Q 14 [(2, 50), (0, c), (0, 16 + 4 * c), (0, sum4 A c), (0, ((k + 1 : Nat) : Int))] [] (mv h (fun j => if 16 + 4 * c ≤ j ∧ j < 16 + 4 * c + ((k + 1 : Nat) : Int) then 0 else T j) A K G X S) := by
    intro k hk
    rw [b_X10_doJoin_14 hE, if_pos (by omega), w32_of (x := 16 + 4 * c + (k : Int)) (by omega) (by omega), isBit_0, and_tl ⟨trivial, by omega⟩, mv_s57, w32_n1 (by omega)]
    congr 2
    funext j
    rw [up_at]
    repeat' split
    all_goals first | rfl | (exfalso; omega)
  have l := loop_n (P := fun k => Ws E (d + 3) mX10_doJoin Q 14 [(2, 50), (0, c), (0, 16 + 4 * c), (0, sum4 A c), (0, (k : Int))] [] (mv h (fun j => if 16 + 4 * c ≤ j ∧ j < 16 + 4 * c + (k : Int) then 0 else T j) A K G X S)) 4 step
  have e0 : (fun j : Int => if 16 + 4 * c ≤ j ∧ j < 16 + 4 * c + ((0 : Nat) : Int) then 0 else T j) = T := by
    funext j
    exact if_neg (by omega)
  rw [e0] at l
  refine l.trans ?_
  rw [b_X10_doJoin_14 hE, if_neg (by decide), and_tl (by omega), mv_r60, e_m_come hE (by omega)]
  rfl
theorem pnt_c {f g : Int → Int} {c s : Int} (h : f s = g s) : pnt f c s = pnt g c s := by
  unfold pnt
  rw [h]
theorem cutO_c {f g : Int → Int} {c s : Int} (h : f s = g s) (k : Nat) : cutO f c k s = cutO g c k s := by
  induction k with
  | zero => exact h
  | succ k ih => exact pnt_c ih
theorem CWld_cut {t t' : Int} {K A G X O T A' K' G' X' S : Int → Int} {c : Int} (w : CWld t t' K A G X O T A' K' G' X' S) (hc : 0 ≤ c ∧ c < 80) (hk : K c = 0 ∨ K c = 1) : CWld t t' (up (cutK K c 4) c (-1)) (cutA A c 4) (cutG G c 4) X (cutO O c 4) (cutT (up T c 0) c 4) (cutA A' c 4) (cutK K' c 4) (cutG G' c 4) (cutX X' c 4) (cutO S c 4) := by
  obtain ⟨w1, w2, w3, w4⟩ := w
  refine ⟨w1, fun j j1 j2 => ?_, Prt_cut hc (by omega) w3, fun s s1 s2 => cutO_c (w4 s s1 s2) 4⟩
  obtain ⟨a, m⟩ := w2 j j1 j2
  obtain ⟨b, _⟩ := w2 c hc.1 (by omega)
  obtain ⟨b1, b2, b3, b4⟩ := b
  obtain ⟨e1, e2, e3⟩ := b4 (by omega)
  unfold rAm rMa at b3
  by_cases z1 : 16 + 4 * c ≤ j ∧ j < 16 + 4 * c + 4
  · have z1' : 16 + 4 * c ≤ j ∧ j < 16 + 4 * c + ((4 : Nat) : Int) := z1
    rw [up_n _ _ (by omega)]
    unfold cutK cutA cutG cutT cutX
    rw [if_pos z1', if_pos z1', if_pos z1', if_pos z1', if_pos z1', if_pos z1', if_pos z1', if_pos z1', e2, e3]
    have q : rAm (A c / 4 + if j - (16 + 4 * c) < A c % 4 then 1 else 0) := by
      unfold rAm
      split <;> omega
    refine ⟨⟨⟨by decide, by decide⟩, rfl, ⟨q, q, b3.2.2.1, b3.2.2.1⟩, fun _ => ⟨rfl, rfl, rfl⟩⟩, fun z => absurd z (by decide), fun z => absurd z (by decide)⟩
  · have z1' : ¬ (16 + 4 * c ≤ j ∧ j < 16 + 4 * c + ((4 : Nat) : Int)) := z1
    by_cases z2 : j = c
    · subst z2
      rw [up_s]
      unfold cutA cutG cutT
      rw [if_neg z1', if_neg z1', if_neg z1', if_neg z1', if_neg z1', up_s]
      refine ⟨⟨⟨by decide, by decide⟩, rfl, a.2.2.1, fun z => absurd rfl z⟩, fun z => absurd z (by decide), fun z => absurd z (by decide)⟩
    · rw [up_n _ _ z2]
      unfold cutK cutA cutG cutT cutX
      rw [if_neg z1', if_neg z1', if_neg z1', if_neg z1', if_neg z1', if_neg z1', if_neg z1', if_neg z1', up_n _ _ z2]
      exact ⟨a, m⟩
theorem CWld_join {t t' : Int} {K A G X O T A' K' G' X' S : Int → Int} {c : Int} (w : CWld t t' K A G X O T A' K' G' X' S) (hc : 0 ≤ c ∧ c < 80) (hf : four K c) (hs : sum4 A c ≤ 1000000) : CWld t t' (joiK K c) (up A c (sum4 A c)) (up G c (G (16 + 4 * c))) X (pnt O c) (up (fun j => if 16 + 4 * c ≤ j ∧ j < 16 + 4 * c + 4 then 0 else T j) c 1) (up A' c (sum4 A' c)) (up K' c (if c < 16 then 0 else 1)) (up G' c (G' (16 + 4 * c))) (up X' c (-9)) (pnt S c) := by
  obtain ⟨w1, w2, w3, w4⟩ := w
  refine ⟨w1, fun j j1 j2 => ?_, Prt_join hc hf w3, fun s s1 s2 => pnt_c (w4 s s1 s2)⟩
  obtain ⟨a, m⟩ := w2 j j1 j2
  obtain ⟨f0, f1, f2, f3⟩ := hf
  have g0 := (w2 (16 + 4 * c) (by omega) (by omega)).1
  have g1 := (w2 (16 + 4 * c + 1) (by omega) (by omega)).1
  have g2 := (w2 (16 + 4 * c + 2) (by omega) (by omega)).1
  have g3 := (w2 (16 + 4 * c + 3) (by omega) (by omega)).1
  have es : sum4 A' c = sum4 A c := by
    unfold sum4
    rw [(g0.2.2.2 f0).2.1, (g1.2.2.2 f1).2.1, (g2.2.2.2 f2).2.1, (g3.2.2.2 f3).2.1]
  have r0 := g0.2.2.1
  have r1 := g1.2.2.1
  have r2 := g2.2.2.1
  have r3 := g3.2.2.1
  unfold rAm rMa at r0 r1 r2 r3
  have hs0 : 0 ≤ sum4 A c := by unfold sum4; omega
  by_cases z2 : j = c
  · subst z2
    rw [up_s, up_s, up_s, up_s, up_s, up_s, up_s, es, (g0.2.2.2 f0).2.2]
    unfold joiK
    rw [if_neg (by omega), if_pos rfl]
    have q : rAm (sum4 A j) := ⟨hs0, hs⟩
    have k : rKi (if j < 16 then 0 else 1) ∧ (1 : Int) = (if (if j < 16 then (0 : Int) else 1) = -1 then 0 else 1) ∧ ((if j < 16 then (0 : Int) else 1) ≠ 2) ∧ ((if j < 16 then (0 : Int) else 1) ≠ 3) ∧ (if j < 16 then (0 : Int) else 1) ≠ 4 := by
      unfold rKi
      split <;> decide
    refine ⟨⟨k.1, k.2.1, ⟨q, q, r0.2.2.1, r0.2.2.1⟩, fun _ => ⟨rfl, rfl, rfl⟩⟩, fun z => absurd z k.2.2.1, fun z => ?_⟩
    rcases z with z | z
    · exact absurd z k.2.2.2.1
    · exact absurd z k.2.2.2.2
  · rw [up_n _ _ z2, up_n _ _ z2, up_n _ _ z2, up_n _ _ z2, up_n _ _ z2, up_n _ _ z2, up_n _ _ z2]
    unfold joiK
    by_cases z1 : 16 + 4 * c ≤ j ∧ j < 16 + 4 * c + 4
    · rw [if_pos z1, if_pos z1]
      exact ⟨⟨⟨by decide, by decide⟩, rfl, a.2.2.1, fun z => absurd rfl z⟩, fun z => absurd z (by decide), fun z => absurd z (by decide)⟩
    · rw [if_neg z1, if_neg z1, if_neg z2]
      exact ⟨a, m⟩
theorem CLay_cut {b cells : Int} {F B D R V K O : Int → Int} : CLay 1 cells F B D R V K O := ⟨Or.inr rfl, fun h => absurd h (by decide)⟩
theorem e_m_askedCell {E : PvEnv} (hE : ∀ k, E 50 k = refT 50 k) {d : Nat} {Q : Int → Hp → Prop} {h : Hp} {c : Int} : wpS E (d + 3) mX10_askedCell [(2, 50), (0, c)] h Q = if 0 ≤ c ∧ c < 336 then (if h 57 c = 0 then Q (-3) (mfnd h 1) else Q 0 h) else Q (-1) h := by
  rw [u_X10_askedCell hE, e_m_isName, b2_if]
  by_cases z : 0 ≤ c ∧ c < 336
  · rw [if_pos z, if_pos (by omega), and_tl z, e_meets hE (by decide) (by decide)]
  · rw [if_neg z, if_neg (by omega)]
theorem cw_T {t t' : Int} {K A G X O T A' K' G' X' S : Int → Int} {c : Int} (w : CWld t t' K A G X O T A' K' G' X' S) (hc : 0 ≤ c ∧ c < 336) : (T c = 0) ↔ (K c = -1) := by
  have := (w.2.1 c hc.1 hc.2).1.2.1
  rw [this]
  split
  · simp; assumption
  · simp; assumption
theorem cw_e {t t' : Int} {K A G X O T A' K' G' X' S : Int → Int} {c : Int} (w : CWld t t' K A G X O T A' K' G' X' S) (hc : 0 ≤ c ∧ c < 336) (hk : K c ≠ -1) : K' c = K c ∧ A' c = A c ∧ G' c = G c := (w.2.1 c hc.1 hc.2).1.2.2.2 hk
theorem cw_A {t t' : Int} {K A G X O T A' K' G' X' S : Int → Int} (w : CWld t t' K A G X O T A' K' G' X' S) : ∀ k : Int, 0 ≤ k → k < 336 → 0 ≤ A k ∧ A k ≤ 1000000 := fun k a b => (w.2.1 k a b).1.2.2.1.1
theorem cw_A' {t t' : Int} {K A G X O T A' K' G' X' S : Int → Int} (w : CWld t t' K A G X O T A' K' G' X' S) : ∀ k : Int, 0 ≤ k → k < 336 → 0 ≤ A' k ∧ A' k ≤ 1000000 := fun k a b => (w.2.1 k a b).1.2.2.1.2.1
theorem e_m_part {E : PvEnv} (hE : ∀ k, E 50 k = refT 50 k) {d : Nat} {Q : Int → Hp → Prop} {h : Hp} {c : Int} (ha : ∀ k : Int, 0 ≤ k → k < 336 → 0 ≤ h 58 k ∧ h 58 k ≤ 1000000) : wpS E (d + 5) mX10_part [(2, 50), (0, c)] h Q = if 0 ≤ c ∧ c < 336 then (if h 57 c = 0 then Q (-3) (mfnd h 1) else if 1 < h 59 c ∨ 80 ≤ c then Q (-3) (mfnd h 3) else Q (16 + 4 * c) (mv h (cutT (up (h 57) c 0) c 4) (cutA (h 58) c 4) (cutK (h 59) c 4) (cutG (h 60) c 4) (cutX (h 61) c 4) (cutO (h 62) c 4))) else Q (-1) h := by
  rw [u_X10_part hE, e_m_askedCell hE]
  by_cases z1 : 0 ≤ c ∧ c < 336
  · rw [if_pos z1, if_pos z1]
    by_cases z2 : h 57 c = 0
    · rw [if_pos z2, if_pos z2, if_pos (by decide)]
    · rw [if_neg z2, if_neg z2, if_neg (by decide), and_tl z1, b_X10_part_30 hE, e_meets hE (by decide) (by decide), e_m_side]
      by_cases z3 : 1 < h 59 c
      · rw [if_pos z3, if_pos (Or.inl z3)]
      · rw [if_neg z3]
        by_cases z4 : 80 ≤ c
        · rw [if_pos (show gw c = 1 by unfold gw; rw [if_neg (by omega), if_neg (by omega)]), b_X10_part_30 hE, e_meets hE (by decide) (by decide), if_pos (Or.inr z4)]
        · have hw : ¬ gw c = 1 := by
            unfold gw
            split
            · decide
            · rw [if_pos (by omega)]; decide
          have e := e_m_doPart (Q := fun r3 h3 => wpS E (d + 4) mX10_child [(0, c)] h3 (fun r4 h4 => Q r4 h4)) hE (d := d) (h := h) (T := h 57) (A := h 58) (K := h 59) (G := h 60) (X := h 61) (S := h 62) (c := c) (by omega) (ha c z1.1 z1.2)
          rw [mv_id] at e
          rw [if_neg hw, e, e_m_child (by omega), if_neg (by omega)]
  · rw [if_neg z1, if_neg z1, if_pos (by decide)]

theorem p_part {n c : Int} : Pr n mX9_part mX10_part [(0, c)] := by
  intro h hC
  have hC' := hC
  obtain ⟨c1, c2, c3, c4, c5, c6, c7, c8, c9, c10, c11, c12, c13, c14, c15⟩ := hC
  have hA := cw_A' c7
  by_cases z1 : 0 ≤ c ∧ c < 336
  · by_cases z2 : h 12 c = -1
    · exact ⟨-3, fnd h 1, mfnd (fnd h 1) 1, fun Q => by rw [u_X9_part, e_isName, b2_if, if_pos z1, e_w_isThere (EF_11 n), b2_if, if_neg (by omega), e_refuse (by decide) (by decide)], fun Q => (e_m_part (h := fnd h 1) (EF_50 n) hA).trans ((if_pos z1).trans (if_pos ((cw_T c7 z1).mpr z2))), Cpl_fnd hC' (by decide) (by decide)⟩
    · have z2' : ¬ h 57 c = 0 := fun w => z2 ((cw_T c7 z1).mp w)
      have e := cw_e c7 z1 z2
      have k := (c7.2.1 c z1.1 z1.2).1.1
      unfold rKi at k
      by_cases z3 : (0 ≤ c ∧ c < 80) ∧ (h 12 c = 0 ∨ h 12 c = 1)
      · have z3' : ¬ (1 < h 59 c ∨ 80 ≤ c) := by omega
        have q : ∀ Q : Int → Hp → Prop, wpS (EF n) 8 mX8_cutInFour [(2, 11), (0, c)] h Q = Q 0 (wv h (up (h 11) 9 1) (up (cutK (h 12) c 4) c (-1)) (cutA (h 13) c 4) (cutG (h 14) c 4) (cutO (h 19) c 4)) := fun Q => by
          have := e_cutInFour (E := EF n) (EF_11 n) (d := 5) (Q := Q) (h := h) (R := h 11) (K := h 12) (A := h 13) (G := h 14) (O := h 19) z3.1 z3.2 (cw_A c7 c z1.1 z1.2) c6
          rw [wv_id] at this
          exact this
        refine ⟨16 + 4 * c, wv h (up (h 11) 9 1) (up (cutK (h 12) c 4) c (-1)) (cutA (h 13) c 4) (cutG (h 14) c 4) (cutO (h 19) c 4), _, fun Q => ?_, fun Q => (e_m_part (h := wv h (up (h 11) 9 1) (up (cutK (h 12) c 4) c (-1)) (cutA (h 13) c 4) (cutG (h 14) c 4) (cutO (h 19) c 4)) (EF_50 n) hA).trans ((if_pos z1).trans ((if_neg z2').trans (if_neg z3'))), ?_⟩
        · rw [u_X9_part, e_isName, b2_if, if_pos z1, e_w_isThere (EF_11 n), b2_if, if_pos ⟨z1, z2⟩, e_canPart (EF_11 n), b2_if, if_pos z3, q, e_firstChildOf (by omega)]
        · unfold Cpl wv mv
          simp only [hst_at, hrow_at, up_at, Int.reduceEq, if_true, if_false, reduceIte]
          exact ⟨c1, c2, c3, c4, c5, c6, CWld_cut c7 z3.1 z3.2, CLay_cut (b := 1), c9, c10, c11, c12, c13, c14, c15⟩
      · have z3' : 1 < h 59 c ∨ 80 ≤ c := by omega
        exact ⟨-3, fnd h 3, mfnd (fnd h 3) 3, fun Q => by rw [u_X9_part, e_isName, b2_if, if_pos z1, e_w_isThere (EF_11 n), b2_if, if_pos ⟨z1, z2⟩, e_canPart (EF_11 n), b2_if, if_neg z3, e_refuse (by decide) (by decide)], fun Q => (e_m_part (h := fnd h 3) (EF_50 n) hA).trans ((if_pos z1).trans ((if_neg z2').trans (if_pos z3'))), Cpl_fnd hC' (by decide) (by decide)⟩
  · exact ⟨-1, h, h, fun Q => by rw [u_X9_part, e_isName, b2_if, if_neg z1], fun Q => (e_m_part (h := h) (EF_50 n) hA).trans (if_neg z1), hC'⟩
