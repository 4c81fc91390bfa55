/-! tick: both -/
set_option maxHeartbeats 2000000 in
theorem p_tick {n : Int} : Pr n mX9_tick mX10_tick [] := by
  intro h0 hC0
  obtain ⟨h, r1, hC, h9, -⟩ := e_refresh (n := n) hC0
  have hC' := hC
  obtain ⟨c1, c2, c3, c4, c5, c6, c7, c8, c9, c10, c11, c12, c13, c14, c15⟩ := hC
  have P := c7.2.2.1
  have hl : LwOK (h 7 0) (h 7 1) := ⟨⟨c5.2.1.1, c5.2.1.2.1⟩, c5.2.1.2.2.1, c5.2.1.2.2.2.1⟩
  have hA : ∀ c : Int, isN c → 0 ≤ h 13 c ∧ h 13 c ≤ 1000000 := fun c hc => cw_A c7 c hc.1 hc.2
  have rk := e_reckonF (n := n) (d := 3) P c6 hl hA (fun c q0 q1 kc => (c8.2 h9).1 c q0 q1 kc)
  have hbit : ∀ c : Int, isN c → isBit (h 57 c) := fun c hc => by
    have := (c7.2.1 c hc.1 hc.2).1.2.1
    unfold isBit
    rw [this]
    split
    · exact Or.inl rfl
    · exact Or.inr rfl
  by_cases z : fst1 (bad (h 12) (h 13) (h 19) (h 7 0) (h 7 1) (h 7 2)) 336 0 = 336
  · have bb := fun (c : Int) (hc : isN c) => beh_b (o := h 7 2) P hl hA hc
    have nb : ∀ c : Int, isN c → ¬ bad (h 12) (h 13) (h 19) (h 7 0) (h 7 1) (h 7 2) c := fun c hc => fst1_all 336 0 (by rw [z]; rfl) c hc.1 (by have := hc.2; omega)
    have e28 : ∀ c : Int, isN c → rG h 336 c = gnC (h 12) (h 13) (h 19) (h 7 0) (h 7 1) (h 7 2) c := fun c hc => rG_at hc
    have e29 : ∀ c : Int, isN c → rC h 336 c = cmk (h 12) (h 13) (h 19) (h 7 0) (h 7 1) 336 c := fun c hc => rC_at hc
    have hgc : ∀ c : Int, isN c → (0 ≤ rG h 336 c ∧ rG h 336 c ≤ h 13 c) ∧ 0 ≤ rC h 336 c ∧ rC h 336 c ≤ 336000000 := fun c hc => by
      rw [e28 c hc, e29 c hc]
      exact ⟨(bb c hc).1, (bb c hc).2.1⟩
    obtain ⟨h3, s1, s2⟩ : ∃ h3 : Hp, (∀ Q, wpS (EF n) 8 mX1_settle [(2, 26), (2, 11), (2, 7)] (RH h 336) Q = Q 0 h3) ∧ h3 = vT (RH h 336) (stA (h 12) (h 13) (rG h 336) (rC h 336) 336) (stX (h 12) (h 13) (h 15) (rC h 336) 336) (up (up (up (up (RH h 336 26) 4 (h 7 0)) 5 (h 7 1)) 6 (stW (h 12) (rC h 336) 336 (w64 (h 26 6 + rRim h 336)))) 7 (stW (h 12) (rG h 336) 336 (h 26 7))) (stB (h 12) (h 13) (h 27) 336) := ⟨_, e_settle (n := n) (d := 4) (h := RH h 336) hA hgc, rfl⟩
    have x13 : h3 13 = stA (h 12) (h 13) (rG h 336) (rC h 336) 336 := by rw [s2]; rfl
    have x15 : h3 15 = stX (h 12) (h 13) (h 15) (rC h 336) 336 := by rw [s2]; rfl
    have x27 : h3 27 = stB (h 12) (h 13) (h 27) 336 := by rw [s2]; rfl
    have x264 : h3 26 4 = h 7 0 := by rw [s2]; rfl
    have x265 : h3 26 5 = h 7 1 := by rw [s2]; rfl
    have x266 : h3 26 6 = stW (h 12) (rC h 336) 336 (w64 (h 26 6 + rRim h 336)) := by rw [s2, vT_r26]; rfl
    have x267 : h3 26 7 = stW (h 12) (rG h 336) 336 (h 26 7) := by rw [s2, vT_r26, up_s]
    have xo : ∀ a : Int, a ≠ 13 → a ≠ 15 → a ≠ 26 → a ≠ 27 → a ≠ 28 → a ≠ 29 → h3 a = h a := fun a h1 h2 h3 h4 h5 h6 => by
      rw [s2, vT_off h1 h2 h3 h4, RH_r a h3 h5 h6]
    clear s2
    obtain ⟨h4, hh⟩ : ∃ h4 : Hp, h4 = hst h3 11 8 (w32 (h3 11 8 + 1)) := ⟨_, rfl⟩
    have y11 : h4 11 = up (h 11) 8 (w32 (h 11 8 + 1)) := by
      rw [hh, xo 11 (by decide) (by decide) (by decide) (by decide) (by decide) (by decide)]
      funext j
      simp only [hst_at, up_at, if_true, true_and]
      rw [xo 11 (by decide) (by decide) (by decide) (by decide) (by decide) (by decide)]
    have yo : ∀ a : Int, a ≠ 11 → h4 a = h3 a := fun a ha => by rw [hh, hst_off _ ha]
    have y12 : h4 12 = h 12 := (yo 12 (by decide)).trans (xo 12 (by decide) (by decide) (by decide) (by decide) (by decide) (by decide))
    have y14 : h4 14 = h 14 := (yo 14 (by decide)).trans (xo 14 (by decide) (by decide) (by decide) (by decide) (by decide) (by decide))
    have y19 : h4 19 = h 19 := (yo 19 (by decide)).trans (xo 19 (by decide) (by decide) (by decide) (by decide) (by decide) (by decide))
    have y7 : h4 7 = h 7 := (yo 7 (by decide)).trans (xo 7 (by decide) (by decide) (by decide) (by decide) (by decide) (by decide))
    have w4 : wv h4 (h4 11) (h 12) (h4 13) (h 14) (h 19) = h4 := by
      have e := wv_id (h := h4)
      rw [y12, y14, y19] at e
      exact e
    have hg4 : GeoOK h4 := by
      unfold GeoOK
      rw [(yo 16 (by decide)).trans (xo 16 (by decide) (by decide) (by decide) (by decide) (by decide) (by decide)), (yo 17 (by decide)).trans (xo 17 (by decide) (by decide) (by decide) (by decide) (by decide) (by decide)), (yo 18 (by decide)).trans (xo 18 (by decide) (by decide) (by decide) (by decide) (by decide) (by decide))]
      exact c6
    have W : CWld (w32 (h 11 8 + 1)) (w32 (h 11 8 + 1)) (h 12) (h4 13) (h 14) (h4 15) (h 19) (h 57) (mtA (h 57) (h 59) (h 58) (rG h 336) (rC h 336) 336) (h 59) (h 60) (mtX (h 57) (h 59) (h 58) (h 61) (rC h 336) 336) (h 62) := by
      rw [yo 13 (by decide), yo 15 (by decide), x13, x15]
      exact CWld_settle c7 (fun j hj => ⟨e28 j hj, rfl⟩) (fun j hj => ⟨e29 j hj, rfl⟩) hl nb
    have l4 : CLay (h4 11 9) (h 20 6) (h 21) (h 22) (h 23) (h 24) (h 25) (h 12) (h 19) := by
      rw [y11, up_n _ _ (by decide)]
      exact c8
    obtain ⟨c, R1, K1, A1, G1, O1, T1, A2, K2, G2, X2, S1, i1, i2, i3, i4, i5, i6⟩ := e_part_all (d := 4) (d' := 4) (EF_11 n) (EF_50 n) hg4 (p := h 7 3) (mk := h 50 13) (by have := c5.2.2.1; omega) W l4
    obtain ⟨e, R2, K3, A3, G3, O3, T3, A4, K4, G4, X4, S3, j1, j2, j3, j4, j5, j6⟩ := e_join_all (d := 2) (d' := 4) (h := h4) (R := R1) (EF_11 n) (EF_50 n) hg4 (j := h 7 4) (mk := h 50 14) c5.2.2.2 i3 i4
    rw [w4] at i5
    obtain ⟨H, hH⟩ : ∃ H : Hp, H = wv h4 R2 K3 A3 G3 O3 := ⟨_, rfl⟩
    have clsrun : ∀ Q, wpS (EF n) 9 mX9_tick [(2, 0)] h0 Q = Q (w32 (c + w32 (100 * e))) H := fun Q => by
      rw [u_X9_tick, r1, rk, if_pos z, if_neg (by decide), s1, ← hh, y7, i5, wv_off (a := 7) (by decide) (by decide) (by decide) (by decide) (by decide), y7, j5, hH]
    have Ho : ∀ a : Int, a ≠ 11 → a ≠ 12 → a ≠ 13 → a ≠ 14 → a ≠ 19 → a ≠ 15 → a ≠ 26 → a ≠ 27 → a ≠ 28 → a ≠ 29 → H a = h a := fun a h1 h2 h3 h4 h5 h6 h7 h8 h9 h10 => by
      rw [hH, wv_off h1 h2 h3 h4 h5, yo a h1, xo a h3 h6 h7 h8 h9 h10]
    have H5 : ∀ a : Int, 50 ≤ a → H a = h a := fun a ha => Ho a (by omega) (by omega) (by omega) (by omega) (by omega) (by omega) (by omega) (by omega) (by omega) (by omega)
    have M := MF_of hC' (g := H) (H5 62 (by decide)) (H5 57 (by decide)) (H5 59 (by decide)) (H5 58 (by decide)) (H5 50 (by decide))
    obtain ⟨g, I, eM⟩ := e_m_setFlows (d := 3) (EF_50 n) P M hl hA
    obtain ⟨v, ek⟩ := (e_m_check (d := 8) (ov := rmk (h 12) (h 13) (h 7 0) (h 7 1) (h 7 2) 336) (EF_50 n) P M hl hA I (by rw [H5 57 (by decide)]; exact hbit)).1 z
    obtain ⟨gg, hgg⟩ : ∃ gg : Hp, gg = hrow g 73 (pf (H 57) (g 73) ((336 : Nat) : Int)) := ⟨_, rfl⟩
    have Fr : FrG H gg := by rw [hgg]; exact FrG_of I.1
    have go : ∀ a : Int, a ≠ 73 → gg a = g a := fun a ha => by rw [hgg, hrow_n _ _ ha]
    have g73 : ∀ c : Int, isN c → gg 73 c = h 57 c := fun c hc => by
      rw [hgg, hrow_s, pf_in (by have := hc.2; have := hc.1; omega), H5 57 (by decide)]
    have g71 : ∀ c : Int, isN c → gg 71 c = rG h 336 c := fun c hc => by
      rw [go 71 (by decide), I.2.2.1 c hc, if_pos (by have := hc.2; omega), e28 c hc]
    have g72 : ∀ c : Int, isN c → gg 72 c = rC h 336 c := fun c hc => by
      rw [go 72 (by decide), I.2.2.2.1 c hc, e29 c hc]
    have gH : ∀ a : Int, (50 < a ∧ a < 63) ∨ (64 < a ∧ a < 68) ∨ 73 < a → gg a = h a := fun a ha => (Fr.1 a (by omega) (by omega) (by omega) (by omega) (by omega) (by omega) (by omega) (by omega) (by omega)).trans (H5 a (by omega))
    have g37 : 0 ≤ gg 50 37 ∧ gg 50 37 ≤ 1024 := by
      rw [go 50 (by decide)]
      have := I.2.1
      have := links_960 P
      omega
    obtain ⟨g1, ⟨t1, t2, t3⟩, et⟩ := e_m_takeFlows (d := 7) (EF_50 n) (g := gg) g37 (fun c hc => by
      rw [g71 c hc, g72 c hc, gH 58 (by decide)]
      have q1 := hgc c hc
      have q2 := hA c hc
      have q3 := cw_A' c7 c hc.1 hc.2
      omega)
    rw [gH 57 (by decide), gH 59 (by decide), gH 58 (by decide), gH 61 (by decide), (mt_c (T := h 57) (K := h 59) (A := h 58) (X := h 61) (fun j hj => ⟨g71 j hj, g72 j hj⟩)).1, (mt_c (T := h 57) (K := h 59) (A := h 58) (X := h 61) (fun j hj => ⟨g71 j hj, g72 j hj⟩)).2] at et
    have d6 : ∀ a : Int, (a < 50 ∨ (50 < a ∧ a < 57) ∨ 73 < a) → gg a = H a := fun a ha => Fr.1 a (by omega) (by omega) (by omega) (by omega) (by omega) (by omega) (by omega) (by omega) (by omega)
    have g50 : ∀ i : Int, i ≠ 29 → i ≠ 32 → i ≠ 37 → gg 50 i = h 50 i := fun i h1 h2 h3 => by rw [Fr.2 i h1 h2 h3, H5 50 (by decide)]
    obtain ⟨m2, hm2⟩ : ∃ m2 : Hp, m2 = vU g1 (up (up (g1 50) 43 (mtW (h 57) (h 59) (gg 72) 336 (gg 50 43))) 44 (mtW (h 57) (h 59) (gg 71) 336 (gg 50 44))) (mtA (h 57) (h 59) (h 58) (rG h 336) (rC h 336) 336) (mtX (h 57) (h 59) (h 58) (h 61) (rC h 336) 336) := ⟨_, rfl⟩
    rw [← hm2] at et
    obtain ⟨m3, hm3⟩ : ∃ m3 : Hp, m3 = hst (hst m2 50 43 (w64 (m2 50 43 + rmk (h 12) (h 13) (h 7 0) (h 7 1) (h 7 2) 336))) 50 28 (w32 ((hst m2 50 43 (w64 (m2 50 43 + rmk (h 12) (h 13) (h 7 0) (h 7 1) (h 7 2) 336))) 50 28 + 1)) := ⟨_, rfl⟩
    have n50 : m2 50 = up (up (up (gg 50) 33 (gg 50 37)) 43 (mtW (h 57) (h 59) (gg 72) 336 (gg 50 43))) 44 (mtW (h 57) (h 59) (gg 71) 336 (gg 50 44)) := by rw [hm2, vU_r50, t2]
    have n43 : m2 50 43 = mtW (h 57) (h 59) (gg 72) 336 (gg 50 43) := by rw [n50, up_n _ _ (by decide), up_s]
    have n28 : m2 50 28 = gg 50 28 := by rw [n50, up_n _ _ (by decide), up_n _ _ (by decide), up_n _ _ (by decide)]
    have mo : ∀ a : Int, a ≠ 50 → m3 a = m2 a := fun a ha => by rw [hm3, hst_off _ ha, hst_off _ ha]
    have m3o : ∀ a : Int, a ≠ 50 → a ≠ 58 → a ≠ 61 → a ≠ 65 → a ≠ 66 → a ≠ 67 → m3 a = gg a := fun a h1 h2 h3 h4 h5 h6 => by
      rw [mo a h1, hm2, vU_off h1 h2 h3, t1 a h4 h5 h6 h1]
    have p50 : m3 50 = up (up (m2 50) 43 (w64 (m2 50 43 + rmk (h 12) (h 13) (h 7 0) (h 7 1) (h 7 2) 336))) 28 (w32 (m2 50 28 + 1)) := by
      rw [hm3, hst_row, hrow_s, hst_row, hrow_s, up_n _ _ (show (28 : Int) ≠ 43 by decide)]
    have m58 : m3 58 = mtA (h 57) (h 59) (h 58) (rG h 336) (rC h 336) 336 := by rw [mo 58 (by decide), hm2, vU_r58]
    have m61 : m3 61 = mtX (h 57) (h 59) (h 58) (h 61) (rC h 336) 336 := by rw [mo 61 (by decide), hm2, vU_r61]
    have m57 : m3 57 = h 57 := (m3o 57 (by decide) (by decide) (by decide) (by decide) (by decide) (by decide)).trans (gH 57 (by decide))
    have m59 : m3 59 = h 59 := (m3o 59 (by decide) (by decide) (by decide) (by decide) (by decide) (by decide)).trans (gH 59 (by decide))
    have m60 : m3 60 = h 60 := (m3o 60 (by decide) (by decide) (by decide) (by decide) (by decide) (by decide)).trans (gH 60 (by decide))
    have m62 : m3 62 = h 62 := (m3o 62 (by decide) (by decide) (by decide) (by decide) (by decide) (by decide)).trans (gH 62 (by decide))
    have mvid : mv m3 (h 57) (mtA (h 57) (h 59) (h 58) (rG h 336) (rC h 336) 336) (h 59) (h 60) (mtX (h 57) (h 59) (h 58) (h 61) (rC h 336) 336) (h 62) = m3 := by
      have q := mv_id (h := m3)
      rw [m57, m58, m59, m60, m61, m62] at q
      exact q
    have q50 : ∀ i : Int, i ≠ 28 → i ≠ 29 → i ≠ 32 → i ≠ 33 → i ≠ 37 → i ≠ 43 → i ≠ 44 → m3 50 i = h 50 i := fun i h1 h2 h3 h4 h5 h6 h7 => by
      rw [p50, up_n _ _ h1, up_n _ _ h6, n50, up_n _ _ h7, up_n _ _ h6, up_n _ _ h4, g50 i h2 h3 h5]
    have h73 : ∀ c : Int, isN c → m3 73 c = h 57 c := fun c hc => by
      rw [m3o 73 (by decide) (by decide) (by decide) (by decide) (by decide) (by decide), g73 c hc]
    have i7 := i6 m3 (rmk (h 12) (h 13) (h 7 0) (h 7 1) (h 7 2) 336) (q50 13 (by decide) (by decide) (by decide) (by decide) (by decide) (by decide) (by decide)) h73
    rw [mvid] at i7
    have j7 := j6 m3 (rmk (h 12) (h 13) (h 7 0) (h 7 1) (h 7 2) 336) c (q50 14 (by decide) (by decide) (by decide) (by decide) (by decide) (by decide) (by decide))
    obtain ⟨FF, hFF⟩ : ∃ FF : Hp, FF = mv m3 T3 A4 K4 G4 X4 S3 := ⟨_, rfl⟩
    have FM : ∀ a : Int, a ≠ 57 → a ≠ 58 → a ≠ 59 → a ≠ 60 → a ≠ 61 → a ≠ 62 → FF a = m3 a := fun a h1 h2 h3 h4 h5 h6 => by rw [hFF, mv_off h1 h2 h3 h4 h5 h6]
    have FH : ∀ a : Int, (a < 50 ∨ (50 < a ∧ a < 57) ∨ 73 < a) → FF a = H a := fun a ha => by
      rw [FM a (by omega) (by omega) (by omega) (by omega) (by omega) (by omega), m3o a (by omega) (by omega) (by omega) (by omega) (by omega) (by omega), d6 a ha]
    have F50 : FF 50 = m3 50 := FM 50 (by decide) (by decide) (by decide) (by decide) (by decide) (by decide)
    have f11 : FF 11 = R2 := by rw [FH 11 (by decide), hH, wv_r11]
    have f12 : FF 12 = K3 := by rw [FH 12 (by decide), hH, wv_r12]
    have f13 : FF 13 = A3 := by rw [FH 13 (by decide), hH, wv_r13]
    have f14 : FF 14 = G3 := by rw [FH 14 (by decide), hH, wv_r14]
    have f19 : FF 19 = O3 := by rw [FH 19 (by decide), hH, wv_r19]
    have f15 : FF 15 = h4 15 := by rw [FH 15 (by decide), hH, wv_off (a := 15) (by decide) (by decide) (by decide) (by decide) (by decide)]
    have f26 : FF 26 = h3 26 := by rw [FH 26 (by decide), hH, wv_off (a := 26) (by decide) (by decide) (by decide) (by decide) (by decide), yo 26 (by decide)]
    have f27 : FF 27 = h3 27 := by rw [FH 27 (by decide), hH, wv_off (a := 27) (by decide) (by decide) (by decide) (by decide) (by decide), yo 27 (by decide)]
    have f118 : R2 8 = w32 (h 11 8 + 1) := by rw [j2 8 (by decide), i2 8 (by decide), y11, up_s]
    have f28 : FF 50 28 = w32 (h 11 8 + 1) := by rw [F50, p50, up_s, n28, g50 28 (by decide) (by decide) (by decide), c7.1]
    have f33 : FF 50 33 = gg 50 37 := by rw [F50, p50, up_n _ _ (by decide), up_n _ _ (by decide), n50, up_n _ _ (by decide), up_n _ _ (by decide), up_s]
    have f43 : FF 50 43 = w64 (mtW (h 57) (h 59) (gg 72) 336 (h 50 43) + rmk (h 12) (h 13) (h 7 0) (h 7 1) (h 7 2) 336) := by rw [F50, p50, up_n _ _ (by decide), up_s, n43, g50 43 (by decide) (by decide) (by decide)]
    have f44 : FF 50 44 = mtW (h 57) (h 59) (gg 71) 336 (h 50 44) := by rw [F50, p50, up_n _ _ (by decide), up_n _ _ (by decide), n50, up_s, g50 44 (by decide) (by decide) (by decide)]
    have fg : ∀ a : Int, a = 65 ∨ a = 66 ∨ a = 67 → FF a = g1 a := fun a ha => by
      rw [FM a (by omega) (by omega) (by omega) (by omega) (by omega) (by omega), mo a (by omega), hm2, vU_off (by omega) (by omega) (by omega)]
    refine ⟨_, H, FF, clsrun, fun Q => ?_, Cpl_tick (t := 0) hC' (fun a ha => ?_) (fun i hi => ?_) ?_ ?_ ?_ ⟨?_, ?_⟩⟩
    · rw [u_X10_tick (EF_50 n), eM, ek, ← hgg, b_X10_tick_7 (EF_50 n), if_neg (by decide), et, ← hm3, i7, j7, hFF]
    · rw [FH a (by omega), Ho a (by omega) (by omega) (by omega) (by omega) (by omega) (by omega) (by omega) (by omega) (by omega) (by omega)]
    · rw [F50, q50 i (by omega) (by omega) (by omega) (by omega) (by omega) (by omega) (by omega)]
    · rw [f11, f118, f28, f12, f13, f14, f15, f19, hFF, mv_r57, mv_r58, mv_r59, mv_r60, mv_r61, mv_r62]
      exact j3
    · rw [f11, f12, f19]
      exact j4
    · rw [f26, x264, x265, f27, x27, f33, fg 65 (by decide), fg 66 (by decide), fg 67 (by decide)]
      refine CFlo_new c7 hl g37 (F := gg 68) (D := gg 69) (V := gg 70) (fun a b ha hb => ?_) t3
      rw [go 68 (by decide), go 69 (by decide), go 70 (by decide), go 50 (by decide)]
      exact I.2.2.2.2 a b ha hb
    · rw [f43, f26, x266, c10.1]
      exact (stW_left c7 (fun j hj => (g72 j hj).symm) (h 26 6) (rRim h 336) 336 (Nat.le_refl _)).symm
    · rw [f44, f26, x267, c10.2]
      exact (stW_mt c7 (fun j hj => (g71 j hj).symm) (h 26 7) 336 (Nat.le_refl _)).symm
  · have M := MF_of hC' (g := RH h 336) rfl rfl rfl rfl rfl
    obtain ⟨g, I, eM⟩ := e_m_setFlows (d := 3) (EF_50 n) P M hl hA
    obtain ⟨k, ek⟩ := (e_m_check (d := 8) (ov := rmk (h 12) (h 13) (h 7 0) (h 7 1) (h 7 2) 336) (EF_50 n) P M hl hA I hbit).2 z
    exact ⟨-4, RH h 336, _, fun Q => by rw [u_X9_tick, r1, rk, if_neg z, if_pos rfl], fun Q => by rw [u_X10_tick (EF_50 n), eM, ek], Cpl_FrG (Cpl_RH hC') (FrG_of I.1)⟩
