/-! tick: both join what is below, step by step -/
abbrev ff4 (k : Int → Int) (c : Int) : Prop := k (16 + 4 * c) = 1 ∧ k (16 + 4 * c + 1) = 1 ∧ k (16 + 4 * c + 2) = 1 ∧ k (16 + 4 * c + 3) = 1
abbrev nn4 (k : Int → Int) (c : Int) : Prop := k (16 + 4 * c) ≠ -1 ∧ k (16 + 4 * c + 1) ≠ -1 ∧ k (16 + 4 * c + 2) ≠ -1 ∧ k (16 + 4 * c + 3) ≠ -1
section JBL
variable {E : PvEnv} {d d' : Nat} {h g : Hp} {j ov q t t' cells : Int} {F B D Rr V R K A G X O T A' K' G' X' S : Int → Int}
theorem m_tog (hM : ∀ k, E 50 k = refT 50 k) {Q : Int → Hp → Prop} {c : Int} (w : CWld t t' K A G X O T A' K' G' X' S) (hc : 0 ≤ c ∧ c < 80) : wpS E (d + 2) mX10_together [(2, 50), (0, c)] (mv g T A' K' G' X' S) Q = (if ff4 K c then Q (sum4 A c) (mv g T A' K' G' X' S) else if nn4 K c then Q (-10) (mv g T A' K' G' X' S) else Q (-9) (mv g T A' K' G' X' S)) := by
  rw [e_m_together hM hc (by rw [mv_r58]; exact cw_A' w), mv_r57, mv_r58, mv_r59]
  have t0 := cw_T w (c := 16 + 4 * c) (by omega)
  have t1 := cw_T w (c := 16 + 4 * c + 1) (by omega)
  have t2 := cw_T w (c := 16 + 4 * c + 2) (by omega)
  have t3 := cw_T w (c := 16 + 4 * c + 3) (by omega)
  by_cases z : nn4 K c
  · obtain ⟨z0, z1, z2, z3⟩ := z
    have e0 := cw_e w (c := 16 + 4 * c) (by omega) z0
    have e1 := cw_e w (c := 16 + 4 * c + 1) (by omega) z1
    have e2 := cw_e w (c := 16 + 4 * c + 2) (by omega) z2
    have e3 := cw_e w (c := 16 + 4 * c + 3) (by omega) z3
    rw [if_pos (show T (16 + 4 * c) ≠ 0 ∧ T (16 + 4 * c + 1) ≠ 0 ∧ T (16 + 4 * c + 2) ≠ 0 ∧ T (16 + 4 * c + 3) ≠ 0 from ⟨fun u => z0 (t0.mp u), fun u => z1 (t1.mp u), fun u => z2 (t2.mp u), fun u => z3 (t3.mp u)⟩), e0.1, e1.1, e2.1, e3.1]
    have es : sum4 A' c = sum4 A c := by
      unfold sum4
      rw [e0.2.1, e1.2.1, e2.2.1, e3.2.1]
    by_cases y : ff4 K c
    · rw [if_pos y, if_pos (show K (16 + 4 * c) = 1 ∧ K (16 + 4 * c + 1) = 1 ∧ K (16 + 4 * c + 2) = 1 ∧ K (16 + 4 * c + 3) = 1 from y), es]
    · rw [if_neg y, if_neg (show ¬ (K (16 + 4 * c) = 1 ∧ K (16 + 4 * c + 1) = 1 ∧ K (16 + 4 * c + 2) = 1 ∧ K (16 + 4 * c + 3) = 1) from y), if_pos ⟨z0, z1, z2, z3⟩]
  · have y : ¬ ff4 K c := fun u => z ⟨by have := u.1; omega, by have := u.2.1; omega, by have := u.2.2.1; omega, by have := u.2.2.2; omega⟩
    rw [if_neg (show ¬ (T (16 + 4 * c) ≠ 0 ∧ T (16 + 4 * c + 1) ≠ 0 ∧ T (16 + 4 * c + 2) ≠ 0 ∧ T (16 + 4 * c + 3) ≠ 0) from fun u => z ⟨fun v => u.1 (t0.mpr v), fun v => u.2.1 (t1.mpr v), fun v => u.2.2.1 (t2.mpr v), fun v => u.2.2.2 (t3.mpr v)⟩), if_neg y, if_neg z]
theorem e_joins (hE : ∀ k, E 11 k = refT 11 k) (hM : ∀ k, E 50 k = refT 50 k) (hg : GeoOK h) (hj : 0 < j) (hj2 : j ≤ 999999) (w : CWld t t' K A G X O T A' K' G' X' S) (l : CLay (R 9) cells F B D Rr V K O) : ∀ k : Nat, k ≤ 80 → ∃ (c : Int) (v : PV) (R1 K1 A1 G1 O1 T1 A2 K2 G2 X2 S1 : Int → Int), (0 ≤ c ∧ c ≤ k) ∧ (∀ i : Int, i ≠ 9 → R1 i = R i) ∧ CWld t t' K1 A1 G1 X O1 T1 A2 K2 G2 X2 S1 ∧ CLay (R1 9) cells F B D Rr V K1 O1 ∧ (∀ Q, Ws E (d + 5) mX8_joinBelow Q 5 [(2, 11), (0, j), (0, 0), (0, 79)] [] (wv h R K A G O) = Ws E (d + 5) mX8_joinBelow Q 5 [(2, 11), (0, j), (0, c), (0, 79 - (k : Int))] [] (wv h R1 K1 A1 G1 O1)) ∧ ∀ (g : Hp) (ov q : Int), g 50 14 = j → ∀ Q, Ws E (d' + 4) mX10_tick Q 191 [(2, 50), (1, ov), (9, 0), (0, q), (0, 0), (0, 79), (9, 0)] [] (mv g T A' K' G' X' S) = Ws E (d' + 4) mX10_tick Q 191 [(2, 50), (1, ov), (9, 0), (0, q), (0, c), (0, 79 - (k : Int)), v] [] (mv g T1 A2 K2 G2 X2 S1)
  | 0, _ => ⟨0, (9, 0), R, K, A, G, O, T, A', K', G', X', S, by omega, fun _ _ => rfl, w, l, fun _ => rfl, fun _ _ _ _ _ => rfl⟩
  | k + 1, hk => by
    obtain ⟨c, v, R1, K1, A1, G1, O1, T1, A2, K2, G2, X2, S1, i1, i2, i3, i4, i5, i6⟩ := e_joins hE hM hg hj hj2 w l k (by omega)
    have hc : 0 ≤ 79 - (k : Int) ∧ 79 - (k : Int) < 80 := by omega
    have s1 : ∀ Q, Ws E (d + 5) mX8_joinBelow Q 5 [(2, 11), (0, j), (0, c), (0, 79 - (k : Int))] [] (wv h R1 K1 A1 G1 O1) = if ff4 K1 (79 - (k : Int)) ∧ sum4 A1 (79 - (k : Int)) < j then Ws E (d + 5) mX8_joinBelow Q 5 [(2, 11), (0, j), (0, c + 1), (0, 79 - ((k + 1 : Nat) : Int))] [] (wv h (up R1 9 1) (joiK K1 (79 - (k : Int))) (up A1 (79 - (k : Int)) (sum4 A1 (79 - (k : Int)))) (up G1 (79 - (k : Int)) (G1 (16 + 4 * (79 - (k : Int))))) (pnt O1 (79 - (k : Int)))) else Ws E (d + 5) mX8_joinBelow Q 5 [(2, 11), (0, j), (0, c), (0, 79 - ((k + 1 : Nat) : Int))] [] (wv h R1 K1 A1 G1 O1) := by
      intro Q
      rw [b_X8_joinBelow_5 hE, if_neg (by omega), if_pos hj, e_hasFourFine hE hc, wv_r12, w32_of (x := 79 - (k : Int) + (-1)) (by omega) (by omega), show 79 - (k : Int) + (-1) = 79 - ((k + 1 : Nat) : Int) by omega]
      by_cases y : ff4 K1 (79 - (k : Int))
      · have y4 : nn4 K1 (79 - (k : Int)) := ⟨by have := y.1; omega, by have := y.2.1; omega, by have := y.2.2.1; omega, by have := y.2.2.2; omega⟩
        rw [if_pos (show K1 (16 + 4 * (79 - (k : Int))) = 1 ∧ K1 (16 + 4 * (79 - (k : Int)) + 1) = 1 ∧ K1 (16 + 4 * (79 - (k : Int)) + 2) = 1 ∧ K1 (16 + 4 * (79 - (k : Int)) + 3) = 1 from y), if_neg (by decide), e_sumOfFour hE hc (by rw [wv_r12]; exact y4) (by rw [wv_r13]; exact cw_A i3), wv_r13]
        by_cases y2 : sum4 A1 (79 - (k : Int)) < j
        · rw [if_pos y2, if_pos ⟨y, y2⟩, e_makeOne hE hc y4 (cw_A i3) hg, w32_of (x := c + 1) (by omega) (by omega)]
        · rw [if_neg y2, if_neg (fun u => y2 u.2)]
      · rw [if_neg (show ¬ (K1 (16 + 4 * (79 - (k : Int))) = 1 ∧ K1 (16 + 4 * (79 - (k : Int)) + 1) = 1 ∧ K1 (16 + 4 * (79 - (k : Int)) + 2) = 1 ∧ K1 (16 + 4 * (79 - (k : Int)) + 3) = 1) from y), if_pos rfl, if_neg (fun u => y u.1)]
    by_cases y : ff4 K1 (79 - (k : Int)) ∧ sum4 A1 (79 - (k : Int)) < j
    · have y1 := y.1
      have y4 : nn4 K1 (79 - (k : Int)) := ⟨by have := y1.1; omega, by have := y1.2.1; omega, by have := y1.2.2.1; omega, by have := y1.2.2.2; omega⟩
      have t0 := cw_T i3 (c := 16 + 4 * (79 - (k : Int))) (by omega)
      have t1 := cw_T i3 (c := 16 + 4 * (79 - (k : Int)) + 1) (by omega)
      have t2 := cw_T i3 (c := 16 + 4 * (79 - (k : Int)) + 2) (by omega)
      have t3 := cw_T i3 (c := 16 + 4 * (79 - (k : Int)) + 3) (by omega)
      have e0 := cw_e i3 (c := 16 + 4 * (79 - (k : Int))) (by omega) y4.1
      have e1 := cw_e i3 (c := 16 + 4 * (79 - (k : Int)) + 1) (by omega) y4.2.1
      have e2 := cw_e i3 (c := 16 + 4 * (79 - (k : Int)) + 2) (by omega) y4.2.2.1
      have e3 := cw_e i3 (c := 16 + 4 * (79 - (k : Int)) + 3) (by omega) y4.2.2.2
      refine ⟨c + 1, (0, sum4 A1 (79 - (k : Int))), _, _, _, _, _, _, _, _, _, _, _, by omega, fun i hi => (up_n _ _ hi).trans (i2 i hi), CWld_join i3 hc y4 (by have := y.2; omega), ?_, fun Q => (i5 Q).trans ((s1 Q).trans (if_pos y)), fun g ov q h14 Q => (i6 g ov q h14 Q).trans ?_⟩
      · rw [up_s]
        exact CLay_cut (b := 1)
      · have s0 : 0 ≤ sum4 A1 (79 - (k : Int)) := by
          have a0 := cw_A i3 (16 + 4 * (79 - (k : Int))) (by omega) (by omega)
          have a1 := cw_A i3 (16 + 4 * (79 - (k : Int)) + 1) (by omega) (by omega)
          have a2 := cw_A i3 (16 + 4 * (79 - (k : Int)) + 2) (by omega) (by omega)
          have a3 := cw_A i3 (16 + 4 * (79 - (k : Int)) + 3) (by omega) (by omega)
          unfold sum4
          omega
        rw [b_X10_tick_191 hM, if_neg (by omega), mv_off (a := 50) (by decide) (by decide) (by decide) (by decide) (by decide) (by decide), h14, if_neg (by omega), m_tog hM i3 hc, if_pos y1, if_neg (by omega), mv_off (a := 50) (by decide) (by decide) (by decide) (by decide) (by decide) (by decide), h14, if_pos y.2, e_m_doJoin hM hc (cw_A' i3) ⟨fun u => y4.1 (t0.mp u), fun u => y4.2.1 (t1.mp u), fun u => y4.2.2.1 (t2.mp u), fun u => y4.2.2.2 (t3.mp u)⟩ ⟨e0.1.trans y1.1, e1.1.trans y1.2.1, e2.1.trans y1.2.2.1, e3.1.trans y1.2.2.2⟩, w32_of (x := c + 1) (by omega) (by omega), w32_of (x := 79 - (k : Int) + (-1)) (by omega) (by omega), show 79 - (k : Int) + (-1) = 79 - ((k + 1 : Nat) : Int) by omega]
    · have s2 : ∃ v' : PV, ∀ (g : Hp) (ov q : Int), g 50 14 = j → ∀ Q, Ws E (d' + 4) mX10_tick Q 191 [(2, 50), (1, ov), (9, 0), (0, q), (0, c), (0, 79 - (k : Int)), v] [] (mv g T1 A2 K2 G2 X2 S1) = Ws E (d' + 4) mX10_tick Q 191 [(2, 50), (1, ov), (9, 0), (0, q), (0, c), (0, 79 - ((k + 1 : Nat) : Int)), v'] [] (mv g T1 A2 K2 G2 X2 S1) := by
        by_cases y1 : ff4 K1 (79 - (k : Int))
        · have y2 : ¬ sum4 A1 (79 - (k : Int)) < j := fun u => y ⟨y1, u⟩
          refine ⟨(0, sum4 A1 (79 - (k : Int))), fun g ov q h14 Q => ?_⟩
          rw [b_X10_tick_191 hM, if_neg (by omega), mv_off (a := 50) (by decide) (by decide) (by decide) (by decide) (by decide) (by decide), h14, if_neg (by omega), m_tog hM i3 hc, if_pos y1, if_neg (by omega), mv_off (a := 50) (by decide) (by decide) (by decide) (by decide) (by decide) (by decide), h14, if_neg y2, w32_of (x := 79 - (k : Int) + (-1)) (by omega) (by omega), show 79 - (k : Int) + (-1) = 79 - ((k + 1 : Nat) : Int) by omega]
        · by_cases y3 : nn4 K1 (79 - (k : Int))
          · refine ⟨(0, -10), fun g ov q h14 Q => ?_⟩
            rw [b_X10_tick_191 hM, if_neg (by omega), mv_off (a := 50) (by decide) (by decide) (by decide) (by decide) (by decide) (by decide), h14, if_neg (by omega), m_tog hM i3 hc, if_neg y1, if_pos y3, if_pos (by decide), w32_of (x := 79 - (k : Int) + (-1)) (by omega) (by omega), show 79 - (k : Int) + (-1) = 79 - ((k + 1 : Nat) : Int) by omega]
          · refine ⟨(0, -9), fun g ov q h14 Q => ?_⟩
            rw [b_X10_tick_191 hM, if_neg (by omega), mv_off (a := 50) (by decide) (by decide) (by decide) (by decide) (by decide) (by decide), h14, if_neg (by omega), m_tog hM i3 hc, if_neg y1, if_neg y3, if_pos (by decide), w32_of (x := 79 - (k : Int) + (-1)) (by omega) (by omega), show 79 - (k : Int) + (-1) = 79 - ((k + 1 : Nat) : Int) by omega]
      obtain ⟨v', s2⟩ := s2
      exact ⟨c, v', R1, K1, A1, G1, O1, T1, A2, K2, G2, X2, S1, by omega, i2, i3, i4, fun Q => (i5 Q).trans ((s1 Q).trans (if_neg y)), fun g ov q h14 Q => (i6 g ov q h14 Q).trans (s2 g ov q h14 Q)⟩
/-- the joining phase on both sides, whatever the mark -/
theorem e_join_all (hE : ∀ k, E 11 k = refT 11 k) (hM : ∀ k, E 50 k = refT 50 k) (hg : GeoOK h) {mk : Int} (hj : (j = -1 ∧ mk = -9) ∨ (mk = j ∧ 0 ≤ j ∧ j ≤ 999999)) (w : CWld t t' K A G X O T A' K' G' X' S) (l : CLay (R 9) cells F B D Rr V K O) : ∃ (c : Int) (R1 K1 A1 G1 O1 T1 A2 K2 G2 X2 S1 : Int → Int), (0 ≤ c ∧ c ≤ 80) ∧ (∀ i : Int, i ≠ 9 → R1 i = R i) ∧ CWld t t' K1 A1 G1 X O1 T1 A2 K2 G2 X2 S1 ∧ CLay (R1 9) cells F B D Rr V K1 O1 ∧ (∀ Q, wpS E (d + 6) mX8_joinBelow [(2, 11), (0, j)] (wv h R K A G O) Q = Q c (wv h R1 K1 A1 G1 O1)) ∧ ∀ (g : Hp) (ov q : Int), g 50 14 = mk → ∀ Q, Ws E (d' + 4) mX10_tick Q 191 [(2, 50), (1, ov), (9, 0), (0, q), (0, 0), (0, 79), (9, 0)] [] (mv g T A' K' G' X' S) = Q (w32 (q + w32 (100 * c))) (mv g T1 A2 K2 G2 X2 S1) := by
  by_cases z : 0 < j
  · obtain ⟨c, v, R1, K1, A1, G1, O1, T1, A2, K2, G2, X2, S1, i1, i2, i3, i4, i5, i6⟩ := e_joins (d := d) (d' := d') hE hM hg z (by omega) w l 80 (by omega)
    refine ⟨c, R1, K1, A1, G1, O1, T1, A2, K2, G2, X2, S1, i1, i2, i3, i4, fun Q => ?_, fun g ov q h14 Q => (i6 g ov q (by omega) Q).trans ?_⟩
    · rw [u_X8_joinBelow hE, i5 Q, b_X8_joinBelow_5 hE, if_pos (by omega)]
    · rw [b_X10_tick_191 hM, if_pos (by omega), b_X10_tick_240 hM]
  · refine ⟨0, R, K, A, G, O, T, A', K', G', X', S, by omega, fun _ _ => rfl, w, l, fun Q => ?_, fun g ov q hmk Q => ?_⟩
    · rw [u_X8_joinBelow hE, b_X8_joinBelow_5 hE, if_neg (by decide), if_neg z]
    · by_cases z2 : g 50 14 < 0
      · rw [b_X10_tick_191 hM, if_neg (by decide), mv_off (a := 50) (by decide) (by decide) (by decide) (by decide) (by decide) (by decide), if_pos z2, b_X10_tick_240 hM]
      · have h14 : g 50 14 = 0 := by omega
        have key : ∀ k : Nat, k ≤ 80 → ∃ v : PV, ∀ Q, Ws E (d' + 4) mX10_tick Q 191 [(2, 50), (1, ov), (9, 0), (0, q), (0, 0), (0, 79), (9, 0)] [] (mv g T A' K' G' X' S) = Ws E (d' + 4) mX10_tick Q 191 [(2, 50), (1, ov), (9, 0), (0, q), (0, 0), (0, 79 - (k : Int)), v] [] (mv g T A' K' G' X' S) := by
          intro k
          induction k with
          | zero => exact fun _ => ⟨(9, 0), fun _ => rfl⟩
          | succ k ih =>
            intro hk
            obtain ⟨v, ih⟩ := ih (by omega)
            have hc : 0 ≤ 79 - (k : Int) ∧ 79 - (k : Int) < 80 := by omega
            have s0 : 0 ≤ sum4 A (79 - (k : Int)) := by
              have a0 := cw_A w (16 + 4 * (79 - (k : Int))) (by omega) (by omega)
              have a1 := cw_A w (16 + 4 * (79 - (k : Int)) + 1) (by omega) (by omega)
              have a2 := cw_A w (16 + 4 * (79 - (k : Int)) + 2) (by omega) (by omega)
              have a3 := cw_A w (16 + 4 * (79 - (k : Int)) + 3) (by omega) (by omega)
              unfold sum4
              omega
            by_cases y1 : ff4 K (79 - (k : Int))
            · refine ⟨(0, sum4 A (79 - (k : Int))), fun Q => (ih Q).trans ?_⟩
              rw [b_X10_tick_191 hM, if_neg (by omega), mv_off (a := 50) (by decide) (by decide) (by decide) (by decide) (by decide) (by decide), h14, if_neg (by decide), m_tog hM w hc, if_pos y1, if_neg (by omega), mv_off (a := 50) (by decide) (by decide) (by decide) (by decide) (by decide) (by decide), h14, if_neg (by omega), w32_of (x := 79 - (k : Int) + (-1)) (by omega) (by omega), show 79 - (k : Int) + (-1) = 79 - ((k + 1 : Nat) : Int) by omega]
            · by_cases y3 : nn4 K (79 - (k : Int))
              · refine ⟨(0, -10), fun Q => (ih Q).trans ?_⟩
                rw [b_X10_tick_191 hM, if_neg (by omega), mv_off (a := 50) (by decide) (by decide) (by decide) (by decide) (by decide) (by decide), h14, if_neg (by decide), m_tog hM w hc, if_neg y1, if_pos y3, if_pos (by decide), w32_of (x := 79 - (k : Int) + (-1)) (by omega) (by omega), show 79 - (k : Int) + (-1) = 79 - ((k + 1 : Nat) : Int) by omega]
              · refine ⟨(0, -9), fun Q => (ih Q).trans ?_⟩
                rw [b_X10_tick_191 hM, if_neg (by omega), mv_off (a := 50) (by decide) (by decide) (by decide) (by decide) (by decide) (by decide), h14, if_neg (by decide), m_tog hM w hc, if_neg y1, if_neg y3, if_pos (by decide), w32_of (x := 79 - (k : Int) + (-1)) (by omega) (by omega), show 79 - (k : Int) + (-1) = 79 - ((k + 1 : Nat) : Int) by omega]
        obtain ⟨v, kk⟩ := key 80 (by omega)
        rw [kk Q, b_X10_tick_191 hM, if_pos (by omega), b_X10_tick_240 hM]
end JBL
