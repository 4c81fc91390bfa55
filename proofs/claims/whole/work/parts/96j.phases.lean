/-! tick: the parting phase on both sides; what the reference leaves untouched -/
def FrG (h g : Hp) : Prop := (∀ a : Int, a ≠ 50 → a ≠ 63 → a ≠ 64 → a ≠ 68 → a ≠ 69 → a ≠ 70 → a ≠ 71 → a ≠ 72 → a ≠ 73 → g a = h a) ∧ ∀ i : Int, i ≠ 29 → i ≠ 32 → i ≠ 37 → g 50 i = h 50 i
theorem FrG_of {h g : Hp} {f : Int → Int} (F : FrF h g) : FrG h (hrow g 73 f) := by
  refine ⟨fun a h1 h2 h3 h4 h5 h6 h7 h8 h9 => ?_, fun i h1 h2 h3 => ?_⟩
  · rw [hrow_n _ _ h9]
    exact F.1 a h1 h2 h3 h4 h5 h6 h7 h8
  · rw [hrow_n _ _ (by decide)]
    exact F.2 i h1 h2 h3
theorem Cpl_FrG {h g : Hp} (hC : Cpl h) (F : FrG h g) : Cpl g := by
  have e : g = (hrow (hrow (hrow (hrow (hrow (hrow (hrow (hrow (hrow h 50 (g 50)) 63 (g 63)) 64 (g 64)) 68 (g 68)) 69 (g 69)) 70 (g 70)) 71 (g 71)) 72 (g 72)) 73 (g 73)) := by
    funext a
    by_cases z0 : a = 73
    · rw [z0, hrow_s]
    · rw [hrow_n _ _ z0]
      by_cases z1 : a = 72
      · rw [z1, hrow_s]
      · rw [hrow_n _ _ z1]
        by_cases z2 : a = 71
        · rw [z2, hrow_s]
        · rw [hrow_n _ _ z2]
          by_cases z3 : a = 70
          · rw [z3, hrow_s]
          · rw [hrow_n _ _ z3]
            by_cases z4 : a = 69
            · rw [z4, hrow_s]
            · rw [hrow_n _ _ z4]
              by_cases z5 : a = 68
              · rw [z5, hrow_s]
              · rw [hrow_n _ _ z5]
                by_cases z6 : a = 64
                · rw [z6, hrow_s]
                · rw [hrow_n _ _ z6]
                  by_cases z7 : a = 63
                  · rw [z7, hrow_s]
                  · rw [hrow_n _ _ z7]
                    by_cases z8 : a = 50
                    · rw [z8, hrow_s]
                    · rw [hrow_n _ _ z8]
                      exact F.1 a z8 z7 z6 z5 z4 z3 z2 z1 z0
  rw [e]
  unfold Cpl
  simp only [hrow_at, Int.reduceEq, if_true, if_false, reduceIte]
  rw [F.2 0 (by decide) (by decide) (by decide), F.2 2 (by decide) (by decide) (by decide), F.2 3 (by decide) (by decide) (by decide), F.2 4 (by decide) (by decide) (by decide), F.2 10 (by decide) (by decide) (by decide), F.2 11 (by decide) (by decide) (by decide), F.2 12 (by decide) (by decide) (by decide), F.2 13 (by decide) (by decide) (by decide), F.2 14 (by decide) (by decide) (by decide), F.2 28 (by decide) (by decide) (by decide), F.2 33 (by decide) (by decide) (by decide), F.2 43 (by decide) (by decide) (by decide), F.2 44 (by decide) (by decide) (by decide)]
  exact hC
theorem Cpl_RH {h : Hp} {k : Nat} (hC : Cpl h) : Cpl (RH h k) := by
  unfold Cpl RH
  simp only [hst_at, hrow_at, up_at, Int.reduceEq, if_true, if_false, reduceIte]
  exact hC
theorem e_part_all {E : PvEnv} {d d' : Nat} {h : Hp} {p t t' cells : Int} {F B D Rr V R K A G X O T A' K' G' X' S : Int → Int} (hE : ∀ k, E 11 k = refT 11 k) (hM : ∀ k, E 50 k = refT 50 k) (hg : GeoOK h) {mk : Int} (hp : (p = -1 ∧ mk = -9) ∨ (mk = p ∧ 1 ≤ p)) (w : CWld t t' K A G X O T A' K' G' X' S) (l : CLay (R 9) cells F B D Rr V K O) : ∃ (c : Int) (R1 K1 A1 G1 O1 T1 A2 K2 G2 X2 S1 : Int → Int), (0 ≤ c ∧ c ≤ 80) ∧ (∀ i : Int, i ≠ 9 → R1 i = R i) ∧ CWld t t' K1 A1 G1 X O1 T1 A2 K2 G2 X2 S1 ∧ CLay (R1 9) cells F B D Rr V K1 O1 ∧ (∀ Q, wpS E (d + 4) mX8_partAbove [(2, 11), (0, p)] (wv h R K A G O) Q = Q c (wv h R1 K1 A1 G1 O1)) ∧ ∀ (g : Hp) (ov : Int), g 50 13 = mk → (∀ c : Int, isN c → g 73 c = T c) → ∀ Q, Ws E (d' + 4) mX10_tick Q 123 [(2, 50), (1, ov), (9, 0), (0, 0), (0, 0), (0, 0), (9, 0)] [] (mv g T A' K' G' X' S) = Ws E (d' + 4) mX10_tick Q 191 [(2, 50), (1, ov), (9, 0), (0, c), (0, 0), (0, 79), (9, 0)] [] (mv g T1 A2 K2 G2 X2 S1) := by
  by_cases z : 0 < p
  · have cb := cnt_b (fun i => cand K A p i) 80
    have wc := CWld_cuts (p := p) w 80 (by omega)
    have e80 : ((80 : Nat) : Int) = 80 := rfl
    rw [e80] at wc
    refine ⟨cnt (fun i => cand K A p i) 80, _, _, _, _, _, _, _, _, _, _, _, cb, fun i hi => up_n _ _ hi, wc, ?_, fun Q => e_partAbove hE w.2.2.1 (cw_A w) hg z, fun g ov hmk h73 Q => e_m_above hM w h73 (by omega) (by omega)⟩
    rw [up_s]
    by_cases y : cnt (fun i => cand K A p i) 80 = 0
    · have n0 : ∀ i, sD K A p 0 80 i ≠ 1 := fun i q => by
        have q1 := sD_1.mp q
        have := cnt_ge (p := fun i => cand K A p i) (j := i.toNat) (by show cand K A p ((i.toNat : Nat) : Int); rw [show ((i.toNat : Nat) : Int) = i by omega]; exact q1.2) (N := 80) (by omega)
        omega
      rw [if_pos y, (d_0 n0 K).1, (d_0 n0 O).2.2.2.2.2.2]
      exact l
    · rw [if_neg y]
      exact CLay_cut (b := 1)
  · refine ⟨0, R, K, A, G, O, T, A', K', G', X', S, by omega, fun _ _ => rfl, w, l, fun Q => e_partAbove_no hE z, fun g ov hmk h73 Q => e_m_above_no hM ?_⟩
    rw [mv_off (a := 50) (by decide) (by decide) (by decide) (by decide) (by decide) (by decide)]
    omega
