/-! share, most -/
theorem pwr_16 {m : Int} (hm : 1 ≤ m ∧ m ≤ 99) : ∀ k : Nat, k ≤ 3 → pwr (16 * m) k = pw16 m k
  | 0, _ => rfl
  | k + 1, hk => by
    show w64 (pwr (16 * m) k * (16 * m)) = pw16 m k * (16 * m)
    rw [pwr_16 hm k (by omega)]
    have pb := (pw16_k hm (k := k) (by omega))
    have b := mulb (x := pw16 m k) (y := 16 * m) (X := 3974344704) (Y := 1584) (by omega) (by omega)
    exact w64_of (by omega) (by omega)
theorem Cpl_InR {h g : Hp} {to : Int} {k : Nat} (hC : Cpl h) (I : InR h to k g) : Cpl g := by
  obtain ⟨c1, c2, c3, c4, c5, c6, c7, c8, c9, c10, c11, c12, c13, c14, c15⟩ := hC
  have e : g = hrow (hrow (hrow h 45 (g 45)) 46 (g 46)) 47 (g 47) := by
    funext a
    by_cases z1 : a = 47
    · rw [z1, hrow_s]
    · rw [hrow_n _ _ z1]
      by_cases z2 : a = 46
      · rw [z2, hrow_s]
      · rw [hrow_n _ _ z2]
        by_cases z3 : a = 45
        · rw [z3, hrow_s]
        · rw [hrow_n _ _ z3]
          exact I.1 a z3 z2 z1
  rw [e]
  unfold Cpl
  simp only [hrow_at, Int.reduceEq, if_true, if_false, reduceIte]
  exact ⟨c1, c2, c3, c4, c5, c6, c7, c8, c9, c10, c11, c12, c13, I.2.1, c15⟩
theorem Cpl_FrS {h g : Hp} (hC : Cpl h) (F : FrS h g) : Cpl g := by
  have e : g = hrow (hrow (hrow (hrow (hrow h 50 (g 50)) 63 (g 63)) 64 (g 64)) 87 (g 87)) 88 (g 88) := by
    funext a
    by_cases z1 : a = 88
    · rw [z1, hrow_s]
    · rw [hrow_n _ _ z1]
      by_cases z2 : a = 87
      · rw [z2, hrow_s]
      · rw [hrow_n _ _ z2]
        by_cases z3 : a = 64
        · rw [z3, hrow_s]
        · rw [hrow_n _ _ z3]
          by_cases z4 : a = 63
          · rw [z4, hrow_s]
          · rw [hrow_n _ _ z4]
            by_cases z5 : a = 50
            · rw [z5, hrow_s]
            · rw [hrow_n _ _ z5]
              exact F.1 a z5 z4 z3 z2 z1
  rw [e]
  unfold Cpl
  simp only [hrow_at, Int.reduceEq, if_true, if_false, reduceIte]
  rw [F.2 0 (by decide) (by decide), F.2 2 (by decide) (by decide), F.2 3 (by decide) (by decide), F.2 4 (by decide) (by decide), F.2 10 (by decide) (by decide), F.2 11 (by decide) (by decide), F.2 12 (by decide) (by decide), F.2 13 (by decide) (by decide), F.2 14 (by decide) (by decide), F.2 28 (by decide) (by decide), F.2 33 (by decide) (by decide), F.2 43 (by decide) (by decide), F.2 44 (by decide) (by decide)]
  exact hC
theorem FrS_tl {h g : Hp} {u w : Int} (F : FrS h g) : FrS (tlM h u w) (tlM g u w) := by
  unfold tlM
  refine ⟨fun a h1 h2 h3 h4 h5 => ?_, fun i h1 h2 => ?_⟩
  · rw [hst_off _ h1, hst_off _ h1, hst_off _ h1, hst_off _ h1]
    exact F.1 a h1 h2 h3 h4 h5
  · by_cases z : i = 4
    · rw [z, hst_s, hst_s]
    · rw [hst_o _ _ _ z, hst_o _ _ _ z]
      by_cases y : i = 3
      · rw [y, hst_s, hst_s]
      · rw [hst_o _ _ _ y, hst_o _ _ _ y]
        exact F.2 i h1 h2
/-- both reckon the same shares -/
theorem both_shares {n : Int} {h : Hp} {to t : Int} (hC : Cpl h) (h9 : h 11 9 = 0) (ht : 0 ≤ t ∧ t ≤ 3) : ∃ g : Hp, (∀ Q, wpS (EF n) 8 mX6_reckon [(2, 45), (2, 11), (2, 20), (2, 7), (0, to), (0, t)] h Q = Q 0 g) ∧ InR h to t.toNat g ∧ Cpl g ∧ (∀ c : Int, isN c → 0 ≤ g (g 45 0) c) ∧ (∀ c : Int, isN c → fOK (shr (h 12) (h 19) (h 7 0) (h 7 1) (h 7 2) to t.toNat c) (pw16 (h 7 1) t.toNat)) ∧ ∀ u w : Int, ∃ g2 : Hp, (FrS (tlX g u w) g2 ∧ ∀ c : Int, isN c → g2 87 c = shr (h 12) (h 19) (h 7 0) (h 7 1) (h 7 2) to t.toNat c) ∧ ∀ Q, wpS (EF n) 8 mX10_setShares [(2, 50), (0, to), (0, t)] (tlX g u w) Q = Q 0 g2 := by
  have hC' := hC
  obtain ⟨c1, c2, c3, c4, c5, c6, c7, c8, c9, c10, c11, c12, c13, c14, c15⟩ := hC
  have P := c7.2.2.1
  have hL : LawC h := ⟨⟨c5.2.1.1, c5.2.1.2.1⟩, c5.2.1.2.2.1, c5.2.1.2.2.2.1⟩
  obtain ⟨g, I, e⟩ := e_reckon (n := n) (d := 3) (to := to) (t := t) P c6 hL (fun c q0 q1 kc => (c8.2 h9).1 c q0 q1 kc) c14 ht
  have sb := shr_b (K := h 12) (O := h 19) (n := h 7 0) (m := h 7 1) (o := h 7 2) (to := to) P hL.1 hL.2 t.toNat (by omega)
  have pb := pw16_k hL.2 (k := t.toNat) (by omega)
  refine ⟨g, e, I, Cpl_InR hC' I, fun c hc => by rw [I.2.2.2 c hc]; exact (sb c hc).1, fun c hc => ⟨(sb c hc).1, pb.1, by omega⟩, fun u w => ?_⟩
  have M : MS (h 12) (h 19) (h 7 0) (h 7 1) (h 7 2) (tlX g u w) := by
    have r : ∀ a : Int, a ≠ 45 → a ≠ 46 → a ≠ 47 → a ≠ 48 → tlX g u w a = h a := fun a h1 h2 h3 h4 => by
      unfold tlX
      rw [hst_off _ h4, hst_off _ h4]
      exact I.1 a h1 h2 h3
    refine ⟨fun s h0 h1 => ?_, fun c hc => ?_, fun c hc => (c7.2.1 c hc.1 hc.2).1.1, ?_, ?_, ?_⟩
    · rw [r 62 (by decide) (by decide) (by decide) (by decide)]; exact c7.2.2.2 s h0 h1
    · rw [r 57 (by decide) (by decide) (by decide) (by decide), r 59 (by decide) (by decide) (by decide) (by decide)]
      exact ⟨cw_T c7 hc, fun k => (cw_e c7 hc k).1⟩
    · rw [r 50 (by decide) (by decide) (by decide) (by decide)]; exact c5.1.1
    · rw [r 50 (by decide) (by decide) (by decide) (by decide)]; exact c5.1.2.1
    · rw [r 50 (by decide) (by decide) (by decide) (by decide)]; exact c5.1.2.2
  exact e_m_setShares (d := 3) (EF_50 n) P M hL.1 hL.2 ht
theorem p_share {n a b t : Int} : Pr n mX9_share mX10_share [(0, a), (0, b), (0, t)] := by
  intro h hC
  have hC0 := hC
  by_cases z1 : 0 ≤ a ∧ a < 336
  · by_cases z2 : 0 ≤ b ∧ b < 336
    · by_cases z3 : 0 ≤ t ∧ t ≤ 3
      · have c7 := hC.2.2.2.2.2.2.1
        by_cases z4 : h 12 a = -1 ∨ h 12 b = -1
        · refine ⟨-3, fnd h 1, mfnd (fnd h 1) 1, fun Q => ?_, fun Q => ?_, Cpl_fnd hC0 (by decide) (by decide)⟩
          · have r47 : Ws (EF n) 8 mX9_share Q 47 [(2, 0), (0, a), (0, b), (0, t)] [] h = Q (-3) (fnd h 1) := by
              rw [b_X9_share_47, e_refuse (by decide) (by decide)]
            rw [u_X9_share, e_isName, b2_if, if_pos z1, e_isName, b2_if, if_pos z2, if_neg (by omega), if_neg (by omega), e_w_isThere (EF_11 n), b2_if]
            by_cases w : h 12 a = -1
            · rw [if_neg (fun q => q.2 w), r47]
            · rw [if_pos (show (0 ≤ a ∧ a < 336) ∧ h 12 a ≠ -1 from ⟨z1, w⟩), e_w_isThere (EF_11 n), b2_if, if_neg (fun q => q.2 (z4.resolve_left w)), r47]
          · have r43 : Ws (EF n) 8 mX10_share Q 43 [(2, 50), (0, a), (0, b), (0, t)] [] (fnd h 1) = Q (-3) (mfnd (fnd h 1) 1) := by
              rw [b_X10_share_43 (EF_50 n), e_meets (EF_50 n) (by decide) (by decide)]
            have x57 : fnd h 1 57 = h 57 := rfl
            rw [u_X10_share (EF_50 n), e_m_isName, b2_if, if_pos (by omega), e_m_isName, b2_if, if_pos (by omega), e_m_in, b2_if, if_pos z3, and_tl z1, x57]
            by_cases w : h 12 a = -1
            · rw [if_pos ((cw_T c7 z1).mpr w), r43]
            · rw [if_neg (fun q => w ((cw_T c7 z1).mp q)), and_tl z2, if_pos ((cw_T c7 z2).mpr (z4.resolve_left w)), r43]
        · have ka : h 12 a ≠ -1 := fun q => z4 (Or.inl q)
          have kb : h 12 b ≠ -1 := fun q => z4 (Or.inr q)
          obtain ⟨h', r1, r2, r3, r4⟩ := e_refresh (n := n) hC
          have x12 : h' 12 = h 12 := r4 12 (by decide) (by decide)
          obtain ⟨g, s1, s2, s3, s4, s5, s6⟩ := both_shares (n := n) (to := b) (t := t) r2 r3 z3
          have c7' := r2.2.2.2.2.2.2.1
          have c5' := r2.2.2.2.2.1
          have ev : g (g 45 0) a = shr (h' 12) (h' 19) (h' 7 0) (h' 7 1) (h' 7 2) b t.toNat a := s2.2.2.2 a z1
          have e2 : g 45 2 = pw16 (h' 7 1) t.toNat := s2.2.2.1
          have ok := s5 a z1
          generalize hu : shr (h' 12) (h' 19) (h' 7 0) (h' 7 1) (h' 7 2) b t.toNat a = u at *
          have hm : 1 ≤ h' 7 1 ∧ h' 7 1 ≤ 99 := ⟨c5'.2.1.2.2.1, c5'.2.1.2.2.2.1⟩
          have p16 := pwr_16 hm t.toNat (by omega)
          generalize hw : pw16 (h' 7 1) t.toNat = w at *
          obtain ⟨g2, ⟨F, v2⟩, e3⟩ := s6 u w
          have f1 : tlX g u w 57 = h' 57 := by
            unfold tlX
            rw [hst_off _ (by decide), hst_off _ (by decide)]
            exact s2.1 57 (by decide) (by decide) (by decide)
          have f2 : g2 50 11 = h' 7 1 := by
            rw [F.2 11 (by decide) (by decide)]
            have : tlX g u w 50 = h' 50 := by
              unfold tlX
              rw [hst_off _ (by decide), hst_off _ (by decide)]
              exact s2.1 50 (by decide) (by decide) (by decide)
            rw [this]
            exact c5'.1.2.1
          refine ⟨1, tlX g u w, tlM g2 u w, fun Q => ?_, fun Q => ?_, Cpl_FrS (Cpl_tl s3) (FrS_tl F)⟩
          · rw [u_X9_share, e_isName, b2_if, if_pos z1, e_isName, b2_if, if_pos z2, if_neg (by omega), if_neg (by omega), e_w_isThere (EF_11 n), b2_if, if_pos (show (0 ≤ a ∧ a < 336) ∧ h 12 a ≠ -1 from ⟨z1, ka⟩), e_w_isThere (EF_11 n), b2_if, if_pos (show (0 ≤ b ∧ b < 336) ∧ h 12 b ≠ -1 from ⟨z2, kb⟩), r1, s1]
            rcases s2.2.1 with ⟨p1, -⟩ | ⟨p1, -⟩
            · rw [p1] at ev ⊢
              rw [b_X9_share_97, and_tl z1, ev, e2, e_tell ok]
            · rw [p1] at ev ⊢
              rw [b_X9_share_97_1, and_tl z1, ev, e2, e_tell ok]
          · rw [u_X10_share (EF_50 n), e_m_isName, b2_if, if_pos (by omega), e_m_isName, b2_if, if_pos (by omega), e_m_in, b2_if, if_pos z3, and_tl z1, f1, if_neg (fun q => ka (by rw [← x12]; exact (cw_T c7' z1).mp q)), and_tl z2, if_neg (fun q => kb (by rw [← x12]; exact (cw_T c7' z2).mp q)), e3, and_tl z1, e_m_power (by omega), f2, w64_of (x := 16 * h' 7 1) (by omega) (by omega), p16, v2 a z1, hu, e_m_tells (EF_50 n) ok]
      · refine ⟨-1, h, h, fun Q => ?_, fun Q => ?_, hC0⟩
        · rw [u_X9_share, e_isName, b2_if, if_pos z1, e_isName, b2_if, if_pos z2]
          by_cases w : t < 0
          · rw [if_pos w]
          · rw [if_neg w, if_pos (by omega)]
        · rw [u_X10_share (EF_50 n), e_m_isName, b2_if, if_pos (by omega), e_m_isName, b2_if, if_pos (by omega), e_m_in, b2_if, if_neg z3]
    · refine ⟨-1, h, h, fun Q => ?_, fun Q => ?_, hC0⟩
      · rw [u_X9_share, e_isName, b2_if, if_pos z1, e_isName, b2_if, if_neg z2]
      · rw [u_X10_share (EF_50 n), e_m_isName, b2_if, if_pos (by omega), e_m_isName, b2_if, if_neg (by omega)]
  · refine ⟨-1, h, h, fun Q => ?_, fun Q => ?_, hC0⟩
    · rw [u_X9_share, e_isName, b2_if, if_neg z1]
    · rw [u_X10_share (EF_50 n), e_m_isName, b2_if, if_neg (by omega)]
theorem p_most {n b t : Int} : Pr n mX9_most mX10_most [(0, b), (0, t)] := by
  intro h hC
  have hC0 := hC
  by_cases z3 : 0 ≤ t ∧ t ≤ 3
  · by_cases z2 : 0 ≤ b ∧ b < 336
    · have c7 := hC.2.2.2.2.2.2.1
      by_cases kb : h 12 b = -1
      · refine ⟨-3, fnd h 1, mfnd (fnd h 1) 1, fun Q => ?_, fun Q => ?_, Cpl_fnd hC0 (by decide) (by decide)⟩
        · rw [u_X9_most, e_isName, b2_if, if_pos z2, if_neg (by omega), if_neg (by omega), e_w_isThere (EF_11 n), b2_if, if_neg (fun q => q.2 kb), e_refuse (by decide) (by decide)]
        · rw [u_X10_most (EF_50 n), e_m_in, b2_if, if_pos z3, e_m_askedCell (EF_50 n), if_pos z2, if_pos (show fnd h 1 57 b = 0 from (cw_T c7 z2).mpr kb), if_pos (by decide)]
      · obtain ⟨h', r1, r2, r3, r4⟩ := e_refresh (n := n) hC
        have x12 : h' 12 = h 12 := r4 12 (by decide) (by decide)
        obtain ⟨g, s1, s2, s3, s4, s5, s6⟩ := both_shares (n := n) (to := b) (t := t) r2 r3 z3
        have c7' := r2.2.2.2.2.2.2.1
        have c5' := r2.2.2.2.2.1
        have g12 : g 12 = h' 12 := s2.1 12 (by decide) (by decide) (by decide)
        have kb' : g 12 b ≠ -1 := by rw [g12, x12]; exact kb
        have gr : ∀ Q, wpS (EF n) 8 mX6_greatest [(2, 45), (2, 11), (0, b)] g Q = Q (bt (fun c => g 12 c ≠ -1) (g (g 45 0)) 336) g := by
          intro Q
          rcases s2.2.1 with ⟨p1, -⟩ | ⟨p1, -⟩
          · rw [p1]
            exact e_greatest_46 (d := 5) p1 (fun c hc => by have := s4 c hc; rw [p1] at this; exact this) z2 kb' Q
          · rw [p1]
            exact e_greatest_47 (d := 5) p1 (fun c hc => by have := s4 c hc; rw [p1] at this; exact this) z2 kb' Q
        have bb := bt_b (fun c => g 12 c ≠ -1) (g (g 45 0)) 336
        have bnn : 0 ≤ bt (fun c => g 12 c ≠ -1) (g (g 45 0)) 336 ∧ bt (fun c => g 12 c ≠ -1) (g (g 45 0)) 336 < 336 := by
          rcases bb with e | e
          · exfalso
            have key : ∀ k : Nat, bt (fun c => g 12 c ≠ -1) (g (g 45 0)) k = -9 → ∀ c : Nat, c < k → ¬ g 12 c ≠ -1 := by
              intro k
              induction k with
              | zero => intro _ c hc; exact absurd hc (Nat.not_lt_zero _)
              | succ k ih =>
                intro e c hc
                rw [bt_s] at e
                by_cases y : g 12 (k : Int) ≠ -1 ∧ (bt (fun c => g 12 c ≠ -1) (g (g 45 0)) k < 0 ∨ g (g 45 0) (bt (fun c => g 12 c ≠ -1) (g (g 45 0)) k) < g (g 45 0) k)
                · rw [if_pos y] at e; omega
                · rw [if_neg y] at e
                  by_cases x : c = k
                  · subst x
                    intro u
                    exact y ⟨u, Or.inl (by omega)⟩
                  · exact ih e c (by omega)
            have := key 336 e b.toNat (by omega)
            rw [show ((b.toNat : Nat) : Int) = b by omega] at this
            exact this kb'
          · exact ⟨e.1.1, e.1.2⟩
        generalize hB : bt (fun c => g 12 c ≠ -1) (g (g 45 0)) 336 = B at *
        have ev : g (g 45 0) B = shr (h' 12) (h' 19) (h' 7 0) (h' 7 1) (h' 7 2) b t.toNat B := s2.2.2.2 B bnn
        have e2 : g 45 2 = pw16 (h' 7 1) t.toNat := s2.2.2.1
        have ok := s5 B bnn
        have hm : 1 ≤ h' 7 1 ∧ h' 7 1 ≤ 99 := ⟨c5'.2.1.2.2.1, c5'.2.1.2.2.2.1⟩
        have p16 := pwr_16 hm t.toNat (by omega)
        obtain ⟨g2, ⟨F, v2⟩, e3⟩ := s6 (shr (h' 12) (h' 19) (h' 7 0) (h' 7 1) (h' 7 2) b t.toNat B) (pw16 (h' 7 1) t.toNat)
        have tr : ∀ a : Int, a ≠ 45 → a ≠ 46 → a ≠ 47 → a ≠ 48 → ∀ u w, tlX g u w a = h' a := fun a h1 h2 h3 h4 u w => by
          unfold tlX
          rw [hst_off _ h4, hst_off _ h4]
          exact s2.1 a h1 h2 h3
        have f1 := tr 57 (by decide) (by decide) (by decide) (by decide) (shr (h' 12) (h' 19) (h' 7 0) (h' 7 1) (h' 7 2) b t.toNat B) (pw16 (h' 7 1) t.toNat)
        have f57 : g2 57 = h' 57 := by rw [F.1 57 (by decide) (by decide) (by decide) (by decide) (by decide)]; exact f1
        have f2 : g2 50 11 = h' 7 1 := by
          rw [F.2 11 (by decide) (by decide), tr 50 (by decide) (by decide) (by decide) (by decide)]
          exact c5'.1.2.1
        have bM : bt (fun c => g2 57 c ≠ 0) (g2 87) 336 = B := by
          rw [← hB]
          refine bt_c 336 (fun j hj => ?_) (fun j hj _ => ?_)
          · rw [f57, g12]
            exact not_congr (cw_T c7' (by omega))
          · rw [v2 j ⟨by omega, by omega⟩, s2.2.2.2 j ⟨by omega, by omega⟩]
        have ml : ∀ Q, Ws (EF n) 8 mX10_most Q 36 [(2, 50), (0, b), (0, t), (0, 0), (0, -9), (0, 0)] [] g2 = Ws (EF n) 8 mX10_most Q 36 [(2, 50), (0, b), (0, t), (0, 0), (0, B), (0, ((336 : Nat) : Int))] [] g2 := by
          intro Q
          have l := loop_n (P := fun k => Ws (EF n) 8 mX10_most Q 36 [(2, 50), (0, b), (0, t), (0, 0), (0, bt (fun c => g2 57 c ≠ 0) (g2 87) k), (0, (k : Int))] [] g2) 336 (by
            intro k hk
            have qb := bt_b (fun c => g2 57 c ≠ 0) (g2 87) k
            rw [b_X10_most_36 (EF_50 n), if_pos (by omega), and_tl (by omega), b_X10_most_77 (EF_50 n), b_X10_most_82 (EF_50 n), w32_n1 (by omega), bt_s]
            generalize bt (fun c => g2 57 c ≠ 0) (g2 87) k = x at *
            by_cases y1 : g2 57 (k : Int) = 0
            · rw [if_pos y1, if_neg (show ¬ (g2 57 (k : Int) ≠ 0 ∧ (x < 0 ∨ g2 87 x < g2 87 k)) from fun q => q.1 y1)]
            · rw [if_neg y1]
              by_cases y2 : x < 0
              · rw [if_pos y2, if_pos (show g2 57 (k : Int) ≠ 0 ∧ (x < 0 ∨ g2 87 x < g2 87 k) from ⟨y1, Or.inl y2⟩)]
              · rw [if_neg y2, and_tl (by omega), and_tl (by omega), lc_if]
                by_cases y3 : g2 87 x < g2 87 k
                · rw [if_pos y3, if_pos (show g2 57 (k : Int) ≠ 0 ∧ (x < 0 ∨ g2 87 x < g2 87 k) from ⟨y1, Or.inr y3⟩)]
                · rw [if_neg y3, if_neg (show ¬ (g2 57 (k : Int) ≠ 0 ∧ (x < 0 ∨ g2 87 x < g2 87 k)) from fun q => q.2.elim y2 y3)])
          rw [bM] at l
          exact l
        refine ⟨B, tlX g (shr (h' 12) (h' 19) (h' 7 0) (h' 7 1) (h' 7 2) b t.toNat B) (pw16 (h' 7 1) t.toNat), tlM g2 (shr (h' 12) (h' 19) (h' 7 0) (h' 7 1) (h' 7 2) b t.toNat B) (pw16 (h' 7 1) t.toNat), fun Q => ?_, fun Q => ?_, Cpl_FrS (Cpl_tl s3) (FrS_tl F)⟩
        · rw [u_X9_most, e_isName, b2_if, if_pos z2, if_neg (by omega), if_neg (by omega), e_w_isThere (EF_11 n), b2_if, if_pos (show (0 ≤ b ∧ b < 336) ∧ h 12 b ≠ -1 from ⟨z2, kb⟩), r1, s1, gr]
          rcases s2.2.1 with ⟨p1, -⟩ | ⟨p1, -⟩
          · rw [p1] at ev ⊢
            rw [b_X9_most_92, and_tl bnn, ev, e2, e_tell ok]
          · rw [p1] at ev ⊢
            rw [b_X9_most_92_1, and_tl bnn, ev, e2, e_tell ok]
        · rw [u_X10_most (EF_50 n), e_m_in, b2_if, if_pos z3, e_m_askedCell (EF_50 n), if_pos z2, f1, if_neg (fun q => kb (by rw [← x12]; exact (cw_T c7' z2).mp q)), if_neg (by decide), e3, ml, b_X10_most_36 (EF_50 n), if_neg (by decide), and_tl bnn, e_m_power (by omega), f2, w64_of (x := 16 * h' 7 1) (by omega) (by omega), p16, v2 B bnn, e_m_tells (EF_50 n) ok]
    · refine ⟨-1, h, h, fun Q => ?_, fun Q => ?_, hC0⟩
      · rw [u_X9_most, e_isName, b2_if, if_neg z2]
      · rw [u_X10_most (EF_50 n), e_m_in, b2_if, if_pos z3, e_m_askedCell (EF_50 n), if_neg z2, if_pos (by decide)]
  · refine ⟨-1, h, h, fun Q => ?_, fun Q => ?_, hC0⟩
    · rw [u_X9_most, e_isName, b2_if]
      by_cases w : 0 ≤ b ∧ b < 336
      · rw [if_pos w]
        by_cases v : t < 0
        · rw [if_pos v]
        · rw [if_neg v, if_pos (by omega)]
      · rw [if_neg w]
    · rw [u_X10_most (EF_50 n), e_m_in, b2_if, if_neg z3]
