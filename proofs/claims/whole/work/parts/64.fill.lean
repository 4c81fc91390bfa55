/-! fill -/
def fil (p : Int → Prop) [DecidablePred p] (A R : Int → Int) (r : Int) (k : Int) : Int → Int := fun j => if (0 ≤ j ∧ j < k) ∧ p j then R (40 * r + j) else A j
theorem fil_0 (p : Int → Prop) [DecidablePred p] (A R : Int → Int) (r : Int) : fil p A R r ((0 : Nat) : Int) = A := by
  funext j
  unfold fil
  exact if_neg (fun q => by omega)
theorem fil_s (p : Int → Prop) [DecidablePred p] (A R : Int → Int) (r : Int) (k : Nat) : fil p A R r ((k + 1 : Nat) : Int) = if p k then up (fil p A R r k) k (R (40 * r + k)) else fil p A R r k := by
  by_cases z : p k
  · rw [if_pos z]
    funext j
    unfold up fil
    by_cases w : j = (k : Int)
    · rw [if_pos w, w]
      exact if_pos ⟨by omega, z⟩
    · rw [if_neg w]
      by_cases v : (0 ≤ j ∧ j < (k : Int)) ∧ p j
      · rw [if_pos v, if_pos ⟨by omega, v.2⟩]
      · rw [if_neg v]
        exact if_neg (fun q => v ⟨by omega, q.2⟩)
  · rw [if_neg z]
    funext j
    unfold fil
    by_cases w : j = (k : Int)
    · subst w
      rw [if_neg (fun q => z q.2), if_neg (fun q => z q.2)]
    · by_cases v : (0 ≤ j ∧ j < (k : Int)) ∧ p j
      · rw [if_pos v, if_pos ⟨by omega, v.2⟩]
      · rw [if_neg v]
        exact if_neg (fun q => v ⟨by omega, q.2⟩)
theorem fst1_all {p : Int → Prop} [DecidablePred p] : ∀ (k : Nat) (a : Int), fst1 p k a = a + k → ∀ j : Int, a ≤ j → j < a + k → ¬ p j
  | 0, a, _, j, h1, h2 => by omega
  | k + 1, a, h, j, h1, h2 => by
    have h' : (if p a then a else fst1 p k (a + 1)) = a + ((k + 1 : Nat) : Int) := h
    by_cases z : p a
    · rw [if_pos z] at h'
      omega
    · rw [if_neg z] at h'
      by_cases w : j = a
      · rw [w]; exact z
      · exact fst1_all k (a + 1) (by omega) j (by omega) (by omega)
theorem x_fill {n : Int} {d : Nat} {Q : Int → Hp → Prop} {h : Hp} {r : Int} (hs : SzOK 6 (h 2)) : wpS (EF n) (d + 5) mX9_fill [(2, 0), (0, r)] h Q = if 0 ≤ r ∧ r < 6 then (if h 2 r < 0 then Q (-3) (fnd h 1) else if h 2 r = 16 then (if fst1 (fun j => ¬ (0 ≤ h 3 (40 * r + j) ∧ h 3 (40 * r + j) ≤ 1000000)) 16 0 = 16 then Q (cnt (fun c => h 12 c ≠ -1) 16) (hrow h 13 (fil (fun c => h 12 c ≠ -1) (h 13) (h 3) r 16)) else Q (-3) (fnd h 3)) else Q (-3) (fnd h 5)) else Q (-1) h := by
  rw [u_X9_fill, e_isNumber_a, b2_if]
  by_cases z1 : 0 ≤ r ∧ r < 6
  · rw [if_pos z1, if_pos z1, e_isThere_a, b2_if]
    by_cases z2 : h 2 r < 0
    · rw [if_pos z2, if_neg (by omega), e_refuse (by decide) (by decide)]
    · rw [if_neg z2, if_pos (by omega), e_sizeOf_a, if_pos z1, e_refuse (by decide) (by decide)]
      by_cases z3 : h 2 r = 16
      · rw [if_pos z3, if_pos z3]
        have key : ∀ (k : Nat) (a : Int), 0 ≤ a → a + k = 16 → Ws (EF n) (d + 4) mX9_fill Q 51 [(2, 0), (0, r), (0, a), (9, 0)] [] h = if fst1 (fun j => ¬ (0 ≤ h 3 (40 * r + j) ∧ h 3 (40 * r + j) ≤ 1000000)) k a = 16 then Ws (EF n) (d + 4) mX9_fill Q 88 [(2, 0), (0, r), (0, 0), (0, 0)] [] h else Q (-3) (fnd h 3) := by
          intro k
          induction k with
          | zero =>
            intro a h0 ha
            rw [b_X9_fill_51, if_neg (by omega)]
            exact (if_pos (show a = 16 by omega)).symm
          | succ k ih =>
            intro a h0 ha
            rw [b_X9_fill_51, if_pos (by omega), e_get_a hs (by unfold in32; omega), if_pos (by omega), e_isAmount, b2_if, w32_of (x := a + 1) (by omega) (by omega), ih (a + 1) (by omega) (by omega), e_refuse (by decide) (by decide)]
            show _ = if (if ¬ (0 ≤ h 3 (40 * r + a) ∧ h 3 (40 * r + a) ≤ 1000000) then a else fst1 (fun j => ¬ (0 ≤ h 3 (40 * r + j) ∧ h 3 (40 * r + j) ≤ 1000000)) k (a + 1)) = 16 then _ else _
            by_cases z : 0 ≤ h 3 (40 * r + a) ∧ h 3 (40 * r + a) ≤ 1000000
            · rw [if_pos z, if_neg (show ¬ ¬ (0 ≤ h 3 (40 * r + a) ∧ h 3 (40 * r + a) ≤ 1000000) from fun q => q z)]
            · rw [if_neg z, if_pos (show ¬ (0 ≤ h 3 (40 * r + a) ∧ h 3 (40 * r + a) ≤ 1000000) from z), if_neg (by omega)]
        rw [key 16 0 (by decide) (by decide)]
        by_cases z4 : fst1 (fun j => ¬ (0 ≤ h 3 (40 * r + j) ∧ h 3 (40 * r + j) ≤ 1000000)) 16 0 = 16
        · rw [if_pos z4, if_pos z4]
          have l := loop_n (P := fun k => Ws (EF n) (d + 4) mX9_fill Q 88 [(2, 0), (0, r), (0, cnt (fun c => h 12 c ≠ -1) k), (0, (k : Int))] [] (hrow h 13 (fil (fun c => h 12 c ≠ -1) (h 13) (h 3) r k))) 16 (by
            intro k hk
            have b := cnt_b (fun c => h 12 c ≠ -1) k
            have e12 : hrow h 13 (fil (fun c => h 12 c ≠ -1) (h 13) (h 3) r k) 12 = h 12 := hrow_n _ _ (by decide)
            have e2 : hrow h 13 (fil (fun c => h 12 c ≠ -1) (h 13) (h 3) r k) 2 = h 2 := hrow_n _ _ (by decide)
            have e3 : hrow h 13 (fil (fun c => h 12 c ≠ -1) (h 13) (h 3) r k) 3 = h 3 := hrow_n _ _ (by decide)
            rw [b_X9_fill_88, if_pos (by omega), e_w_isThere (EF_11 n), b2_if, e12, w32_n1 (by omega), e_get_a (by rw [e2]; exact hs) (by unfold in32; omega), e2, e3, if_pos (show (0 ≤ r ∧ r < 6) ∧ 0 ≤ (k : Int) ∧ (k : Int) < h 2 r by omega), hst_rr, w32_1 (by omega) (by omega), fil_s]
            by_cases z : h 12 (k : Int) = -1
            · rw [if_neg (fun q => q.2 z), if_neg (fun q => q z), cnt_f (fun q => q z)]
            · rw [if_pos (show (0 ≤ (k : Int) ∧ (k : Int) < 336) ∧ h 12 (k : Int) ≠ -1 from ⟨by omega, z⟩), and_tl (by omega), if_pos z, cnt_t z])
          rw [fil_0, hrow_self] at l
          refine l.trans ?_
          rw [b_X9_fill_88, if_neg (by decide)]
          rfl
        · rw [if_neg z4, if_neg z4]
      · rw [if_neg z3, if_neg z3]
  · rw [if_neg z1, if_neg z1]
theorem e_m_fill {E : PvEnv} (hE : ∀ k, E 50 k = refT 50 k) {d : Nat} {Q : Int → Hp → Prop} {h : Hp} {r : Int} : wpS E (d + 4) mX10_fill [(2, 50), (0, r)] h Q = if 0 ≤ r ∧ r < 6 then (if h 52 r < 0 then Q (-3) (mfnd h 1) else if h 52 r = 16 then (if fst1 (fun j => ¬ (0 ≤ h 53 (40 * r + j) ∧ h 53 (40 * r + j) ≤ 1000000)) 16 0 = 16 then Q (cnt (fun c => h 57 c ≠ 0) 16) (hrow h 58 (fil (fun c => h 57 c ≠ 0) (h 58) (h 53) r 16)) else Q (-3) (mfnd h 3)) else Q (-3) (mfnd h 5)) else Q (-1) h := by
  rw [u_X10_fill hE, e_m_askedRow hE]
  by_cases z1 : 0 ≤ r ∧ r < 6
  · rw [if_pos z1, if_pos z1]
    by_cases z2 : h 52 r < 0
    · rw [if_pos z2, if_pos z2, if_pos (by decide)]
    · rw [if_neg z2, if_neg z2, if_neg (by decide), and_tl z1, e_meets hE (by decide) (by decide)]
      by_cases z3 : h 52 r = 16
      · rw [if_pos z3, if_pos z3]
        have key : ∀ (k : Nat) (a : Int), 0 ≤ a → a + k = 16 → Ws E (d + 3) mX10_fill Q 31 [(2, 50), (0, r), (0, 0), (0, a), (9, 0)] [] h = if fst1 (fun j => ¬ (0 ≤ h 53 (40 * r + j) ∧ h 53 (40 * r + j) ≤ 1000000)) k a = 16 then Ws E (d + 3) mX10_fill Q 71 [(2, 50), (0, r), (0, 0), (0, 0), (0, 0)] [] h else Q (-3) (mfnd h 3) := by
          intro k
          induction k with
          | zero =>
            intro a h0 ha
            rw [b_X10_fill_31 hE, if_neg (by omega)]
            exact (if_pos (show a = 16 by omega)).symm
          | succ k ih =>
            intro a h0 ha
            rw [b_X10_fill_31 hE, if_pos (by omega), ix_m (by omega) (by omega) (by omega) (by omega), and_tl (by omega), e_m_isAmount, b2_if, w32_of (x := a + 1) (by omega) (by omega), ih (a + 1) (by omega) (by omega), e_meets hE (by decide) (by decide)]
            show _ = if (if ¬ (0 ≤ h 53 (40 * r + a) ∧ h 53 (40 * r + a) ≤ 1000000) then a else fst1 (fun j => ¬ (0 ≤ h 53 (40 * r + j) ∧ h 53 (40 * r + j) ≤ 1000000)) k (a + 1)) = 16 then _ else _
            by_cases z : 0 ≤ h 53 (40 * r + a) ∧ h 53 (40 * r + a) ≤ 1000000
            · rw [if_pos z, if_neg (show ¬ ¬ (0 ≤ h 53 (40 * r + a) ∧ h 53 (40 * r + a) ≤ 1000000) from fun q => q z)]
            · rw [if_neg z, if_pos (show ¬ (0 ≤ h 53 (40 * r + a) ∧ h 53 (40 * r + a) ≤ 1000000) from z), if_neg (by omega)]
        rw [key 16 0 (by decide) (by decide)]
        by_cases z4 : fst1 (fun j => ¬ (0 ≤ h 53 (40 * r + j) ∧ h 53 (40 * r + j) ≤ 1000000)) 16 0 = 16
        · rw [if_pos z4, if_pos z4]
          have l := loop_n (P := fun k => Ws E (d + 3) mX10_fill Q 71 [(2, 50), (0, r), (0, 0), (0, cnt (fun c => h 57 c ≠ 0) k), (0, (k : Int))] [] (hrow h 58 (fil (fun c => h 57 c ≠ 0) (h 58) (h 53) r k))) 16 (by
            intro k hk
            have b := cnt_b (fun c => h 57 c ≠ 0) k
            have e57 : hrow h 58 (fil (fun c => h 57 c ≠ 0) (h 58) (h 53) r k) 57 = h 57 := hrow_n _ _ (by decide)
            have e53 : hrow h 58 (fil (fun c => h 57 c ≠ 0) (h 58) (h 53) r k) 53 = h 53 := hrow_n _ _ (by decide)
            rw [b_X10_fill_71 hE, if_pos (by omega), and_tl (by omega), ix_m (by omega) (by omega) (by omega) (by omega), and_tl (by omega), and_tl (by omega), e57, e53, w32_n1 (by omega), hst_rr, w32_1 (by omega) (by omega), fil_s]
            by_cases z : h 57 (k : Int) = 0
            · rw [if_pos z, if_neg (fun q => q z), cnt_f (fun q => q z)]
            · rw [if_neg z, if_pos z, cnt_t z])
          rw [fil_0, hrow_self] at l
          refine l.trans ?_
          rw [b_X10_fill_71 hE, if_neg (by decide)]
          rfl
        · rw [if_neg z4, if_neg z4]
      · rw [if_neg z3, if_neg z3]
  · rw [if_neg z1, if_neg z1, if_pos (by decide)]
theorem p_fill {n r : Int} : Pr n mX9_fill mX10_fill [(0, r)] := by
  intro h hC
  have hC' := hC
  obtain ⟨c1, c2, c3, c4, c5, c6, c7, c8, c9, c10, c11, c12, c13, c14, c15⟩ := hC
  have x0 := fun Q => x_fill (n := n) (d := 4) (Q := Q) (h := h) (r := r) c3.1
  by_cases z1 : 0 ≤ r ∧ r < 6
  · have hn := CSh_neg c3 z1
    by_cases z2 : h 2 r < 0
    · exact ⟨-3, fnd h 1, mfnd (fnd h 1) 1, fun Q => (x0 Q).trans ((if_pos z1).trans (if_pos z2)), fun Q => (e_m_fill (h := fnd h 1) (EF_50 n)).trans ((if_pos z1).trans (if_pos (hn.mpr z2))), Cpl_fnd hC' (by decide) (by decide)⟩
    · have e2 := CSh_eq c3 z1 (by omega)
      have z2' : ¬ h 52 r < 0 := by omega
      by_cases z3 : h 2 r = 16
      · have z3' : h 52 r = 16 := by omega
        have e3 : ∀ j : Int, 0 ≤ j → j < 16 → h 53 (40 * r + j) = h 3 (40 * r + j) := fun j j1 j2 => (c3.2.2 r j z1.1 z1.2 j1 (by omega)).1
        have ef : fst1 (fun j => ¬ (0 ≤ h 53 (40 * r + j) ∧ h 53 (40 * r + j) ≤ 1000000)) 16 0 = fst1 (fun j => ¬ (0 ≤ h 3 (40 * r + j) ∧ h 3 (40 * r + j) ≤ 1000000)) 16 0 := fst1_c 16 0 (fun j h1 h2 => by rw [e3 j h1 (by omega)])
        by_cases z4 : fst1 (fun j => ¬ (0 ≤ h 3 (40 * r + j) ∧ h 3 (40 * r + j) ≤ 1000000)) 16 0 = 16
        · have z4' : fst1 (fun j => ¬ (0 ≤ h 53 (40 * r + j) ∧ h 53 (40 * r + j) ≤ 1000000)) 16 0 = 16 := by rw [ef]; exact z4
          have ec : cnt (fun c => h 57 c ≠ 0) 16 = cnt (fun c => h 12 c ≠ -1) 16 := cnt_c 16 (fun j hj => not_congr (cw_T c7 (by omega)))
          refine ⟨cnt (fun c => h 57 c ≠ 0) 16, hrow h 13 (fil (fun c => h 12 c ≠ -1) (h 13) (h 3) r 16), _, fun Q => ((x0 Q).trans ((if_pos z1).trans ((if_neg z2).trans ((if_pos z3).trans (if_pos z4))))).trans (by rw [ec]), fun Q => (e_m_fill (h := hrow h 13 (fil (fun c => h 12 c ≠ -1) (h 13) (h 3) r 16)) (EF_50 n)).trans ((if_pos z1).trans ((if_neg z2').trans ((if_pos z3').trans (if_pos z4')))), ?_⟩
          unfold Cpl
          simp only [hst_at, hrow_at, up_at, Int.reduceEq, if_true, if_false, reduceIte]
          refine ⟨c1, c2, c3, c4, c5, c6, ?_, c8, c9, c10, c11, c12, c13, c14, c15⟩
          refine ⟨c7.1, fun j j1 j2 => ?_, c7.2.2⟩
          obtain ⟨⟨a1, a2, a3, a4⟩, q⟩ := c7.2.1 j j1 j2
          have aT := cw_T c7 (c := j) ⟨j1, j2⟩
          unfold fil
          by_cases v : h 12 j = -1
          · rw [if_neg (fun q => q.2 v), if_neg (fun q => q.2 (aT.mpr v))]
            exact ⟨⟨a1, a2, a3, a4⟩, q⟩
          · have vT : h 57 j ≠ 0 := fun q => v (aT.mp q)
            by_cases w : j < 16
            · have am := fst1_all 16 0 z4 j j1 (by omega)
              have am' : rAm (h 3 (40 * r + j)) := Classical.not_not.mp am
              rw [if_pos ⟨⟨j1, w⟩, v⟩, if_pos ⟨⟨j1, w⟩, vT⟩, e3 j j1 w]
              exact ⟨⟨a1, a2, ⟨am', am', a3.2.2⟩, fun p => ⟨(a4 p).1, rfl, (a4 p).2.2⟩⟩, q⟩
            · rw [if_neg (fun q => w q.1.2), if_neg (fun q => w q.1.2)]
              exact ⟨⟨a1, a2, a3, a4⟩, q⟩
        · have z4' : ¬ fst1 (fun j => ¬ (0 ≤ h 53 (40 * r + j) ∧ h 53 (40 * r + j) ≤ 1000000)) 16 0 = 16 := by rw [ef]; exact z4
          exact ⟨-3, fnd h 3, mfnd (fnd h 3) 3, fun Q => (x0 Q).trans ((if_pos z1).trans ((if_neg z2).trans ((if_pos z3).trans (if_neg z4)))), fun Q => (e_m_fill (h := fnd h 3) (EF_50 n)).trans ((if_pos z1).trans ((if_neg z2').trans ((if_pos z3').trans (if_neg z4')))), Cpl_fnd hC' (by decide) (by decide)⟩
      · have z3' : ¬ h 52 r = 16 := by omega
        exact ⟨-3, fnd h 5, mfnd (fnd h 5) 5, fun Q => (x0 Q).trans ((if_pos z1).trans ((if_neg z2).trans (if_neg z3))), fun Q => (e_m_fill (h := fnd h 5) (EF_50 n)).trans ((if_pos z1).trans ((if_neg z2').trans (if_neg z3'))), Cpl_fnd hC' (by decide) (by decide)⟩
  · exact ⟨-1, h, h, fun Q => (x0 Q).trans (if_neg z1), fun Q => (e_m_fill (h := h) (EF_50 n)).trans (if_neg z1), hC'⟩
