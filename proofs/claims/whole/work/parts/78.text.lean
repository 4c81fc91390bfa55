/-! fault, field -/
theorem det {X : (Int → Hp → Prop) → Prop} {a b : Int} {u w : Hp} (h1 : ∀ Q, X Q = Q a u) (h2 : ∀ Q, X Q = Q b w) : a = b ∧ u = w := by
  have e := h1 (fun r x => r = b ∧ x = w)
  rw [h2] at e
  have : (b = b ∧ w = w) = (a = b ∧ u = w) := e
  exact this ▸ ⟨rfl, rfl⟩
section PARSE
variable {n : Int} {h g : Hp} {f : Int → Int} {z t : Int} {M0 : Int → Int} {d d' : Nat}
theorem rd_all (T : TX h g f z t) : ∀ (j : Nat) (i : Int) (R M : Int → Int), PS z M0 R M → z - R 7 ≤ j → 0 ≤ i → i ≤ R 7 → ∃ (a : Int) (R' M' : Int → Int), (∀ Q, Ws (EF n) (d + 4) mX4_read Q 17 [(2, 9), (2, 4), (0, t), (0, i)] [] (hrow h 9 R) = Q a (hrow h 9 R')) ∧ (∀ Q v, Ws (EF n) (d' + 3) mX10_reads Q 32 [(2, 50), (0, t), v] [] (hrow g 50 M) = Q a (hrow g 50 M')) ∧ PS z M0 R' M' := by
  intro j
  induction j with
  | zero =>
    intro i R M P hj h0 hi
    have pp := P.2.1
    have e55 : hrow g 50 M 55 t = z := T.2.2.1
    refine ⟨-9, R, M, fun Q => ?_, fun Q v => ?_, P⟩
    · rw [b_X4_read_17, hrow_s, P.1]
      by_cases y : i < z
      · rw [if_pos y, if_neg (by omega)]
      · rw [if_neg y]
    · rw [b_X10_reads_32 (EF_50 n), and_tl T.2.1, hrow_s, e55, pp.2.2, if_neg (by omega)]
  | succ j ih =>
    intro i R M P hj h0 hi
    have pp := P.2.1
    have tz := T.1
    have e55 : hrow g 50 M 55 t = z := T.2.2.1
    by_cases hz : R 7 < z
    · obtain ⟨a, R1, M1, q1, q2, P1, q3⟩ := rd_item (n := n) (d := d) (d' := d') T P hz
      by_cases ya : a = 0
      · refine ⟨R1 7, R1, M1, fun Q => ?_, fun Q v => ?_, P1⟩
        · rw [b_X4_read_17, hrow_s, P.1, if_pos (by omega), if_pos hz, q1, if_pos ya, hrow_s]
        · obtain ⟨v', e⟩ := q2 Q v
          rw [e, if_pos ya]
      · obtain ⟨-, hp⟩ := q3.resolve_left ya
        obtain ⟨b, R2, M2, s1, s2, P2⟩ := ih (i + 1) R1 M1 P1 (by omega) (by omega) (by omega)
        refine ⟨b, R2, M2, fun Q => ?_, fun Q v => ?_, P2⟩
        · rw [b_X4_read_17, hrow_s, P.1, if_pos (by omega), if_pos hz, q1, if_neg ya, w32_of (x := i + 1) (by omega) (by omega), s1]
        · obtain ⟨v', e⟩ := q2 Q v
          rw [e, if_neg ya, s2]
    · refine ⟨-9, R, M, fun Q => ?_, fun Q v => ?_, P⟩
      · rw [b_X4_read_17, hrow_s, P.1]
        by_cases y : i < z
        · rw [if_pos y, if_neg (by omega)]
        · rw [if_neg y]
      · rw [b_X10_reads_32 (EF_50 n), and_tl T.2.1, hrow_s, e55, pp.2.2, if_neg (by omega)]
end PARSE
theorem e_copySigns {n : Int} {d : Nat} {Q : Int → Hp → Prop} {h : Hp} {R : Int → Int} {t : Int} (ht : 0 ≤ t ∧ t < 4) (hs : SzOK 4 (h 5)) (h0 : 0 ≤ h 5 t) : wpS (EF n) (d + 5) mX4_copySigns [(2, 9), (2, 4), (0, t)] (hrow h 9 R) Q = Q 0 (hrow (hrow h 10 (pf (fun i => h 6 (40 * t + i)) (h 10) (h 5 t))) 9 (up R 6 (h 5 t))) := by
  have e5 : ∀ R, hrow h 9 R 5 = h 5 := fun R => hrow_n _ _ (by decide)
  have hz := hs t ht.1 ht.2
  rw [u_X4_copySigns, e_sizeOf_b, if_pos ht, e5, hst_rr]
  have e0 : hrow h 9 (up R 6 (h 5 t)) = hrow (hrow h 10 (pf (fun i => h 6 (40 * t + i)) (h 10) ((0 : Nat) : Int))) 9 (up R 6 (h 5 t)) := by rw [pf_0, hrow_self]
  rw [e0]
  have eN : (((h 5 t).toNat : Nat) : Int) = h 5 t := by omega
  have l := loop_n (P := fun k => Ws (EF n) (d + 4) mX4_copySigns Q 11 [(2, 9), (2, 4), (0, t), (0, (k : Int))] [] (hrow (hrow h 10 (pf (fun i => h 6 (40 * t + i)) (h 10) k)) 9 (up R 6 (h 5 t)))) (h 5 t).toNat (by
    intro k hk
    have r5 : hrow (hrow h 10 (pf (fun i => h 6 (40 * t + i)) (h 10) k)) 9 (up R 6 (h 5 t)) 5 = h 5 := by rw [hrow_n _ _ (by decide), hrow_n _ _ (by decide)]
    have r6 : hrow (hrow h 10 (pf (fun i => h 6 (40 * t + i)) (h 10) k)) 9 (up R 6 (h 5 t)) 6 = h 6 := by rw [hrow_n _ _ (by decide), hrow_n _ _ (by decide)]
    have sw : ∀ v, hst (hrow (hrow h 10 (pf (fun i => h 6 (40 * t + i)) (h 10) k)) 9 (up R 6 (h 5 t))) 10 k v = hrow (hrow h 10 (up (pf (fun i => h 6 (40 * t + i)) (h 10) k) k v)) 9 (up R 6 (h 5 t)) := by
      intro v
      rw [hst_hn _ _ _ _ (by decide), hst_rr]
    rw [b_X4_copySigns_11, hrow_s, up_s, if_pos (by omega), if_pos (by omega), e_get_b (by rw [r5]; exact hs) (by unfold in32; omega), r5, r6, if_pos (by omega), and_tl (by omega), sw, w32_n1 (by omega), pf_s (fun i => h 6 (40 * t + i))])
  refine l.trans ?_
  show Ws (EF n) (d + 4) mX4_copySigns Q 11 [(2, 9), (2, 4), (0, t), (0, (((h 5 t).toNat : Nat) : Int))] [] _ = _
  rw [b_X4_copySigns_11, hrow_s, up_s, if_neg (by omega), eN]
/-- a text is read alike by both -/
theorem rd_text {n : Int} {h : Hp} {t : Int} (c4 : CSh 4 (-128) 127 (h 5) (h 6) (h 55) (h 56)) (ht : 0 ≤ t ∧ t < 4) (h0 : 0 ≤ h 5 t) : ∃ (a : Int) (R' s : Int → Int), (∀ Q, wpS (EF n) 8 mX4_read [(2, 9), (2, 4), (0, t)] h Q = Q a (hrow (hrow h 10 s) 9 R')) ∧ ∀ r7 : Int → Int, ∃ M' : Int → Int, (∀ Q, wpS (EF n) 8 mX10_reads [(2, 50), (0, t)] (hrow (hrow (hrow h 10 s) 9 R') 7 r7) Q = Q a (hrow (hrow (hrow (hrow h 10 s) 9 R') 7 r7) 50 M')) ∧ CLaw (R' 0) (R' 1) (R' 2) (R' 3) (R' 4) (M' 15) (M' 16) (M' 17) (M' 18) (M' 19) ∧ ∀ i : Int, i < 15 ∨ 21 < i → M' i = h 50 i := by
  have hz := c4.1 t ht.1 ht.2
  have ez := CSh_eq c4 ht h0
  let s : Int → Int := pf (fun i => h 6 (40 * t + i)) (h 10) (h 5 t)
  let R0 : Int → Int := up (up (up (up (up (up (up (h 9) 0 0) 1 1) 2 0) 3 (-1)) 4 (-1)) 6 (h 5 t)) 7 0
  let M0 : Int → Int := up (up (up (up (up (up (h 50) 15 0) 16 1) 17 0) 18 (-9)) 19 (-9)) 20 0
  have P0 : PS (h 5 t) (h 50) R0 M0 := by
    refine ⟨?_, ?_, ?_, fun i hi => ?_⟩
    · show up _ 7 0 6 = _
      simp only [up_at, Int.reduceEq, if_true, if_false, reduceIte]
    · show 0 ≤ up _ 7 0 7 ∧ up _ 7 0 7 ≤ h 5 t ∧ up _ 20 0 20 = up _ 7 0 7
      rw [up_s, up_s]
      exact ⟨by decide, h0, rfl⟩
    · show CLaw (up (up (up (up (up (up (up (h 9) 0 0) 1 1) 2 0) 3 (-1)) 4 (-1)) 6 (h 5 t)) 7 0 0) (up (up (up (up (up (up (up (h 9) 0 0) 1 1) 2 0) 3 (-1)) 4 (-1)) 6 (h 5 t)) 7 0 1) (up (up (up (up (up (up (up (h 9) 0 0) 1 1) 2 0) 3 (-1)) 4 (-1)) 6 (h 5 t)) 7 0 2) (up (up (up (up (up (up (up (h 9) 0 0) 1 1) 2 0) 3 (-1)) 4 (-1)) 6 (h 5 t)) 7 0 3) (up (up (up (up (up (up (up (h 9) 0 0) 1 1) 2 0) 3 (-1)) 4 (-1)) 6 (h 5 t)) 7 0 4) (up (up (up (up (up (up (h 50) 15 0) 16 1) 17 0) 18 (-9)) 19 (-9)) 20 0 15) (up (up (up (up (up (up (h 50) 15 0) 16 1) 17 0) 18 (-9)) 19 (-9)) 20 0 16) (up (up (up (up (up (up (h 50) 15 0) 16 1) 17 0) 18 (-9)) 19 (-9)) 20 0 17) (up (up (up (up (up (up (h 50) 15 0) 16 1) 17 0) 18 (-9)) 19 (-9)) 20 0 18) (up (up (up (up (up (up (h 50) 15 0) 16 1) 17 0) 18 (-9)) 19 (-9)) 20 0 19)
      simp only [up_at, Int.reduceEq, if_true, if_false, reduceIte]
      exact ⟨⟨rfl, rfl, rfl⟩, ⟨by decide, by decide, by decide, by decide, Or.inl rfl⟩, Or.inl ⟨rfl, rfl⟩, Or.inl ⟨rfl, rfl⟩⟩
    · show up (up (up (up (up (up (h 50) 15 0) 16 1) 17 0) 18 (-9)) 19 (-9)) 20 0 i = h 50 i
      rw [up_n _ _ (by omega), up_n _ _ (by omega), up_n _ _ (by omega), up_n _ _ (by omega), up_n _ _ (by omega), up_n _ _ (by omega)]
  have TT : ∀ R r7, TX (hrow h 10 s) (hrow (hrow (hrow h 10 s) 9 R) 7 r7) (fun i => h 6 (40 * t + i)) (h 5 t) t := by
    intro R r7
    refine ⟨⟨h0, hz.2⟩, ht, ?_, fun i i0 i1 => ⟨?_, ?_⟩⟩
    · rw [hrow_n _ _ (by decide), hrow_n _ _ (by decide), hrow_n _ _ (by decide)]
      exact ez
    · rw [hrow_s]
      exact pf_in ⟨i0, i1⟩
    · rw [hrow_n _ _ (by decide), hrow_n _ _ (by decide), hrow_n _ _ (by decide)]
      exact (c4.2.2 t i ht.1 ht.2 i0 i1).1
  have R07 : R0 7 = 0 := up_s _ _ _
  have cls : ∀ Q, wpS (EF n) 8 mX4_read [(2, 9), (2, 4), (0, t)] h Q = Ws (EF n) 7 mX4_read Q 17 [(2, 9), (2, 4), (0, t), (0, 0)] [] (hrow (hrow h 10 s) 9 R0) := by
    intro Q
    have e9 : hst (hst (hst (hst (hst h 9 0 0) 9 1 1) 9 2 0) 9 3 (-1)) 9 4 (-1) = hrow h 9 (up (up (up (up (up (h 9) 0 0) 1 1) 2 0) 3 (-1)) 4 (-1)) := by
      rw [hst_row h, hst_rr, hst_rr, hst_rr, hst_rr]
    rw [u_X4_read, u_X4_clear_b, e9, e_copySigns ht c4.1 h0, hst_rr]
  obtain ⟨a, R', M1, q1, -, -⟩ := rd_all (n := n) (d := 3) (d' := 4) (M0 := h 50) (TT R0 R0) 40 0 R0 M0 P0 (by omega) (by decide) (by omega)
  refine ⟨a, R', s, fun Q => by rw [cls]; exact q1 Q, fun r7 => ?_⟩
  obtain ⟨b, R2, M', s1, s2, P2⟩ := rd_all (n := n) (d := 3) (d' := 4) (M0 := h 50) (TT R' r7) 40 0 R0 M0 P0 (by omega) (by decide) (by omega)
  obtain ⟨e1, e2⟩ := det (X := fun Q => Ws (EF n) 7 mX4_read Q 17 [(2, 9), (2, 4), (0, t), (0, 0)] [] (hrow (hrow h 10 s) 9 R0)) q1 s1
  have e3 : R' = R2 := by
    have := congrFun e2 9
    rw [hrow_s, hrow_s] at this
    exact this
  subst e3
  subst e1
  refine ⟨M', fun Q => ?_, P2.2.2.1, P2.2.2.2⟩
  have e50 : ∀ H : Hp, hst (hst (hst (hst (hst (hst H 50 15 0) 50 16 1) 50 17 0) 50 18 (-9)) 50 19 (-9)) 50 20 0 = hrow H 50 (up (up (up (up (up (up (H 50) 15 0) 16 1) 17 0) 18 (-9)) 19 (-9)) 20 0) := fun H => by
    rw [hst_row H, hst_rr, hst_rr, hst_rr, hst_rr, hst_rr]
  rw [u_X10_reads (EF_50 n), e50]
  exact s2 Q (9, 0)
theorem p_fault {n t : Int} : Pr n mX9_fault mX10_fault [(0, t)] := by
  intro h hC
  have hC' := hC
  obtain ⟨c1, c2, c3, c4, c5, c6, c7, c8, c9, c10, c11, c12, c13, c14, c15⟩ := hC
  by_cases z1 : 0 ≤ t ∧ t < 4
  · have hn := CSh_neg c4 z1
    by_cases z2 : h 5 t < 0
    · refine ⟨-3, fnd h 1, mfnd (fnd h 1) 1, fun Q => ?_, fun Q => ?_, Cpl_fnd hC' (by decide) (by decide)⟩
      · rw [u_X9_fault, e_isNumber_b, b2_if, if_pos z1, e_isThere_b, b2_if, if_neg (by omega), e_refuse (by decide) (by decide)]
      · rw [u_X10_fault (EF_50 n), e_m_askedText (EF_50 n), if_pos z1, if_pos (show fnd h 1 55 t < 0 from hn.mpr z2), if_pos (by decide)]
    · obtain ⟨a, R', s, q1, qq⟩ := rd_text (n := n) c4 z1 (by omega)
      obtain ⟨M', q2, q3, q4⟩ := qq (hrow (hrow h 10 s) 9 R' 7)
      rw [hrow_self] at q2
      refine ⟨a, hrow (hrow h 10 s) 9 R', hrow (hrow (hrow h 10 s) 9 R') 50 M', fun Q => ?_, fun Q => ?_, ?_⟩
      · rw [u_X9_fault, e_isNumber_b, b2_if, if_pos z1, e_isThere_b, b2_if, if_pos (by omega), q1]
      · rw [u_X10_fault (EF_50 n), e_m_askedText (EF_50 n), if_pos z1, if_neg (show ¬ hrow (hrow h 10 s) 9 R' 55 t < 0 from fun q => z2 (hn.mp q)), if_neg (by decide), q2]
      · unfold Cpl
        simp only [hst_at, hrow_at, up_at, Int.reduceEq, if_true, if_false, reduceIte]
        rw [q4 0 (by decide), q4 2 (by decide), q4 10 (by decide), q4 11 (by decide), q4 12 (by decide), q4 13 (by decide), q4 14 (by decide), q4 28 (by decide), q4 33 (by decide), q4 43 (by decide), q4 44 (by decide), q4 3 (by decide), q4 4 (by decide)]
        exact ⟨c1, c2, c3, c4, c5, c6, c7, c8, c9, c10, c11, c12, c13, c14, c15⟩
  · refine ⟨-1, h, h, fun Q => ?_, fun Q => ?_, hC'⟩
    · rw [u_X9_fault, e_isNumber_b, b2_if, if_neg z1]
    · rw [u_X10_fault (EF_50 n), e_m_askedText (EF_50 n), if_neg z1, if_pos (by decide)]
theorem p_field {n t : Int} : Pr n mX9_field mX10_field [(0, t)] := by
  intro h hC
  have hC' := hC
  obtain ⟨c1, c2, c3, c4, c5, c6, c7, c8, c9, c10, c11, c12, c13, c14, c15⟩ := hC
  by_cases z1 : 0 ≤ t ∧ t < 4
  · have hn := CSh_neg c4 z1
    by_cases z2 : h 5 t < 0
    · refine ⟨-3, fnd h 1, mfnd (fnd h 1) 1, fun Q => ?_, fun Q => ?_, Cpl_fnd hC' (by decide) (by decide)⟩
      · rw [u_X9_field, e_isNumber_b, b2_if, if_pos z1, e_isThere_b, b2_if, if_neg (by omega), e_refuse (by decide) (by decide)]
      · rw [u_X10_field (EF_50 n), e_m_askedText (EF_50 n), if_pos z1, if_pos (show fnd h 1 55 t < 0 from hn.mpr z2), if_pos (by decide)]
    · obtain ⟨a, R', s, q1, qq⟩ := rd_text (n := n) c4 z1 (by omega)
      by_cases ya : a = -9
      · obtain ⟨M', q2, q3, q4⟩ := qq (up (up (up (up (up (h 7) 0 (R' 0)) 1 (R' 1)) 2 (R' 2)) 3 (R' 3)) 4 (R' 4))
        have ex : ∀ Q, wpS (EF n) 8 mX4_take [(2, 7), (2, 9)] (hrow (hrow h 10 s) 9 R') Q = Q 0 (hrow (hrow (hrow h 10 s) 9 R') 7 (up (up (up (up (up (h 7) 0 (R' 0)) 1 (R' 1)) 2 (R' 2)) 3 (R' 3)) 4 (R' 4))) := by
          intro Q
          rw [u_X4_take, hst_row (hrow (hrow h 10 s) 9 R'), hst_rr, hst_rr, hst_rr, hst_rr]
          rfl
        refine ⟨1, hrow (hrow (hrow h 10 s) 9 R') 7 (up (up (up (up (up (h 7) 0 (R' 0)) 1 (R' 1)) 2 (R' 2)) 3 (R' 3)) 4 (R' 4)), hrow (hrow (hrow (hrow h 10 s) 9 R') 7 (up (up (up (up (up (h 7) 0 (R' 0)) 1 (R' 1)) 2 (R' 2)) 3 (R' 3)) 4 (R' 4))) 50 (up (up (up (up (up M' 10 (M' 15)) 11 (M' 16)) 12 (M' 17)) 13 (M' 18)) 14 (M' 19)), fun Q => ?_, fun Q => ?_, ?_⟩
        · rw [u_X9_field, e_isNumber_b, b2_if, if_pos z1, e_isThere_b, b2_if, if_pos (by omega), q1, if_pos ya, ex]
        · rw [u_X10_field (EF_50 n), e_m_askedText (EF_50 n), if_pos z1, if_neg (show ¬ hrow (hrow (hrow h 10 s) 9 R') 7 _ 55 t < 0 from fun q => z2 (hn.mp q)), if_neg (by decide), q2, if_pos ya, hst_rr, hst_rr, hst_rr, hst_rr, hst_rr]
          simp only [hrow_s, up_at, Int.reduceEq, if_true, if_false, reduceIte]
        · unfold Cpl
          simp only [hst_at, hrow_at, up_at, Int.reduceEq, if_true, if_false, reduceIte]
          rw [q4 0 (by decide), q4 2 (by decide), q4 28 (by decide), q4 33 (by decide), q4 43 (by decide), q4 44 (by decide), q4 3 (by decide), q4 4 (by decide)]
          exact ⟨c1, c2, c3, c4, q3, c6, c7, c8, c9, c10, c11, c12, c13, c14, c15⟩
      · obtain ⟨M', q2, q3, q4⟩ := qq (hrow (hrow h 10 s) 9 R' 7)
        rw [hrow_self] at q2
        refine ⟨-4, hrow (hrow h 10 s) 9 R', hrow (hrow (hrow h 10 s) 9 R') 50 M', fun Q => ?_, fun Q => ?_, ?_⟩
        · rw [u_X9_field, e_isNumber_b, b2_if, if_pos z1, e_isThere_b, b2_if, if_pos (by omega), q1, if_neg ya]
        · rw [u_X10_field (EF_50 n), e_m_askedText (EF_50 n), if_pos z1, if_neg (show ¬ hrow (hrow h 10 s) 9 R' 55 t < 0 from fun q => z2 (hn.mp q)), if_neg (by decide), q2, if_neg ya]
        · unfold Cpl
          simp only [hst_at, hrow_at, up_at, Int.reduceEq, if_true, if_false, reduceIte]
          rw [q4 0 (by decide), q4 2 (by decide), q4 10 (by decide), q4 11 (by decide), q4 12 (by decide), q4 13 (by decide), q4 14 (by decide), q4 28 (by decide), q4 33 (by decide), q4 43 (by decide), q4 44 (by decide), q4 3 (by decide), q4 4 (by decide)]
          exact ⟨c1, c2, c3, c4, c5, c6, c7, c8, c9, c10, c11, c12, c13, c14, c15⟩
  · refine ⟨-1, h, h, fun Q => ?_, fun Q => ?_, hC'⟩
    · rw [u_X9_field, e_isNumber_b, b2_if, if_neg z1]
    · rw [u_X10_field (EF_50 n), e_m_askedText (EF_50 n), if_neg z1, if_pos (by decide)]
