/-! bears, stops -/
/-- the greatest amount among those that are p, 0 if none is -/
def mx (p : Int → Prop) [DecidablePred p] (A : Int → Int) : Nat → Int
  | 0 => 0
  | k + 1 => if p k ∧ mx p A k < A k then A k else mx p A k
theorem mx_s (p : Int → Prop) [DecidablePred p] (A : Int → Int) (k : Nat) : mx p A (k + 1) = if p k ∧ mx p A k < A k then A k else mx p A k := rfl
theorem mx_c {p q : Int → Prop} [DecidablePred p] [DecidablePred q] {A B : Int → Int} : ∀ (k : Nat), (∀ j : Nat, j < k → (p j ↔ q j)) → (∀ j : Nat, j < k → p j → A j = B j) → mx p A k = mx q B k
  | 0, _, _ => rfl
  | k + 1, h1, h2 => by
    have ih := mx_c k (fun j hj => h1 j (by omega)) (fun j hj => h2 j (by omega))
    have hk := h1 k (by omega)
    rw [mx_s, mx_s, ih]
    by_cases z : p k
    · have e := h2 k (by omega) z
      rw [e]
      by_cases w : mx q B k < B k
      · rw [if_pos ⟨z, w⟩, if_pos ⟨hk.mp z, w⟩]
      · rw [if_neg (fun q => w q.2), if_neg (fun q => w q.2)]
    · rw [if_neg (fun q => z q.1), if_neg (fun q => z (hk.mpr q.1))]
theorem e_greatestOf {n : Int} {d : Nat} {Q : Int → Hp → Prop} {h : Hp} {m : Int} : wpS (EF n) (d + 3) mX0_greatestOf [(2, 30), (2, 11), (0, m)] h Q = Q (mx (fun c => h 12 c ≠ -1 ∧ h 14 c = m) (h 13) 336) h := by
  rw [u_X0_greatestOf]
  have l := loop_n (P := fun k => Ws (EF n) (d + 2) mX0_greatestOf Q 5 [(2, 30), (2, 11), (0, m), (0, mx (fun c => h 12 c ≠ -1 ∧ h 14 c = m) (h 13) k), (0, (k : Int))] [] h) 336 (by
    intro k hk
    have hs := mx_s (fun c => h 12 c ≠ -1 ∧ h 14 c = m) (h 13) k
    revert hs
    generalize mx (fun c => h 12 c ≠ -1 ∧ h 14 c = m) (h 13) (k + 1) = t'
    generalize mx (fun c => h 12 c ≠ -1 ∧ h 14 c = m) (h 13) k = t
    intro hs
    rw [b_X0_greatestOf_5, if_pos (by omega), e_w_isThere (EF_11 n), b2_if, w32_n1 (by omega)]
    by_cases z : h 12 (k : Int) = -1
    · rw [if_neg (fun q => q.2 z)]
      rw [if_neg (fun q => q.1.1 z)] at hs
      rw [hs]
    · rw [if_pos (show (0 ≤ (k : Int) ∧ (k : Int) < 336) ∧ h 12 (k : Int) ≠ -1 from ⟨by omega, z⟩), and_tl (by omega), and_tl (by omega)]
      by_cases w : h 14 (k : Int) = m
      · rw [if_pos w]
        by_cases v : t < h 13 (k : Int)
        · rw [if_pos ⟨⟨z, w⟩, v⟩] at hs
          rw [if_pos v, hs]
        · rw [if_neg (fun q => v q.2)] at hs
          rw [if_neg v, hs]
      · rw [if_neg w]
        rw [if_neg (fun q => w q.1.2)] at hs
        rw [hs])
  refine Eq.trans ?_ (l.trans ?_)
  · rfl
  · show Ws (EF n) (d + 2) mX0_greatestOf Q 5 [(2, 30), (2, 11), (0, m), (0, _), (0, ((336 : Nat) : Int))] [] h = _
    rw [b_X0_greatestOf_5, if_neg (by decide)]
theorem e_m_bears {E : PvEnv} (hE : ∀ k, E 50 k = refT 50 k) {d : Nat} {Q : Int → Hp → Prop} {h : Hp} {m k : Int} : wpS E (d + 3) mX10_bears [(2, 50), (0, m), (0, k)] h Q = if (0 ≤ m ∧ m < 6) ∧ 1 ≤ k ∧ k ≤ 4 then (if h 74 m = k ∨ (k = 2 ∧ h 74 m = 3) then (if k = 1 then Q ((if h 74 m = 1 then 2 else 1) * cnt (fun c => (h 57 c ≠ 0 ∧ h 60 c = m) ∧ h 59 c ≠ 4) 336) h else if k = 2 then Q (cnt (fun c => h 57 c ≠ 0 ∧ h 60 c = m) 336) h else if k = 4 then Q (cnt (fun j => h 74 j = 4) m.toNat) h else Q (mx (fun c => h 57 c ≠ 0 ∧ h 60 c = m) (h 58) 336) h) else Q (-3) (mfnd h 3)) else Q (-1) h := by
  rw [u_X10_bears hE, e_m_isMachine, b2_if, e_m_in, b2_if]
  by_cases z1 : 0 ≤ m ∧ m < 6
  · rw [if_pos (show 0 ≤ m ∧ m ≤ 5 by omega)]
    by_cases z2 : 1 ≤ k ∧ k ≤ 4
    · rw [if_pos z2, if_pos (show (0 ≤ m ∧ m < 6) ∧ 1 ≤ k ∧ k ≤ 4 from ⟨z1, z2⟩), and_tl z1, and_tl z1, b_X10_bears_43 hE, e_meets hE (by decide) (by decide)]
      have r81 : Ws E (d + 2) mX10_bears Q 81 [(2, 50), (0, m), (0, k), (0, 0), (0, 0)] [] h = Q (cnt (fun j => h 74 j = 4) m.toNat) h := by
        have hN : ((m.toNat : Nat) : Int) = m := by omega
        have l := count_loop (P := fun a j => Ws E (d + 2) mX10_bears Q 81 [(2, 50), (0, m), (0, k), (0, a), (0, j)] [] h) (fun j => h 74 j = 4) m.toNat (by
          intro j a hj h0 h1
          show Ws E (d + 2) mX10_bears Q 81 [(2, 50), (0, m), (0, k), (0, a), (0, (j : Int))] [] h = _
          rw [b_X10_bears_81 hE, if_pos (by omega), and_tl (by omega), b_X10_bears_104 hE, b_X10_bears_104 hE, w32_n1 (by omega), w32_of (x := a + 1) (by omega) (by omega), w32_of (x := a + 0) (by omega) (by omega), Int.add_zero])
        refine l.trans ?_
        show Ws E (d + 2) mX10_bears Q 81 [(2, 50), (0, m), (0, k), (0, _), (0, _)] [] h = _
        rw [b_X10_bears_81 hE, hN, if_neg (by omega)]
      have r117 : Ws E (d + 2) mX10_bears Q 117 [(2, 50), (0, m), (0, k), (0, 0), (0, 0)] [] h = Q (mx (fun c => h 57 c ≠ 0 ∧ h 60 c = m) (h 58) 336) h := by
        have l := loop_n (P := fun j => Ws E (d + 2) mX10_bears Q 117 [(2, 50), (0, m), (0, k), (0, mx (fun c => h 57 c ≠ 0 ∧ h 60 c = m) (h 58) j), (0, (j : Int))] [] h) 336 (by
          intro j hj
          have hs := mx_s (fun c => h 57 c ≠ 0 ∧ h 60 c = m) (h 58) j
          revert hs
          generalize mx (fun c => h 57 c ≠ 0 ∧ h 60 c = m) (h 58) (j + 1) = t'
          generalize mx (fun c => h 57 c ≠ 0 ∧ h 60 c = m) (h 58) j = t
          intro hs
          rw [b_X10_bears_117 hE, if_pos (by omega), and_tl (by omega), and_tl (by omega), and_tl (by omega), and_tl (by omega), b_X10_bears_167 hE, w32_n1 (by omega)]
          by_cases z : h 57 (j : Int) = 0
          · rw [if_pos z]
            rw [if_neg (fun q => q.1.1 z)] at hs
            rw [hs]
          · rw [if_neg z]
            by_cases w : h 60 (j : Int) = m
            · rw [if_pos w]
              by_cases v : t < h 58 (j : Int)
              · rw [if_pos ⟨⟨z, w⟩, v⟩] at hs
                rw [if_pos v, hs]
              · rw [if_neg (fun q => v q.2)] at hs
                rw [if_neg v, hs]
            · rw [if_neg w]
              rw [if_neg (fun q => w q.1.2)] at hs
              rw [hs])
        refine Eq.trans ?_ (l.trans ?_)
        · rfl
        · show Ws E (d + 2) mX10_bears Q 117 [(2, 50), (0, m), (0, k), (0, _), (0, ((336 : Nat) : Int))] [] h = _
          rw [b_X10_bears_117 hE, if_neg (by decide)]
      rw [b_X10_bears_49 hE, e_m_workOf hE z1, e_m_cellsOf hE, r81, r117]
      by_cases v1 : h 74 m = k
      · rw [if_pos v1, if_pos (Or.inl v1)]
      · rw [if_neg v1]
        by_cases v2 : k = 2
        · rw [if_pos v2]
          by_cases v3 : h 74 m = 3
          · rw [if_pos v3, if_pos (Or.inr ⟨v2, v3⟩)]
          · rw [if_neg v3, if_neg (by omega)]
        · rw [if_neg v2, if_neg (by omega)]
    · rw [if_neg z2, if_neg (fun q => z2 q.2)]
  · rw [if_neg (show ¬ (0 ≤ m ∧ m ≤ 5) by omega), if_neg (fun q => z1 q.1)]
theorem p_bears {n m k : Int} : Pr n mX9_bears mX10_bears [(0, m), (0, k)] := by
  intro h hC
  have hC' := hC
  obtain ⟨c1, c2, c3, c4, c5, c6, c7, c8, c9, c10, c11, c12, c13, c14, c15⟩ := hC
  have x0 : ∀ Q : Int → Hp → Prop, wpS (EF n) 9 mX9_bears [(2, 0), (0, m), (0, k)] h Q = if (0 ≤ m ∧ m < 6) ∧ 1 ≤ k ∧ k ≤ 4 then (if h 31 m = k ∨ (k = 2 ∧ h 31 m = 3) then (if k = 1 then Q (wk (h 12) (h 14) (h 31) m) h else if k = 2 then Q (cnt (fun c => h 12 c ≠ -1 ∧ h 14 c = m) 336) h else if k = 4 then Q (cnt (fun j => h 31 j = 4) m.toNat) h else Q (mx (fun c => h 12 c ≠ -1 ∧ h 14 c = m) (h 13) 336) h) else Q (-3) (fnd h 3)) else Q (-1) h := by
    intro Q
    rw [u_X9_bears, e_isMachine, b2_if]
    by_cases z1 : 0 ≤ m ∧ m < 6
    · rw [if_pos z1]
      by_cases z2 : 1 ≤ k ∧ k ≤ 4
      · rw [if_neg (by omega), if_neg (by omega), if_pos (show (0 ≤ m ∧ m < 6) ∧ 1 ≤ k ∧ k ≤ 4 from ⟨z1, z2⟩), and_tl z1, b_X9_bears_44, b_X9_bears_57, e_cellsOf, e_workOf z1, e_greatestOf, e_sparesBelow (by omega), e_refuse (by decide) (by decide)]
        by_cases v2 : k = 2
        · rw [if_pos v2, if_neg (show ¬ k = 1 by omega), if_neg (show ¬ k = 1 by omega), if_pos v2]
          by_cases v3 : h 31 m = 2
          · rw [if_pos v3, if_pos (by omega)]
          · rw [if_neg v3]
            by_cases v4 : h 31 m = 3
            · rw [if_pos v4, if_pos (by omega)]
            · rw [if_neg v4, if_neg (by omega), if_neg (by omega)]
        · rw [if_neg v2, if_neg v2]
          by_cases v1 : h 31 m = k
          · rw [if_pos v1, if_pos (Or.inl v1)]
            by_cases w1 : k = 1
            · rw [if_pos w1, if_pos w1]
            · rw [if_neg w1, if_neg w1]
              by_cases w3 : k = 3
              · rw [if_pos w3, if_neg (by omega)]
              · rw [if_neg w3, if_pos (by omega)]
          · rw [if_neg v1, if_neg (by omega)]
      · rw [if_neg (show ¬ ((0 ≤ m ∧ m < 6) ∧ 1 ≤ k ∧ k ≤ 4) by omega)]
        by_cases w : k < 1
        · rw [if_pos w]
        · rw [if_neg w, if_pos (by omega)]
    · rw [if_neg z1, if_neg (fun q => z1 q.1)]
  by_cases z : (0 ≤ m ∧ m < 6) ∧ 1 ≤ k ∧ k ≤ 4
  · have em := (c11 m z.1.1 z.1.2).1
    by_cases z2 : h 31 m = k ∨ (k = 2 ∧ h 31 m = 3)
    · have z2' : h 74 m = k ∨ (k = 2 ∧ h 74 m = 3) := by rw [em]; exact z2
      have xx := fun Q => (x0 Q).trans ((if_pos z).trans (if_pos z2))
      have mm := fun Q => (e_m_bears (d := 6) (Q := Q) (h := h) (m := m) (k := k) (EF_50 n)).trans ((if_pos z).trans (if_pos z2'))
      have e1 := cw_wk c7 c11 z.1
      have e2 := cw_cells (m := m) c7
      have e3 : cnt (fun j => h 74 j = 4) m.toNat = cnt (fun j => h 31 j = 4) m.toNat := cnt_c _ (fun j hj => by rw [(c11 j (by omega) (by omega)).1])
      have e4 : mx (fun c => h 57 c ≠ 0 ∧ h 60 c = m) (h 58) 336 = mx (fun c => h 12 c ≠ -1 ∧ h 14 c = m) (h 13) 336 := by
        refine mx_c 336 (fun j hj => ?_) (fun j hj q => ?_)
        · have a := cw_T c7 (c := j) (by omega)
          constructor
          · intro q
            have k : h 12 j ≠ -1 := fun z => q.1 (a.mpr z)
            exact ⟨k, by rw [← (cw_e c7 (by omega) k).2.2]; exact q.2⟩
          · intro q
            exact ⟨fun z => q.1 (a.mp z), by rw [(cw_e c7 (by omega) q.1).2.2]; exact q.2⟩
        · exact (cw_e c7 (c := j) (by omega) (fun z => q.1 ((cw_T c7 (c := j) (by omega)).mpr z))).2.1
      by_cases w1 : k = 1
      · exact ⟨_, h, h, fun Q => (xx Q).trans (if_pos w1), fun Q => ((mm Q).trans (if_pos w1)).trans (by rw [e1]), hC'⟩
      · by_cases w2 : k = 2
        · exact ⟨_, h, h, fun Q => (xx Q).trans ((if_neg w1).trans (if_pos w2)), fun Q => ((mm Q).trans ((if_neg w1).trans (if_pos w2))).trans (by rw [e2]), hC'⟩
        · by_cases w4 : k = 4
          · exact ⟨_, h, h, fun Q => (xx Q).trans ((if_neg w1).trans ((if_neg w2).trans (if_pos w4))), fun Q => ((mm Q).trans ((if_neg w1).trans ((if_neg w2).trans (if_pos w4)))).trans (by rw [e3]), hC'⟩
          · exact ⟨_, h, h, fun Q => (xx Q).trans ((if_neg w1).trans ((if_neg w2).trans (if_neg w4))), fun Q => ((mm Q).trans ((if_neg w1).trans ((if_neg w2).trans (if_neg w4)))).trans (by rw [e4]), hC'⟩
    · have z2' : ¬ (h 74 m = k ∨ (k = 2 ∧ h 74 m = 3)) := by rw [em]; exact z2
      exact ⟨-3, fnd h 3, mfnd (fnd h 3) 3, fun Q => (x0 Q).trans ((if_pos z).trans (if_neg z2)), fun Q => (e_m_bears (h := fnd h 3) (EF_50 n)).trans ((if_pos z).trans (if_neg z2')), Cpl_fnd hC' (by decide) (by decide)⟩
  · exact ⟨-1, h, h, fun Q => (x0 Q).trans (if_neg z), fun Q => (e_m_bears (h := h) (EF_50 n)).trans (if_neg z), hC'⟩
