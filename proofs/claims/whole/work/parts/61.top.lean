/-! top, flip -/
/-- the first with the most, of those that are p; -9 if none is -/
def bt (p : Int → Prop) [DecidablePred p] (A : Int → Int) : Nat → Int
  | 0 => -9
  | k + 1 => if p k ∧ (bt p A k < 0 ∨ A (bt p A k) < A k) then k else bt p A k
theorem bt_s (p : Int → Prop) [DecidablePred p] (A : Int → Int) (k : Nat) : bt p A (k + 1) = if p k ∧ (bt p A k < 0 ∨ A (bt p A k) < A k) then (k : Int) else bt p A k := rfl
theorem bt_b (p : Int → Prop) [DecidablePred p] (A : Int → Int) : ∀ k : Nat, bt p A k = -9 ∨ ((0 ≤ bt p A k ∧ bt p A k < k) ∧ p (bt p A k))
  | 0 => Or.inl rfl
  | k + 1 => by
    have ih := bt_b p A k
    rw [bt_s]
    by_cases z : p k ∧ (bt p A k < 0 ∨ A (bt p A k) < A k)
    · rw [if_pos z]
      exact Or.inr ⟨by omega, z.1⟩
    · rw [if_neg z]
      rcases ih with e | e
      · exact Or.inl e
      · exact Or.inr ⟨by omega, e.2⟩
theorem bt_c {p q : Int → Prop} [DecidablePred p] [DecidablePred q] {A B : Int → Int} : ∀ (k : Nat), (∀ j : Nat, j < k → (p j ↔ q j)) → (∀ j : Nat, j < k → p j → A j = B j) → bt p A k = bt q B k
  | 0, _, _ => rfl
  | k + 1, h1, h2 => by
    have ih := bt_c k (fun j hj => h1 j (by omega)) (fun j hj => h2 j (by omega))
    have hb := bt_b p A k
    rw [bt_s, bt_s, ← ih]
    have hk := h1 k (by omega)
    have e : (p k ∧ (bt p A k < 0 ∨ A (bt p A k) < A k)) ↔ (q k ∧ (bt p A k < 0 ∨ B (bt p A k) < B k)) := by
      by_cases z : p k
      · rcases hb with hb | hb
        · constructor
          · intro _; exact ⟨hk.mp z, by omega⟩
          · intro _; exact ⟨z, by omega⟩
        · have e1 := h2 k (by omega) z
          have e3 : ((bt p A k).toNat : Int) = bt p A k := by omega
          have e2 := h2 (bt p A k).toNat (by omega) (by rw [e3]; exact hb.2)
          rw [e3] at e2
          rw [e1, e2]
          constructor
          · intro q; exact ⟨hk.mp z, q.2⟩
          · intro q; exact ⟨z, q.2⟩
      · constructor
        · intro q; exact absurd q.1 z
        · intro q; exact absurd (hk.mpr q.1) z
    by_cases z : p k ∧ (bt p A k < 0 ∨ A (bt p A k) < A k)
    · rw [if_pos z, if_pos (e.mp z)]
    · rw [if_neg z, if_neg (fun w => z (e.mpr w))]
theorem x_top {n : Int} {d : Nat} {Q : Int → Hp → Prop} {h : Hp} (ha : ∀ k : Int, 0 ≤ k → k < 336 → 0 ≤ h 13 k ∧ h 13 k ≤ 1000000) : wpS (EF n) (d + 3) mX9_top [(2, 0)] h Q = Q (bt (fun c => h 12 c ≠ -1) (h 13) 336) h := by
  rw [u_X9_top]
  have l := loop_n (P := fun k => Ws (EF n) (d + 2) mX9_top Q 7 [(2, 0), (0, bt (fun c => h 12 c ≠ -1) (h 13) k), (0, if bt (fun c => h 12 c ≠ -1) (h 13) k < 0 then -1 else h 13 (bt (fun c => h 12 c ≠ -1) (h 13) k)), (0, (k : Int))] [] h) 336 (by
    intro k hk
    have hb := bt_b (fun c => h 12 c ≠ -1) (h 13) k
    have hs := bt_s (fun c => h 12 c ≠ -1) (h 13) k
    revert hb hs
    generalize bt (fun c => h 12 c ≠ -1) (h 13) (k + 1) = t'
    generalize bt (fun c => h 12 c ≠ -1) (h 13) k = t
    intro hb hs
    have hA := ha k (by omega) (by omega)
    rw [b_X9_top_7, if_pos (by omega), e_w_isThere (EF_11 n), b2_if, w32_n1 (by omega)]
    by_cases z : h 12 (k : Int) = -1
    · rw [if_neg (fun q => q.2 z)]
      rw [if_neg (fun q => q.1 z)] at hs
      rw [hs]
    · rw [if_pos (show (0 ≤ (k : Int) ∧ (k : Int) < 336) ∧ h 12 (k : Int) ≠ -1 from ⟨by omega, z⟩), and_tl (by omega), and_tl (by omega)]
      by_cases w : t < 0
      · rw [if_pos w]
        rw [if_pos ⟨z, Or.inl w⟩] at hs
        rw [if_pos (by omega), hs, if_neg (by omega)]
      · rw [if_neg w]
        by_cases v : h 13 t < h 13 (k : Int)
        · rw [if_pos ⟨z, Or.inr v⟩] at hs
          rw [if_pos v, hs, if_neg (by omega)]
        · rw [if_neg (fun q => by rcases q.2 with q | q; exact w q; exact v q)] at hs
          rw [if_neg v, hs, if_neg w])
  refine Eq.trans ?_ (l.trans ?_)
  · rfl
  · show Ws (EF n) (d + 2) mX9_top Q 7 [(2, 0), (0, _), (0, _), (0, ((336 : Nat) : Int))] [] h = _
    rw [b_X9_top_7, if_neg (by decide)]
theorem e_m_top {E : PvEnv} (hE : ∀ k, E 50 k = refT 50 k) {d : Nat} {Q : Int → Hp → Prop} {h : Hp} : wpS E (d + 1) mX10_top [(2, 50)] h Q = Q (bt (fun c => h 57 c ≠ 0) (h 58) 336) h := by
  rw [u_X10_top hE]
  have l := loop_n (P := fun k => Ws E d mX10_top Q 5 [(2, 50), (0, bt (fun c => h 57 c ≠ 0) (h 58) k), (0, (k : Int))] [] h) 336 (by
    intro k hk
    have hb := bt_b (fun c => h 57 c ≠ 0) (h 58) k
    have hs := bt_s (fun c => h 57 c ≠ 0) (h 58) k
    revert hb hs
    generalize bt (fun c => h 57 c ≠ 0) (h 58) (k + 1) = t'
    generalize bt (fun c => h 57 c ≠ 0) (h 58) k = t
    intro hb hs
    rw [b_X10_top_5 hE, if_pos (by omega), and_tl (by omega), and_tl (by omega), b_X10_top_44 hE, b_X10_top_40 hE, w32_n1 (by omega)]
    by_cases z : h 57 (k : Int) = 0
    · rw [if_pos z]
      rw [if_neg (fun q => q.1 z)] at hs
      rw [hs]
    · rw [if_neg z]
      by_cases w : t < 0
      · rw [if_pos w]
        rw [if_pos ⟨z, Or.inl w⟩] at hs
        rw [hs]
      · rw [if_neg w, and_tl (by omega)]
        by_cases v : h 58 t < h 58 (k : Int)
        · rw [if_pos ⟨z, Or.inr v⟩] at hs
          rw [if_pos v, hs]
        · rw [if_neg (fun q => by rcases q.2 with q | q; exact w q; exact v q)] at hs
          rw [if_neg v, hs])
  refine Eq.trans ?_ (l.trans ?_)
  · rfl
  · show Ws E d mX10_top Q 5 [(2, 50), (0, _), (0, ((336 : Nat) : Int))] [] h = _
    rw [b_X10_top_5 hE, if_neg (by decide)]
theorem p_top {n : Int} : Pr n mX9_top mX10_top [] := by
  intro h hC
  have hC' := hC
  obtain ⟨c1, c2, c3, c4, c5, c6, c7, c8, c9, c10, c11, c12, c13, c14, c15⟩ := hC
  have e : bt (fun c => h 57 c ≠ 0) (h 58) 336 = bt (fun c => h 12 c ≠ -1) (h 13) 336 := by
    refine bt_c 336 (fun j hj => not_congr (cw_T c7 (c := j) (by omega))) (fun j hj q => ?_)
    exact (cw_e c7 (c := j) (by omega) (fun z => q ((cw_T c7 (c := j) (by omega)).mpr z))).2.1
  exact ⟨bt (fun c => h 12 c ≠ -1) (h 13) 336, h, h, fun Q => x_top (cw_A c7), fun Q => by rw [e_m_top (EF_50 n), e], hC'⟩
theorem shl_b : ∀ b : Int, 0 ≤ b ∧ b ≤ 18 → 0 ≤ i32op (fun x y => x <<< (y &&& 31)) 1 b ∧ i32op (fun x y => x <<< (y &&& 31)) 1 b < 2147483648 := by
  intro b hb
  refine ⟨?_, (i32op_in _ _ _).2⟩
  have : b = 0 ∨ b = 1 ∨ b = 2 ∨ b = 3 ∨ b = 4 ∨ b = 5 ∨ b = 6 ∨ b = 7 ∨ b = 8 ∨ b = 9 ∨ b = 10 ∨ b = 11 ∨ b = 12 ∨ b = 13 ∨ b = 14 ∨ b = 15 ∨ b = 16 ∨ b = 17 ∨ b = 18 := by omega
  rcases this with e | e | e | e | e | e | e | e | e | e | e | e | e | e | e | e | e | e | e <;> subst e <;> decide +kernel
theorem bv_nn (x : BitVec 32) : 0 ≤ x.toInt ↔ x.msb = false := by
  rw [BitVec.toInt_eq_msb_cond]
  have := x.isLt
  split
  · rename_i q
    rw [q]
    simp
    omega
  · rename_i q
    simp only [Bool.not_eq_true] at q
    rw [q]
    simp
theorem xor_nn {a b : Int} (ha : 0 ≤ a ∧ a < 2147483648) (hb : 0 ≤ b ∧ b < 2147483648) : 0 ≤ i32op (fun x y => x ^^^ y) a b := by
  have e : ∀ c : Int, 0 ≤ c ∧ c < 2147483648 → (Int32.ofInt c).toBitVec.msb = false := by
    intro c hc
    refine (bv_nn _).mp ?_
    have q : (Int32.ofInt c).toInt = c := i32_to (by unfold in32; omega)
    have q2 : (Int32.ofInt c).toBitVec.toInt = (Int32.ofInt c).toInt := rfl
    rw [q2, q]
    exact hc.1
  show 0 ≤ (Int32.ofInt a ^^^ Int32.ofInt b).toInt
  have q3 : (Int32.ofInt a ^^^ Int32.ofInt b).toInt = (Int32.ofInt a ^^^ Int32.ofInt b).toBitVec.toInt := rfl
  rw [q3]
  refine (bv_nn _).mpr ?_
  rw [Int32.toBitVec_xor, BitVec.msb_xor, e a ha, e b hb]
  rfl
theorem e_m_flip {E : PvEnv} (hE : ∀ k, E 50 k = refT 50 k) {d : Nat} {Q : Int → Hp → Prop} {h : Hp} {c b : Int} : wpS E (d + 4) mX10_flip [(2, 50), (0, c), (0, b)] h Q = if 0 ≤ b ∧ b ≤ 18 then (if 0 ≤ c ∧ c < 336 then (if h 57 c = 0 then Q (-3) (mfnd h 1) else if 1000000 < i32op (fun x y => x ^^^ y) (h 58 c) (i32op (fun x y => x <<< (y &&& 31)) 1 b) then Q (-3) (mfnd h 2) else Q (i32op (fun x y => x ^^^ y) (h 58 c) (i32op (fun x y => x <<< (y &&& 31)) 1 b)) (hst h 58 c (i32op (fun x y => x ^^^ y) (h 58 c) (i32op (fun x y => x <<< (y &&& 31)) 1 b)))) else Q (-1) h) else Q (-1) h := by
  rw [u_X10_flip hE, e_m_in, b2_if, e_m_askedCell hE]
  by_cases z0 : 0 ≤ b ∧ b ≤ 18
  · rw [if_pos z0, if_pos z0]
    by_cases z1 : 0 ≤ c ∧ c < 336
    · rw [if_pos z1, if_pos z1]
      by_cases z2 : h 57 c = 0
      · rw [if_pos z2, if_pos z2, if_pos (by decide)]
      · rw [if_neg z2, if_neg z2, if_neg (by decide), and_tl z1, and_tl z1, e_meets hE (by decide) (by decide)]
    · rw [if_neg z1, if_neg z1, if_pos (by decide)]
  · rw [if_neg z0, if_neg z0]
theorem p_flip {n c b : Int} : Pr n mX9_flip mX10_flip [(0, c), (0, b)] := by
  intro h hC
  have hC' := hC
  obtain ⟨c1, c2, c3, c4, c5, c6, c7, c8, c9, c10, c11, c12, c13, c14, c15⟩ := hC
  by_cases z1 : 0 ≤ c ∧ c < 336
  · by_cases z0 : 0 ≤ b ∧ b ≤ 18
    · by_cases z2 : h 12 c = -1
      · exact ⟨-3, fnd h 1, mfnd (fnd h 1) 1, fun Q => by rw [u_X9_flip, e_isName, b2_if, if_pos z1, if_neg (by omega), if_neg (by omega), e_w_isThere (EF_11 n), b2_if, if_neg (by omega), e_refuse (by decide) (by decide)], fun Q => (e_m_flip (h := fnd h 1) (EF_50 n)).trans ((if_pos z0).trans ((if_pos z1).trans (if_pos ((cw_T c7 z1).mpr z2)))), Cpl_fnd hC' (by decide) (by decide)⟩
      · have z2' : ¬ h 57 c = 0 := fun w => z2 ((cw_T c7 z1).mp w)
        have e := (cw_e c7 z1 z2).2.1
        have a := cw_A c7 c z1.1 z1.2
        have v0 := xor_nn (a := h 13 c) (by omega) (shl_b b z0)
        by_cases z3 : 1000000 < i32op (fun x y => x ^^^ y) (h 13 c) (i32op (fun x y => x <<< (y &&& 31)) 1 b)
        · have z3' : 1000000 < i32op (fun x y => x ^^^ y) (h 58 c) (i32op (fun x y => x <<< (y &&& 31)) 1 b) := by rw [e]; exact z3
          exact ⟨-3, fnd h 2, mfnd (fnd h 2) 2, fun Q => by rw [u_X9_flip, e_isName, b2_if, if_pos z1, if_neg (by omega), if_neg (by omega), e_w_isThere (EF_11 n), b2_if, if_pos ⟨z1, z2⟩, and_tl z1, e_isAmount, b2_if, if_neg (by omega), e_refuse (by decide) (by decide)], fun Q => (e_m_flip (h := fnd h 2) (EF_50 n)).trans ((if_pos z0).trans ((if_pos z1).trans ((if_neg z2').trans (if_pos z3')))), Cpl_fnd hC' (by decide) (by decide)⟩
        · have z3' : ¬ 1000000 < i32op (fun x y => x ^^^ y) (h 58 c) (i32op (fun x y => x <<< (y &&& 31)) 1 b) := by rw [e]; exact z3
          refine ⟨i32op (fun x y => x ^^^ y) (h 58 c) (i32op (fun x y => x <<< (y &&& 31)) 1 b), hst h 13 c (i32op (fun x y => x ^^^ y) (h 58 c) (i32op (fun x y => x <<< (y &&& 31)) 1 b)), _, fun Q => ?_, fun Q => (e_m_flip (h := hst h 13 c (i32op (fun x y => x ^^^ y) (h 58 c) (i32op (fun x y => x <<< (y &&& 31)) 1 b))) (EF_50 n)).trans ((if_pos z0).trans ((if_pos z1).trans ((if_neg z2').trans (if_neg z3')))), ?_⟩
          · rw [u_X9_flip, e_isName, b2_if, if_pos z1, if_neg (by omega), if_neg (by omega), e_w_isThere (EF_11 n), b2_if, if_pos ⟨z1, z2⟩, and_tl z1, e_isAmount, b2_if, if_pos (by omega), and_tl z1, e]
          · unfold Cpl
            simp only [hst_at, hrow_at, up_at, Int.reduceEq, if_true, if_false, reduceIte]
            refine ⟨c1, c2, c3, c4, c5, c6, ?_, c8, c9, c10, c11, c12, c13, c14, c15⟩
            refine ⟨c7.1, fun j j1 j2 => ?_, c7.2.2⟩
            obtain ⟨⟨a1, a2, a3, a4⟩, m⟩ := c7.2.1 j j1 j2
            by_cases z : j = c
            · subst z
              rw [up_s, up_s, e]
              have r : rAm (i32op (fun x y => x ^^^ y) (h 13 j) (i32op (fun x y => x <<< (y &&& 31)) 1 b)) := ⟨v0, by omega⟩
              exact ⟨⟨a1, a2, ⟨r, r, a3.2.2⟩, fun w => ⟨(a4 w).1, rfl, (a4 w).2.2⟩⟩, m⟩
            · rw [up_n _ _ z, up_n _ _ z]
              exact ⟨⟨a1, a2, a3, a4⟩, m⟩
    · refine ⟨-1, h, h, fun Q => ?_, fun Q => (e_m_flip (h := h) (EF_50 n)).trans (if_neg z0), hC'⟩
      rw [u_X9_flip, e_isName, b2_if, if_pos z1]
      by_cases v : b < 0
      · rw [if_pos v]
      · rw [if_neg v, if_pos (by omega)]
  · refine ⟨-1, h, h, fun Q => by rw [u_X9_flip, e_isName, b2_if, if_neg z1], fun Q => (e_m_flip (h := h) (EF_50 n)).trans ?_, hC'⟩
    by_cases z0 : 0 ≤ b ∧ b ≤ 18
    · rw [if_pos z0, if_neg z1]
    · rw [if_neg z0]
