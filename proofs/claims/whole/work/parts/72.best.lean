/-! best -/
theorem best_eq {k b a c : Int} (hk : 2 ≤ k ∧ k ≤ 8) (hb : 1 ≤ b ∧ b < k) (ha : 2 ≤ a ∧ a ≤ 20) (hc : 0 ≤ c ∧ c ≤ 20) : isb 60 (kU k a c) (kL k a) (kU b a c) (kL b a) 0 = tkL k b a c := by
  have := best_fin ⟨(k - 2).toNat, by omega⟩ ⟨(b - 1).toNat, by omega⟩ (by show (b - 1).toNat ≤ (k - 2).toNat; omega) ⟨(a - 2).toNat, by omega⟩ ⟨c.toNat, by omega⟩
  have e0 : (((k - 2).toNat + 2 : Nat) : Int) = k := by omega
  have e1 : (((b - 1).toNat + 1 : Nat) : Int) = b := by omega
  have e2 : (((a - 2).toNat + 2 : Nat) : Int) = a := by omega
  have e3 : ((c.toNat : Nat) : Int) = c := by omega
  simp only [e0, e1, e2, e3] at this
  exact this
/-- the best of the first j + 1 -/
def bst (a c : Int) : Nat → Int
  | 0 => 1
  | j + 1 => if tkL (j + 2) (bst a c j) a c = 0 then bst a c j else (j + 2 : Int)
theorem bst_b (a c : Int) : ∀ j : Nat, 1 ≤ bst a c j ∧ bst a c j ≤ j + 1
  | 0 => ⟨Int.le_refl _, by show (1 : Int) ≤ ((0 : Nat) : Int) + 1; decide⟩
  | j + 1 => by
    have ih := bst_b a c j
    show 1 ≤ (if tkL (j + 2) (bst a c j) a c = 0 then bst a c j else (j + 2 : Int)) ∧ (if tkL (j + 2) (bst a c j) a c = 0 then bst a c j else (j + 2 : Int)) ≤ ((j + 1 : Nat) : Int) + 1
    split <;> omega
theorem w32_n3 {k : Nat} (h : k < 1000) : w32 ((k : Int) + 2 + 1) = ((k + 1 : Nat) : Int) + 2 := by
  rw [w32_of (by omega) (by omega)]
  omega
theorem p_best {n a c : Int} : Pr n mX9_best mX10_best [(0, a), (0, c)] := by
  intro h hC
  by_cases z : (2 ≤ a ∧ a ≤ 20) ∧ 0 ≤ c ∧ c ≤ 20
  · have b7 := bst_b a c 7
    have hf := kOK (k := bst a c 7) (a := a) (c := c) (by omega) z.1 z.2
    have l1 : ∀ Q, Ws (EF n) 8 mX9_best Q 15 [(2, 0), (0, a), (0, c), (0, 1), (0, 2)] [] h = Q (bst a c 7) (tlX h (kU (bst a c 7) a c) (kL (bst a c 7) a)) := by
      intro Q
      have l := loop_n (P := fun j => Ws (EF n) 8 mX9_best Q 15 [(2, 0), (0, a), (0, c), (0, bst a c j), (0, (j : Int) + 2)] [] h) 7 (by
        intro j hj
        have b := bst_b a c j
        rw [b_X9_best_15, if_neg (by omega), e_takesLess (by omega) (by omega) z.1, w32_n3 (by omega)]
        show _ = Ws (EF n) 8 mX9_best Q 15 [(2, 0), (0, a), (0, c), (0, if tkL (j + 2) (bst a c j) a c = 0 then bst a c j else (j + 2 : Int)), (0, ((j + 1 : Nat) : Int) + 2)] [] h
        by_cases y : tkL (j + 2) (bst a c j) a c = 0
        · rw [if_pos y, if_pos y]
        · rw [if_neg y, if_neg y])
      refine l.trans ?_
      show Ws (EF n) 8 mX9_best Q 15 [(2, 0), (0, a), (0, c), (0, bst a c 7), (0, ((7 : Nat) : Int) + 2)] [] h = _
      rw [b_X9_best_15, if_pos (by decide), e_keepingUpper (by omega) z.1, e_power (by omega), w32_of (x := a - 1) (by omega) (by omega)]
      show wpS (EF n) 8 mX2_tell [(2, 48), (1, kU (bst a c 7) a c), (1, kL (bst a c 7) a)] h _ = _
      rw [e_tell hf]
    have l2 : ∀ Q (h : Hp), Ws (EF n) 8 mX10_best Q 15 [(2, 50), (0, a), (0, c), (0, 1), (0, 2)] [] h = Q (bst a c 7) (tlM h (kU (bst a c 7) a c) (kL (bst a c 7) a)) := by
      intro Q h
      have l := loop_n (P := fun j => Ws (EF n) 8 mX10_best Q 15 [(2, 50), (0, a), (0, c), (0, bst a c j), (0, (j : Int) + 2)] [] h) 7 (by
        intro j hj
        have b := bst_b a c j
        have eq := best_eq (k := (j : Int) + 2) (b := bst a c j) (a := a) (c := c) (by omega) (by omega) z.1 z.2
        have ne : isb 60 (kU ((j : Int) + 2) a c) (kL ((j : Int) + 2) a) (kU (bst a c j) a c) (kL (bst a c j) a) 0 ≠ -1 := by
          rw [eq]
          unfold tkL
          split <;> decide
        rw [b_X10_best_15 (EF_50 n), if_neg (by omega), e_m_expected (by omega) z.1, e_m_power (by omega), e_m_expected (by omega) z.1, e_m_power (by omega), w32_of (x := a - 1) (by omega) (by omega), w32_n3 (by omega)]
        show wpS (EF n) 8 mX10_isBelow [(1, kU ((j : Int) + 2) a c), (1, kL ((j : Int) + 2) a), (1, kU (bst a c j) a c), (1, kL (bst a c j) a)] h _ = _
        rw [e_m_isBelow 60 ne, eq]
        show _ = Ws (EF n) 8 mX10_best Q 15 [(2, 50), (0, a), (0, c), (0, if tkL (j + 2) (bst a c j) a c = 0 then bst a c j else (j + 2 : Int)), (0, ((j + 1 : Nat) : Int) + 2)] [] h
        by_cases y : tkL (j + 2) (bst a c j) a c = 0
        · rw [if_pos y, if_pos y]
        · rw [if_neg y, if_neg y])
      refine l.trans ?_
      show Ws (EF n) 8 mX10_best Q 15 [(2, 50), (0, a), (0, c), (0, bst a c 7), (0, ((7 : Nat) : Int) + 2)] [] h = _
      rw [b_X10_best_15 (EF_50 n), if_pos (by decide), e_m_expected (by omega) z.1, e_m_power (by omega), w32_of (x := a - 1) (by omega) (by omega)]
      show wpS (EF n) 8 mX10_tells [(2, 50), (1, kU (bst a c 7) a c), (1, kL (bst a c 7) a), (0, bst a c 7)] h _ = _
      rw [e_m_tells (EF_50 n) hf]
    refine ⟨bst a c 7, tlX h (kU (bst a c 7) a c) (kL (bst a c 7) a), tlM (tlX h (kU (bst a c 7) a c) (kL (bst a c 7) a)) (kU (bst a c 7) a c) (kL (bst a c 7) a), fun Q => ?_, fun Q => ?_, Cpl_tl hC⟩
    · rw [u_X9_best, e_areOdds, b2_if, if_pos z, l1]
    · rw [u_X10_best (EF_50 n), e_m_areOdds, b2_if, if_pos z, l2]
  · refine ⟨-1, h, h, fun Q => ?_, fun Q => ?_, hC⟩
    · rw [u_X9_best, e_areOdds, b2_if, if_neg z]
    · rw [u_X10_best (EF_50 n), e_m_areOdds, b2_if, if_neg z]
