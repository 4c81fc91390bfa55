/-! contracts: small helpers -/
theorem e_isName {E : PvEnv} {d : Nat} {Q : Int → Hp → Prop} {h : Hp} {c : Int} : wpS E (d + 1) mX9_isName [(0, c)] h Q = Q (b2 (0 ≤ c ∧ c < 336)) h := by
  rw [u_X9_isName]
  unfold b2
  repeat' split
  all_goals first | rfl | (exfalso; omega)
theorem e_isAmount {E : PvEnv} {d : Nat} {Q : Int → Hp → Prop} {h : Hp} {v : Int} : wpS E (d + 1) mX9_isAmount [(0, v)] h Q = Q (b2 (0 ≤ v ∧ v ≤ 1000000)) h := by
  rw [u_X9_isAmount]
  unfold b2
  repeat' split
  all_goals first | rfl | (exfalso; omega)
theorem e_isMachine {E : PvEnv} {d : Nat} {Q : Int → Hp → Prop} {h : Hp} {m : Int} : wpS E (d + 1) mX9_isMachine [(0, m)] h Q = Q (b2 (0 ≤ m ∧ m < 6)) h := by
  rw [u_X9_isMachine]
  unfold b2
  repeat' split
  all_goals first | rfl | (exfalso; omega)
theorem e_isSlot {E : PvEnv} {d : Nat} {Q : Int → Hp → Prop} {h : Hp} {s : Int} : wpS E (d + 1) mX9_isSlot [(0, s)] h Q = Q (b2 (0 ≤ s ∧ s < 2)) h := by
  rw [u_X9_isSlot]
  unfold b2
  repeat' split
  all_goals first | rfl | (exfalso; omega)
theorem e_isOnWorld {E : PvEnv} {d : Nat} {Q : Int → Hp → Prop} {h : Hp} {x y : Int} : wpS E (d + 1) mX9_isOnWorld [(0, x), (0, y)] h Q = Q (b2 ((0 ≤ x ∧ x < 16) ∧ 0 ≤ y ∧ y < 16)) h := by
  rw [u_X9_isOnWorld]
  unfold b2
  repeat' split
  all_goals first | rfl | (exfalso; omega)
theorem e_areOdds {E : PvEnv} {d : Nat} {Q : Int → Hp → Prop} {h : Hp} {k c : Int} : wpS E (d + 1) mX9_areOdds [(0, k), (0, c)] h Q = Q (b2 ((2 ≤ k ∧ k ≤ 20) ∧ 0 ≤ c ∧ c ≤ 20)) h := by
  rw [u_X9_areOdds]
  unfold b2
  repeat' split
  all_goals first | rfl | (exfalso; omega)
theorem e_m_in {E : PvEnv} {d : Nat} {Q : Int → Hp → Prop} {h : Hp} {v lo hi : Int} : wpS E (d + 1) mX10_in [(0, v), (0, lo), (0, hi)] h Q = Q (b2 (lo ≤ v ∧ v ≤ hi)) h := by
  rw [u_X10_in]
  unfold b2
  repeat' split
  all_goals first | rfl | (exfalso; omega)
theorem e_m_isRow {E : PvEnv} {d : Nat} {Q : Int → Hp → Prop} {h : Hp} {v : Int} : wpS E (d + 2) mX10_isRow [(0, v)] h Q = Q (b2 (0 ≤ v ∧ v ≤ 5)) h := by
  rw [u_X10_isRow, e_m_in, and_tl b2_bit]
theorem e_m_isText {E : PvEnv} {d : Nat} {Q : Int → Hp → Prop} {h : Hp} {v : Int} : wpS E (d + 2) mX10_isText [(0, v)] h Q = Q (b2 (0 ≤ v ∧ v ≤ 3)) h := by
  rw [u_X10_isText, e_m_in, and_tl b2_bit]
theorem e_m_isName {E : PvEnv} {d : Nat} {Q : Int → Hp → Prop} {h : Hp} {v : Int} : wpS E (d + 2) mX10_isName [(0, v)] h Q = Q (b2 (0 ≤ v ∧ v ≤ 335)) h := by
  rw [u_X10_isName, e_m_in, and_tl b2_bit]
theorem e_m_isAmount {E : PvEnv} {d : Nat} {Q : Int → Hp → Prop} {h : Hp} {v : Int} : wpS E (d + 2) mX10_isAmount [(0, v)] h Q = Q (b2 (0 ≤ v ∧ v ≤ 1000000)) h := by
  rw [u_X10_isAmount, e_m_in, and_tl b2_bit]
theorem e_m_isMachine {E : PvEnv} {d : Nat} {Q : Int → Hp → Prop} {h : Hp} {v : Int} : wpS E (d + 2) mX10_isMachine [(0, v)] h Q = Q (b2 (0 ≤ v ∧ v ≤ 5)) h := by
  rw [u_X10_isMachine, e_m_in, and_tl b2_bit]
theorem e_m_isSlot {E : PvEnv} {d : Nat} {Q : Int → Hp → Prop} {h : Hp} {v : Int} : wpS E (d + 2) mX10_isSlot [(0, v)] h Q = Q (b2 (0 ≤ v ∧ v ≤ 1)) h := by
  rw [u_X10_isSlot, e_m_in, and_tl b2_bit]
theorem e_m_areOdds {E : PvEnv} {d : Nat} {Q : Int → Hp → Prop} {h : Hp} {k c : Int} : wpS E (d + 2) mX10_areOdds [(0, k), (0, c)] h Q = Q (b2 ((2 ≤ k ∧ k ≤ 20) ∧ 0 ≤ c ∧ c ≤ 20)) h := by
  rw [u_X10_areOdds, e_m_in, b2_if, e_m_in, b2_if]
  unfold b2
  repeat' split
  all_goals first | rfl | (exfalso; omega)
/-- a finding is noted -/
def fnd (h : Hp) (f : Int) : Hp := hst (hst h 0 13 f) 49 f (w32 (h 49 f + 1))
theorem e_refuse {n : Int} {d : Nat} {Q : Int → Hp → Prop} {h : Hp} {f : Int} (h1 : 1 ≤ f) (h2 : f ≤ 5) : wpS (EF n) (d + 1) mX9_refuse [(2, 0), (0, f)] h Q = Q (-3) (fnd h f) := by
  rw [u_X9_refuse, and_tl (by omega), and_tl (by omega)]
  rfl
def mfnd (h : Hp) (f : Int) : Hp := hst (hst h 50 0 f) 51 f (w32 (h 51 f + 1))
theorem e_meets {E : PvEnv} (hE : ∀ k, E 50 k = refT 50 k) {d : Nat} {Q : Int → Hp → Prop} {h : Hp} {f : Int} (h1 : 1 ≤ f) (h2 : f ≤ 5) : wpS E (d + 1) mX10_meets [(2, 50), (0, f)] h Q = Q (-3) (mfnd h f) := by
  rw [u_X10_meets hE, and_tl (by omega), and_tl (by omega)]
  rfl
/-! Shelf: rows (1: 2, 3) and texts (4: 5, 6) -/
def SzOK (N : Int) (s : Int → Int) : Prop := ∀ r : Int, 0 ≤ r → r < N → -1 ≤ s r ∧ s r ≤ 40
theorem e_isNumber_a {n : Int} {d : Nat} {Q : Int → Hp → Prop} {h : Hp} {r : Int} : wpS (EF n) (d + 1) mX7_isNumber [(2, 1), (0, r)] h Q = Q (b2 (0 ≤ r ∧ r < 6)) h := by
  rw [u_X7_isNumber_a]
  unfold b2
  repeat' split
  all_goals first | rfl | (exfalso; omega)
theorem e_isThere_a {n : Int} {d : Nat} {Q : Int → Hp → Prop} {h : Hp} {r : Int} : wpS (EF n) (d + 2) mX7_isThere [(2, 1), (0, r)] h Q = Q (b2 ((0 ≤ r ∧ r < 6) ∧ 0 ≤ h 2 r)) h := by
  rw [u_X7_isThere_a, e_isNumber_a, b2_if]
  by_cases hr : 0 ≤ r ∧ r < 6
  · rw [if_pos hr, and_tl hr]
    unfold b2
    repeat' split
    all_goals first | rfl | (exfalso; omega)
  · rw [if_neg hr, b2_f (fun z => hr z.1)]
theorem e_sizeOf_a {n : Int} {d : Nat} {Q : Int → Hp → Prop} {h : Hp} {r : Int} : wpS (EF n) (d + 2) mX7_sizeOf [(2, 1), (0, r)] h Q = Q (if 0 ≤ r ∧ r < 6 then h 2 r else -1) h := by
  rw [u_X7_sizeOf_a, e_isNumber_a, b2_if]
  by_cases hr : 0 ≤ r ∧ r < 6
  · rw [if_pos hr, and_tl hr, if_pos hr]
  · rw [if_neg hr, if_neg hr]
theorem e_hasPlaces_a {n : Int} {d : Nat} {Q : Int → Hp → Prop} {h : Hp} {r i m : Int} (hs : SzOK 6 (h 2)) (hi : in32 i) : wpS (EF n) (d + 3) mX7_hasPlaces [(2, 1), (0, r), (0, i), (0, m)] h Q = Q (b2 ((0 ≤ r ∧ r < 6) ∧ 0 ≤ h 2 r ∧ 0 ≤ i ∧ 0 ≤ m ∧ i + m ≤ h 2 r)) h := by
  rw [u_X7_hasPlaces_a, e_isThere_a, b2_if]
  by_cases hr : (0 ≤ r ∧ r < 6) ∧ 0 ≤ h 2 r
  · rw [if_pos hr, and_tl hr.1]
    have h1 := hs r hr.1.1 hr.1.2
    unfold in32 at hi
    by_cases h2 : i < 0
    · rw [if_pos h2, b2_f (by omega)]
    · rw [if_neg h2]
      by_cases h3 : m < 0
      · rw [if_pos h3, b2_f (by omega)]
      · rw [if_neg h3, w32_of (by omega) (by omega)]
        by_cases h4 : h 2 r - i < m
        · rw [if_pos h4, b2_f (by omega)]
        · rw [if_neg h4, b2_t (by omega)]
  · rw [if_neg hr, b2_f (by omega)]
theorem ix_a {r i : Int} (h1 : 0 ≤ r) (h2 : r < 6) (h3 : 0 ≤ i) (h4 : i ≤ 40) : w32 (w32 (r * 40) + i) = 40 * r + i := by
  rw [w32_of (x := r * 40) (by omega) (by omega), w32_of (by omega) (by omega)]
  omega
theorem e_get_a {n : Int} {d : Nat} {Q : Int → Hp → Prop} {h : Hp} {r i : Int} (hs : SzOK 6 (h 2)) (hi : in32 i) : wpS (EF n) (d + 4) mX7_get [(2, 1), (0, r), (0, i)] h Q = Q (if (0 ≤ r ∧ r < 6) ∧ 0 ≤ i ∧ i < h 2 r then h 3 (40 * r + i) else 0) h := by
  rw [u_X7_get_a, e_hasPlaces_a hs hi, b2_if]
  by_cases hr : (0 ≤ r ∧ r < 6) ∧ 0 ≤ i ∧ i < h 2 r
  · have h1 := hs r hr.1.1 hr.1.2
    rw [if_pos (by omega), if_pos hr, ix_a hr.1.1 hr.1.2 hr.2.1 (by omega), and_tl (by omega)]
  · rw [if_neg (by omega), if_neg hr]
theorem e_swap_a {n : Int} {d : Nat} {Q : Int → Hp → Prop} {h : Hp} {r i v : Int} (hs : SzOK 6 (h 2)) (hr : (0 ≤ r ∧ r < 6) ∧ 0 ≤ i ∧ i < h 2 r) : wpS (EF n) (d + 4) mX7_swap [(2, 1), (0, r), (0, i), (0, v)] h Q = Q (h 3 (40 * r + i)) (hst h 3 (40 * r + i) v) := by
  have h1 := hs r hr.1.1 hr.1.2
  rw [u_X7_swap_a, e_hasPlaces_a hs (by unfold in32; omega), b2_if]
  rw [if_pos (by omega), ix_a hr.1.1 hr.1.2 hr.2.1 (by omega), and_tl (by omega), and_tl (by omega)]
theorem e_remove_a {n : Int} {d : Nat} {Q : Int → Hp → Prop} {h : Hp} {r : Int} (hr : 0 ≤ r ∧ r < 6) : wpS (EF n) (d + 2) mX7_remove [(2, 1), (0, r)] h Q = Q 0 (hst h 2 r (-1)) := by
  rw [u_X7_remove_a, e_isNumber_a, b2_if, if_pos hr, and_tl hr]
theorem e_bring_a {n : Int} {d : Nat} {Q : Int → Hp → Prop} {h : Hp} {r i t j m : Int} (hs : SzOK 6 (h 2)) (h1 : (0 ≤ r ∧ r < 6) ∧ 0 ≤ h 2 r ∧ 0 ≤ i ∧ 0 ≤ m ∧ i + m ≤ h 2 r) (h2 : (0 ≤ t ∧ t < 6) ∧ 0 ≤ h 2 t ∧ 0 ≤ j ∧ 0 ≤ m ∧ j + m ≤ h 2 t) : wpS (EF n) (d + 4) mX7_bring [(2, 1), (0, r), (0, i), (0, t), (0, j), (0, m)] h Q = Q 0 (hcpy h 3 (40 * r + i) 3 (40 * t + j) m) := by
  have q1 := hs r h1.1.1 h1.1.2
  have q2 := hs t h2.1.1 h2.1.2
  rw [u_X7_bring_a, e_hasPlaces_a hs (by unfold in32; omega), b2_if, if_pos h1, e_hasPlaces_a hs (by unfold in32; omega), b2_if, if_pos h2, ix_a h1.1.1 h1.1.2 h1.2.2.1 (by omega), ix_a h2.1.1 h2.1.2 h2.2.2.1 (by omega), and_tl (by omega)]
/-- r places of a row from its first on are v -/
def shf (f : Int → Int) (r m v : Int) : Int → Int := fun j => if 40 * r ≤ j ∧ j < 40 * r + m then v else f j
theorem e_make_a {n : Int} {d : Nat} {Q : Int → Hp → Prop} {h : Hp} {r m v : Int} (hr : 0 ≤ r ∧ r < 6) (hm : 0 ≤ m ∧ m ≤ 40) : wpS (EF n) (d + 2) mX7_make [(2, 1), (0, r), (0, m), (0, v)] h Q = Q 0 (hrow (hst h 2 r m) 3 (shf (h 3) r m v)) := by
  rw [u_X7_make_a, e_isNumber_a, b2_if, if_pos hr, if_neg (by omega), if_neg (by omega), and_tl hr]
  have key := loop_n (P := fun k => Ws (EF n) (d + 1) mX7_make Q 29 [(2, 1), (0, r), (0, m), (0, v), (0, (k : Int))] [] (hrow (hst h 2 r m) 3 (shf (h 3) r k v))) m.toNat (fun k hk => by
    rw [b_X7_make_a_29, if_pos (by omega), ix_a hr.1 hr.2 (by omega) (by omega), and_tl (by omega), w32_n1 (by omega), hst_rr]
    congr 2
    funext j
    unfold up shf
    repeat' split
    all_goals first | rfl | (exfalso; omega))
  have e0 : hrow (hst h 2 r m) 3 (shf (h 3) r ((0 : Nat) : Int) v) = hst h 2 r m := by
    have : shf (h 3) r ((0 : Nat) : Int) v = hst h 2 r m 3 := by
      funext j
      unfold shf
      rw [if_neg (by omega), hst_off h (by decide)]
    rw [this, hrow_self]
  rw [e0] at key
  have hc : ((m.toNat : Nat) : Int) = m := by omega
  rw [hc] at key
  refine key.trans ?_
  rw [b_X7_make_a_29, if_neg (by omega)]
theorem e_howMany_a {n : Int} {d : Nat} {Q : Int → Hp → Prop} {h : Hp} : wpS (EF n) (d + 1) mX7_howMany [(2, 1)] h Q = Q (cnt (fun r => 0 ≤ h 2 r) 6) h := by
  rw [u_X7_howMany_a]
  refine (loop_n (P := fun k => Ws (EF n) d mX7_howMany Q 4 [(2, 1), (0, cnt (fun r => 0 ≤ h 2 r) k), (0, (k : Int))] [] h) 6 (fun k hk => ?_)).trans ?_
  · have hb := cnt_b (fun r => 0 ≤ h 2 r) k
    rw [b_X7_howMany_a_4, if_pos (by omega), and_tl (by omega), w32_n1 (by omega)]
    by_cases z : h 2 (k : Int) < 0
    · rw [if_pos z, cnt_f (by omega)]
    · rw [if_neg z, cnt_t (by omega), w32_of (by omega) (by omega)]
  · rw [b_X7_howMany_a_4, if_neg (by decide)]
theorem e_isNumber_b {n : Int} {d : Nat} {Q : Int → Hp → Prop} {h : Hp} {r : Int} : wpS (EF n) (d + 1) mX7_isNumber [(2, 4), (0, r)] h Q = Q (b2 (0 ≤ r ∧ r < 4)) h := by
  rw [u_X7_isNumber_b]
  unfold b2
  repeat' split
  all_goals first | rfl | (exfalso; omega)
theorem e_isThere_b {n : Int} {d : Nat} {Q : Int → Hp → Prop} {h : Hp} {r : Int} : wpS (EF n) (d + 2) mX7_isThere [(2, 4), (0, r)] h Q = Q (b2 ((0 ≤ r ∧ r < 4) ∧ 0 ≤ h 5 r)) h := by
  rw [u_X7_isThere_b, e_isNumber_b, b2_if]
  by_cases hr : 0 ≤ r ∧ r < 4
  · rw [if_pos hr, and_tl hr]
    unfold b2
    repeat' split
    all_goals first | rfl | (exfalso; omega)
  · rw [if_neg hr, b2_f (fun z => hr z.1)]
theorem e_sizeOf_b {n : Int} {d : Nat} {Q : Int → Hp → Prop} {h : Hp} {r : Int} : wpS (EF n) (d + 2) mX7_sizeOf [(2, 4), (0, r)] h Q = Q (if 0 ≤ r ∧ r < 4 then h 5 r else -1) h := by
  rw [u_X7_sizeOf_b, e_isNumber_b, b2_if]
  by_cases hr : 0 ≤ r ∧ r < 4
  · rw [if_pos hr, and_tl hr, if_pos hr]
  · rw [if_neg hr, if_neg hr]
theorem e_hasPlaces_b {n : Int} {d : Nat} {Q : Int → Hp → Prop} {h : Hp} {r i m : Int} (hs : SzOK 4 (h 5)) (hi : in32 i) : wpS (EF n) (d + 3) mX7_hasPlaces [(2, 4), (0, r), (0, i), (0, m)] h Q = Q (b2 ((0 ≤ r ∧ r < 4) ∧ 0 ≤ h 5 r ∧ 0 ≤ i ∧ 0 ≤ m ∧ i + m ≤ h 5 r)) h := by
  rw [u_X7_hasPlaces_b, e_isThere_b, b2_if]
  by_cases hr : (0 ≤ r ∧ r < 4) ∧ 0 ≤ h 5 r
  · rw [if_pos hr, and_tl hr.1]
    have h1 := hs r hr.1.1 hr.1.2
    unfold in32 at hi
    by_cases h2 : i < 0
    · rw [if_pos h2, b2_f (by omega)]
    · rw [if_neg h2]
      by_cases h3 : m < 0
      · rw [if_pos h3, b2_f (by omega)]
      · rw [if_neg h3, w32_of (by omega) (by omega)]
        by_cases h4 : h 5 r - i < m
        · rw [if_pos h4, b2_f (by omega)]
        · rw [if_neg h4, b2_t (by omega)]
  · rw [if_neg hr, b2_f (by omega)]
theorem ix_b {r i : Int} (h1 : 0 ≤ r) (h2 : r < 4) (h3 : 0 ≤ i) (h4 : i ≤ 40) : w32 (w32 (r * 40) + i) = 40 * r + i := by
  rw [w32_of (x := r * 40) (by omega) (by omega), w32_of (by omega) (by omega)]
  omega
theorem e_get_b {n : Int} {d : Nat} {Q : Int → Hp → Prop} {h : Hp} {r i : Int} (hs : SzOK 4 (h 5)) (hi : in32 i) : wpS (EF n) (d + 4) mX7_get [(2, 4), (0, r), (0, i)] h Q = Q (if (0 ≤ r ∧ r < 4) ∧ 0 ≤ i ∧ i < h 5 r then h 6 (40 * r + i) else 0) h := by
  rw [u_X7_get_b, e_hasPlaces_b hs hi, b2_if]
  by_cases hr : (0 ≤ r ∧ r < 4) ∧ 0 ≤ i ∧ i < h 5 r
  · have h1 := hs r hr.1.1 hr.1.2
    rw [if_pos (by omega), if_pos hr, ix_b hr.1.1 hr.1.2 hr.2.1 (by omega), and_tl (by omega)]
  · rw [if_neg (by omega), if_neg hr]
theorem e_swap_b {n : Int} {d : Nat} {Q : Int → Hp → Prop} {h : Hp} {r i v : Int} (hs : SzOK 4 (h 5)) (hr : (0 ≤ r ∧ r < 4) ∧ 0 ≤ i ∧ i < h 5 r) : wpS (EF n) (d + 4) mX7_swap [(2, 4), (0, r), (0, i), (0, v)] h Q = Q (h 6 (40 * r + i)) (hst h 6 (40 * r + i) v) := by
  have h1 := hs r hr.1.1 hr.1.2
  rw [u_X7_swap_b, e_hasPlaces_b hs (by unfold in32; omega), b2_if]
  rw [if_pos (by omega), ix_b hr.1.1 hr.1.2 hr.2.1 (by omega), and_tl (by omega), and_tl (by omega)]
theorem e_remove_b {n : Int} {d : Nat} {Q : Int → Hp → Prop} {h : Hp} {r : Int} (hr : 0 ≤ r ∧ r < 4) : wpS (EF n) (d + 2) mX7_remove [(2, 4), (0, r)] h Q = Q 0 (hst h 5 r (-1)) := by
  rw [u_X7_remove_b, e_isNumber_b, b2_if, if_pos hr, and_tl hr]
theorem e_bring_b {n : Int} {d : Nat} {Q : Int → Hp → Prop} {h : Hp} {r i t j m : Int} (hs : SzOK 4 (h 5)) (h1 : (0 ≤ r ∧ r < 4) ∧ 0 ≤ h 5 r ∧ 0 ≤ i ∧ 0 ≤ m ∧ i + m ≤ h 5 r) (h2 : (0 ≤ t ∧ t < 4) ∧ 0 ≤ h 5 t ∧ 0 ≤ j ∧ 0 ≤ m ∧ j + m ≤ h 5 t) : wpS (EF n) (d + 4) mX7_bring [(2, 4), (0, r), (0, i), (0, t), (0, j), (0, m)] h Q = Q 0 (hcpy h 6 (40 * r + i) 6 (40 * t + j) m) := by
  have q1 := hs r h1.1.1 h1.1.2
  have q2 := hs t h2.1.1 h2.1.2
  rw [u_X7_bring_b, e_hasPlaces_b hs (by unfold in32; omega), b2_if, if_pos h1, e_hasPlaces_b hs (by unfold in32; omega), b2_if, if_pos h2, ix_b h1.1.1 h1.1.2 h1.2.2.1 (by omega), ix_b h2.1.1 h2.1.2 h2.2.2.1 (by omega), and_tl (by omega)]
theorem e_make_b {n : Int} {d : Nat} {Q : Int → Hp → Prop} {h : Hp} {r m v : Int} (hr : 0 ≤ r ∧ r < 4) (hm : 0 ≤ m ∧ m ≤ 40) : wpS (EF n) (d + 2) mX7_make [(2, 4), (0, r), (0, m), (0, v)] h Q = Q 0 (hrow (hst h 5 r m) 6 (shf (h 6) r m v)) := by
  rw [u_X7_make_b, e_isNumber_b, b2_if, if_pos hr, if_neg (by omega), if_neg (by omega), and_tl hr]
  have key := loop_n (P := fun k => Ws (EF n) (d + 1) mX7_make Q 29 [(2, 4), (0, r), (0, m), (0, v), (0, (k : Int))] [] (hrow (hst h 5 r m) 6 (shf (h 6) r k v))) m.toNat (fun k hk => by
    rw [b_X7_make_b_29, if_pos (by omega), ix_b hr.1 hr.2 (by omega) (by omega), and_tl (by omega), w32_n1 (by omega), hst_rr]
    congr 2
    funext j
    unfold up shf
    repeat' split
    all_goals first | rfl | (exfalso; omega))
  have e0 : hrow (hst h 5 r m) 6 (shf (h 6) r ((0 : Nat) : Int) v) = hst h 5 r m := by
    have : shf (h 6) r ((0 : Nat) : Int) v = hst h 5 r m 6 := by
      funext j
      unfold shf
      rw [if_neg (by omega), hst_off h (by decide)]
    rw [this, hrow_self]
  rw [e0] at key
  have hc : ((m.toNat : Nat) : Int) = m := by omega
  rw [hc] at key
  refine key.trans ?_
  rw [b_X7_make_b_29, if_neg (by omega)]
theorem e_howMany_b {n : Int} {d : Nat} {Q : Int → Hp → Prop} {h : Hp} : wpS (EF n) (d + 1) mX7_howMany [(2, 4)] h Q = Q (cnt (fun r => 0 ≤ h 5 r) 4) h := by
  rw [u_X7_howMany_b]
  refine (loop_n (P := fun k => Ws (EF n) d mX7_howMany Q 4 [(2, 4), (0, cnt (fun r => 0 ≤ h 5 r) k), (0, (k : Int))] [] h) 4 (fun k hk => ?_)).trans ?_
  · have hb := cnt_b (fun r => 0 ≤ h 5 r) k
    rw [b_X7_howMany_b_4, if_pos (by omega), and_tl (by omega), w32_n1 (by omega)]
    by_cases z : h 5 (k : Int) < 0
    · rw [if_pos z, cnt_f (by omega)]
    · rw [if_neg z, cnt_t (by omega), w32_of (by omega) (by omega)]
  · rw [b_X7_howMany_b_4, if_neg (by decide)]
