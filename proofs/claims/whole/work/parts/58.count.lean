/-! counting: machines and cells -/
theorem count_loop {P : Int → Int → Prop} (p : Int → Prop) [DecidablePred p] (N : Nat) (hs : ∀ (k : Nat) (a : Int), k < N → 0 ≤ a → a ≤ k → P a k = if p k then P (a + 1) ((k + 1 : Nat) : Int) else P a ((k + 1 : Nat) : Int)) : P 0 0 = P (cnt p N) N := by
  have l := loop_n (P := fun k => P (cnt p k) k) N (fun k hk => by
    have b := cnt_b p k
    rw [hs k (cnt p k) hk b.1 b.2]
    by_cases z : p k
    · rw [if_pos z, cnt_t z]
    · rw [if_neg z, cnt_f z])
  exact l
theorem sum_loop {P : Int → Int → Prop} (f : Int → Int) (N : Nat) {lo hi : Int} (hb : ∀ j : Nat, j < N → lo ≤ f j ∧ f j ≤ hi) (hs : ∀ (k : Nat) (a : Int), k < N → (k : Int) * lo ≤ a → a ≤ (k : Int) * hi → P a k = P (a + f k) ((k + 1 : Nat) : Int)) : P 0 0 = P (sm f N) N := by
  have l := loop_n (P := fun k => P (sm f k) k) N (fun k hk => by
    have b := sm_b (f := f) k (fun j hj => hb j (by omega))
    rw [hs k (sm f k) hk b.1 b.2]
    rfl)
  exact l
theorem w32_1 {a : Int} (h1 : -2147483648 ≤ a + 1) (h2 : a + 1 < 2147483648) : w32 (a + 1) = a + 1 := w32_of h1 h2
theorem e_isSpare {n : Int} {d : Nat} {Q : Int → Hp → Prop} {h : Hp} {m : Int} : wpS (EF n) (d + 2) mX0_isSpare [(2, 30), (0, m)] h Q = Q (b2 ((0 ≤ m ∧ m < 6) ∧ h 31 m = 4)) h := by
  rw [u_X0_isSpare, e_isMachine, b2_if]
  by_cases z : 0 ≤ m ∧ m < 6
  · rw [if_pos z, and_tl z]
    by_cases w : h 31 m = 4
    · rw [if_pos w, b2_t ⟨z, w⟩]
    · rw [if_neg w, b2_f (fun q => w q.2)]
  · rw [if_neg z, b2_f (fun q => z q.1)]
theorem e_sparesBelow {n : Int} {d : Nat} {Q : Int → Hp → Prop} {h : Hp} {m : Int} (hm : 0 ≤ m ∧ m ≤ 6) : wpS (EF n) (d + 3) mX0_sparesBelow [(2, 30), (0, m)] h Q = Q (cnt (fun k => h 31 k = 4) m.toNat) h := by
  have hN : ((m.toNat : Nat) : Int) = m := by omega
  rw [u_X0_sparesBelow]
  have l := count_loop (P := fun a k => Ws (EF n) (d + 2) mX0_sparesBelow Q 4 [(2, 30), (0, m), (0, a), (0, k)] [] h) (fun k => h 31 k = 4) m.toNat (by
    intro k a hk h0 h1
    show Ws (EF n) (d + 2) mX0_sparesBelow Q 4 [(2, 30), (0, m), (0, a), (0, (k : Int))] [] h = _
    rw [b_X0_sparesBelow_4, if_pos (by omega), if_pos (by omega), e_isSpare, b2_if, w32_n1 (by omega), w32_1 (by omega) (by omega)]
    by_cases z : h 31 (k : Int) = 4
    · rw [if_pos z, if_pos ⟨by omega, z⟩]
    · rw [if_neg z, if_neg (fun q => z q.2)])
  refine l.trans ?_
  show Ws (EF n) (d + 2) mX0_sparesBelow Q 4 [(2, 30), (0, m), (0, _), (0, _)] [] h = _
  rw [b_X0_sparesBelow_4, hN, if_neg (by omega)]
theorem e_cellsOf {n : Int} {d : Nat} {Q : Int → Hp → Prop} {h : Hp} {m : Int} : wpS (EF n) (d + 3) mX0_cellsOf [(2, 30), (2, 11), (0, m)] h Q = Q (cnt (fun c => h 12 c ≠ -1 ∧ h 14 c = m) 336) h := by
  rw [u_X0_cellsOf]
  have l := count_loop (P := fun a k => Ws (EF n) (d + 2) mX0_cellsOf Q 5 [(2, 30), (2, 11), (0, m), (0, a), (0, k)] [] h) (fun c => h 12 c ≠ -1 ∧ h 14 c = m) 336 (by
    intro k a hk h0 h1
    show Ws (EF n) (d + 2) mX0_cellsOf Q 5 [(2, 30), (2, 11), (0, m), (0, a), (0, (k : Int))] [] h = _
    rw [b_X0_cellsOf_5, if_pos (by omega), e_w_isThere (EF_11 n), b2_if, w32_n1 (by omega), w32_1 (by omega) (by omega)]
    by_cases z : h 12 (k : Int) = -1
    · rw [if_neg (fun q => q.2 z), if_neg (fun q => q.1 z)]
    · rw [if_pos (show (0 ≤ (k : Int) ∧ (k : Int) < 336) ∧ h 12 (k : Int) ≠ -1 from ⟨by omega, z⟩), and_tl (by omega)]
      by_cases w : h 14 (k : Int) = m
      · rw [if_pos w, if_pos ⟨z, w⟩]
      · rw [if_neg w, if_neg (fun q => w q.2)])
  refine l.trans ?_
  show Ws (EF n) (d + 2) mX0_cellsOf Q 5 [(2, 30), (2, 11), (0, m), (0, _), (0, ((336 : Nat) : Int))] [] h = _
  rw [b_X0_cellsOf_5, if_neg (by decide)]
theorem e_slowness {n : Int} {d : Nat} {Q : Int → Hp → Prop} {h : Hp} {m : Int} (hm : 0 ≤ m ∧ m < 6) : wpS (EF n) (d + 1) mX0_slowness [(2, 30), (0, m)] h Q = Q (if h 31 m = 1 then 2 else 1) h := by
  rw [u_X0_slowness, and_tl hm]
  split <;> rfl
theorem e_workFor {n : Int} {d : Nat} {Q : Int → Hp → Prop} {h : Hp} {c m : Int} (hc : isN c) (hm : 0 ≤ m ∧ m < 6) : wpS (EF n) (d + 2) mX0_workFor [(2, 30), (2, 11), (0, c), (0, m)] h Q = Q (if h 12 c = 4 then 0 else if h 31 m = 1 then 2 else 1) h := by
  rw [u_X0_workFor, and_tl (show 0 ≤ c ∧ c < 336 from hc), e_slowness hm]
  by_cases z : h 12 c = 4
  · rw [if_pos z, if_pos z]
  · rw [if_neg z, if_neg z]
/-- what machine m has to work -/
def wk (K G S : Int → Int) (m : Int) : Int := (if S m = 1 then 2 else 1) * cnt (fun c => (K c ≠ -1 ∧ G c = m) ∧ K c ≠ 4) 336
theorem wk_b (K G S : Int → Int) (m : Int) : 0 ≤ wk K G S m ∧ wk K G S m ≤ 672 := by
  unfold wk
  have := cnt_b (fun c => (K c ≠ -1 ∧ G c = m) ∧ K c ≠ 4) 336
  split <;> omega
theorem e_workOf {n : Int} {d : Nat} {Q : Int → Hp → Prop} {h : Hp} {m : Int} (hm : 0 ≤ m ∧ m < 6) : wpS (EF n) (d + 3) mX0_workOf [(2, 30), (2, 11), (0, m)] h Q = Q (wk (h 12) (h 14) (h 31) m) h := by
  rw [u_X0_workOf]
  unfold wk
  have e_wf : ∀ {c : Int} {Q : Int → Hp → Prop}, isN c → wpS (EF n) (d + 2) mX0_workFor [(2, 30), (2, 11), (0, c), (0, m)] h Q = Q (if h 12 c = 4 then 0 else if h 31 m = 1 then 2 else 1) h := fun hc => e_workFor hc hm
  have hsl : (if h 31 m = 1 then (2 : Int) else 1) = 1 ∨ (if h 31 m = 1 then (2 : Int) else 1) = 2 := by split <;> simp
  revert e_wf hsl
  generalize (if h 31 m = 1 then (2 : Int) else 1) = sl
  intro e_wf hsl
  have l := count_loop (P := fun a k => Ws (EF n) (d + 2) mX0_workOf Q 5 [(2, 30), (2, 11), (0, m), (0, sl * a), (0, k)] [] h) (fun c => (h 12 c ≠ -1 ∧ h 14 c = m) ∧ h 12 c ≠ 4) 336 (by
    intro k a hk h0 h1
    show Ws (EF n) (d + 2) mX0_workOf Q 5 [(2, 30), (2, 11), (0, m), (0, _), (0, (k : Int))] [] h = _
    have hb : 0 ≤ sl * a ∧ sl * a ≤ 2 * a := by rcases hsl with e | e <;> subst e <;> omega
    rw [b_X0_workOf_5, if_pos (by omega), e_w_isThere (EF_11 n), b2_if, w32_n1 (by omega)]
    by_cases z : h 12 (k : Int) = -1
    · rw [if_neg (fun q => q.2 z), if_neg (fun q => q.1.1 z)]
    · rw [if_pos (show (0 ≤ (k : Int) ∧ (k : Int) < 336) ∧ h 12 (k : Int) ≠ -1 from ⟨by omega, z⟩), and_tl (by omega)]
      by_cases w : h 14 (k : Int) = m
      · rw [if_pos w, e_wf (by omega)]
        by_cases v : h 12 (k : Int) = 4
        · rw [if_pos v, if_neg (fun q => q.2 v), w32_of (by omega) (by omega), Int.add_zero]
        · rw [if_neg v, if_pos ⟨⟨z, w⟩, v⟩, w32_of (by omega) (by omega), Int.mul_add, Int.mul_one]
      · rw [if_neg w, if_neg (fun q => w q.1.2)])
  rw [Int.mul_zero] at l
  refine l.trans ?_
  show Ws (EF n) (d + 2) mX0_workOf Q 5 [(2, 30), (2, 11), (0, m), (0, _), (0, ((336 : Nat) : Int))] [] h = _
  rw [b_X0_workOf_5, if_neg (by decide)]
theorem e_cellsThere {E : PvEnv} (hE : ∀ k, E 11 k = refT 11 k) {d : Nat} {Q : Int → Hp → Prop} {h : Hp} : wpS E (d + 1) mX8_cellsThere [(2, 11)] h Q = Q (cnt (fun c => h 12 c ≠ -1) 336) h := by
  rw [u_X8_cellsThere hE]
  have l := count_loop (P := fun a k => Ws E d mX8_cellsThere Q 4 [(2, 11), (0, a), (0, k)] [] h) (fun c => h 12 c ≠ -1) 336 (by
    intro k a hk h0 h1
    show Ws E d mX8_cellsThere Q 4 [(2, 11), (0, a), (0, (k : Int))] [] h = _
    rw [b_X8_cellsThere_4 hE, if_pos (by omega), and_tl (by omega), w32_n1 (by omega), w32_1 (by omega) (by omega)]
    by_cases z : h 12 (k : Int) = -1
    · rw [if_pos z, if_neg (fun q => q z)]
    · rw [if_neg z, if_pos z])
  refine l.trans ?_
  show Ws E d mX8_cellsThere Q 4 [(2, 11), (0, _), (0, ((336 : Nat) : Int))] [] h = _
  rw [b_X8_cellsThere_4 hE, if_neg (by decide)]
theorem e_cellsOfKind {E : PvEnv} (hE : ∀ k, E 11 k = refT 11 k) {d : Nat} {Q : Int → Hp → Prop} {h : Hp} {q : Int} : wpS E (d + 1) mX8_cellsOfKind [(2, 11), (0, q)] h Q = Q (cnt (fun c => h 12 c = q) 336) h := by
  rw [u_X8_cellsOfKind hE]
  have l := count_loop (P := fun a k => Ws E d mX8_cellsOfKind Q 4 [(2, 11), (0, q), (0, a), (0, k)] [] h) (fun c => h 12 c = q) 336 (by
    intro k a hk h0 h1
    show Ws E d mX8_cellsOfKind Q 4 [(2, 11), (0, q), (0, a), (0, (k : Int))] [] h = _
    rw [b_X8_cellsOfKind_4 hE, if_pos (by omega), and_tl (by omega), w32_n1 (by omega), w32_1 (by omega) (by omega)])
  refine l.trans ?_
  show Ws E d mX8_cellsOfKind Q 4 [(2, 11), (0, q), (0, _), (0, ((336 : Nat) : Int))] [] h = _
  rw [b_X8_cellsOfKind_4 hE, if_neg (by decide)]
theorem e_sumOfAmounts {E : PvEnv} (hE : ∀ k, E 11 k = refT 11 k) {d : Nat} {Q : Int → Hp → Prop} {h : Hp} (ha : ∀ k : Int, 0 ≤ k → k < 336 → 0 ≤ h 13 k ∧ h 13 k ≤ 1000000) : wpS E (d + 3) mX8_sumOfAmounts [(2, 11)] h Q = Q (sAm (h 12) (h 13)) h := by
  rw [u_X8_sumOfAmounts hE]
  have l := sum_loop (P := fun a k => Ws E (d + 2) mX8_sumOfAmounts Q 4 [(2, 11), (1, a), (9, 0), (0, k)] [] h) (fun c => if h 12 c = -1 then 0 else h 13 c) 336 (lo := 0) (hi := 1000000) (by
    intro j hj
    have := ha j (by omega) (by omega)
    split <;> omega) (by
    intro k a hk h0 h1
    show Ws E (d + 2) mX8_sumOfAmounts Q 4 [(2, 11), (1, a), (9, 0), (0, (k : Int))] [] h = _
    have := ha k (by omega) (by omega)
    rw [b_X8_sumOfAmounts_4 hE, if_pos (by omega), e_w_isThere hE, b2_if, w32_n1 (by omega)]
    by_cases z : h 12 (k : Int) = -1
    · rw [if_neg (fun q => q.2 z), if_pos z, Int.add_zero]
    · rw [if_pos (show (0 ≤ (k : Int) ∧ (k : Int) < 336) ∧ h 12 (k : Int) ≠ -1 from ⟨by omega, z⟩), and_tl (by omega), w64_of (by omega) (by omega), if_neg z])
  refine l.trans ?_
  show Ws E (d + 2) mX8_sumOfAmounts Q 4 [(2, 11), (1, _), (9, 0), (0, ((336 : Nat) : Int))] [] h = _
  rw [b_X8_sumOfAmounts_4 hE, if_neg (by decide)]
  rfl
theorem mul_336 {a k : Int} (ha : 0 ≤ a ∧ a ≤ 1000000) (hk : 0 ≤ k ∧ k ≤ 336) : 0 ≤ a * k ∧ a * k ≤ 336000000 := by
  refine ⟨Int.mul_nonneg ha.1 hk.1, ?_⟩
  have h1 := Int.mul_le_mul_of_nonneg_left hk.2 ha.1
  omega
theorem e_sumByNames {E : PvEnv} (hE : ∀ k, E 11 k = refT 11 k) {d : Nat} {Q : Int → Hp → Prop} {h : Hp} (ha : ∀ k : Int, 0 ≤ k → k < 336 → 0 ≤ h 13 k ∧ h 13 k ≤ 1000000) : wpS E (d + 3) mX8_sumByNames [(2, 11)] h Q = Q (sNm (h 12) (h 13)) h := by
  rw [u_X8_sumByNames hE]
  have l := sum_loop (P := fun a k => Ws E (d + 2) mX8_sumByNames Q 4 [(2, 11), (1, a), (9, 0), (0, k)] [] h) (fun c => if h 12 c = -1 then 0 else h 13 c * (c + 1)) 336 (lo := 0) (hi := 336000000) (by
    intro j hj
    have := mul_336 (k := (j : Int) + 1) (ha j (by omega) (by omega)) (by omega)
    split <;> omega) (by
    intro k a hk h0 h1
    show Ws E (d + 2) mX8_sumByNames Q 4 [(2, 11), (1, a), (9, 0), (0, (k : Int))] [] h = _
    have := mul_336 (k := (k : Int) + 1) (ha k (by omega) (by omega)) (by omega)
    rw [b_X8_sumByNames_4 hE, if_pos (by omega), e_w_isThere hE, b2_if, w32_of (x := (k : Int) + 1) (by omega) (by omega)]
    by_cases z : h 12 (k : Int) = -1
    · rw [if_neg (fun q => q.2 z), if_pos z, Int.add_zero]
      rfl
    · rw [if_pos (show (0 ≤ (k : Int) ∧ (k : Int) < 336) ∧ h 12 (k : Int) ≠ -1 from ⟨by omega, z⟩), and_tl (by omega), w64_of (x := h 13 (k : Int) * _) (by omega) (by omega), w64_of (by omega) (by omega), if_neg z]
      rfl)
  refine l.trans ?_
  show Ws E (d + 2) mX8_sumByNames Q 4 [(2, 11), (1, _), (9, 0), (0, ((336 : Nat) : Int))] [] h = _
  rw [b_X8_sumByNames_4 hE, if_neg (by decide)]
  rfl
/-- the reference -/
theorem e_m_cellsOf {E : PvEnv} (hE : ∀ k, E 50 k = refT 50 k) {d : Nat} {Q : Int → Hp → Prop} {h : Hp} {m : Int} : wpS E (d + 1) mX10_cellsOf [(2, 50), (0, m)] h Q = Q (cnt (fun c => h 57 c ≠ 0 ∧ h 60 c = m) 336) h := by
  rw [u_X10_cellsOf hE]
  have l := count_loop (P := fun a k => Ws E d mX10_cellsOf Q 4 [(2, 50), (0, m), (0, a), (0, k)] [] h) (fun c => h 57 c ≠ 0 ∧ h 60 c = m) 336 (by
    intro k a hk h0 h1
    show Ws E d mX10_cellsOf Q 4 [(2, 50), (0, m), (0, a), (0, (k : Int))] [] h = _
    have r36 : ∀ v : Int, (v = 0 ∨ v = 1) → Ws E d mX10_cellsOf Q 36 [(2, 50), (0, m), (0, a), (0, (k : Int))] [(0, v), (0, a)] h = Ws E d mX10_cellsOf Q 4 [(2, 50), (0, m), (0, a + v), (0, ((k + 1 : Nat) : Int))] [] h := by
      intro v hv
      rw [b_X10_cellsOf_36 hE, w32_of (x := a + v) (by omega) (by omega), w32_n1 (by omega)]
    rw [b_X10_cellsOf_4 hE, if_pos (by omega), and_tl (by omega), and_tl (by omega), b_X10_cellsOf_35 hE, r36 0 (Or.inl rfl), r36 1 (Or.inr rfl), Int.add_zero]
    by_cases z : h 57 (k : Int) = 0
    · rw [if_pos z, if_neg (fun q => q.1 z)]
    · rw [if_neg z]
      by_cases w : h 60 (k : Int) = m
      · rw [if_pos w, if_pos ⟨z, w⟩]
      · rw [if_neg w, if_neg (fun q => w q.2)])
  refine l.trans ?_
  show Ws E d mX10_cellsOf Q 4 [(2, 50), (0, m), (0, _), (0, ((336 : Nat) : Int))] [] h = _
  rw [b_X10_cellsOf_4 hE, if_neg (by decide)]
theorem e_m_weighs {E : PvEnv} (hE : ∀ k, E 50 k = refT 50 k) {d : Nat} {Q : Int → Hp → Prop} {h : Hp} {c : Int} (hc : 0 ≤ c ∧ c < 336) : wpS E (d + 1) mX10_weighs [(2, 50), (0, c)] h Q = Q (if h 59 c = 4 then 0 else 1) h := by
  rw [u_X10_weighs hE, and_tl hc]
  split <;> rfl
theorem e_m_workOf {E : PvEnv} (hE : ∀ k, E 50 k = refT 50 k) {d : Nat} {Q : Int → Hp → Prop} {h : Hp} {m : Int} (hm : 0 ≤ m ∧ m < 6) : wpS E (d + 2) mX10_workOf [(2, 50), (0, m)] h Q = Q ((if h 74 m = 1 then 2 else 1) * cnt (fun c => (h 57 c ≠ 0 ∧ h 60 c = m) ∧ h 59 c ≠ 4) 336) h := by
  rw [u_X10_workOf hE]
  have l := count_loop (P := fun a k => Ws E (d + 1) mX10_workOf Q 4 [(2, 50), (0, m), (0, a), (0, k)] [] h) (fun c => (h 57 c ≠ 0 ∧ h 60 c = m) ∧ h 59 c ≠ 4) 336 (by
    intro k a hk h0 h1
    show Ws E (d + 1) mX10_workOf Q 4 [(2, 50), (0, m), (0, a), (0, (k : Int))] [] h = _
    have r40 : ∀ v : Int, (v = 0 ∨ v = 1) → Ws E (d + 1) mX10_workOf Q 40 [(2, 50), (0, m), (0, a), (0, (k : Int))] [(0, v), (0, a)] h = Ws E (d + 1) mX10_workOf Q 4 [(2, 50), (0, m), (0, a + v), (0, ((k + 1 : Nat) : Int))] [] h := by
      intro v hv
      rw [b_X10_workOf_40 hE, w32_of (x := a + v) (by omega) (by omega), w32_n1 (by omega)]
    rw [b_X10_workOf_4 hE, if_pos (by omega), and_tl (by omega), and_tl (by omega), b_X10_workOf_39 hE, r40 0 (Or.inl rfl), Int.add_zero, e_m_weighs hE (by omega)]
    by_cases z : h 57 (k : Int) = 0
    · rw [if_pos z, if_neg (fun q => q.1.1 z)]
    · rw [if_neg z]
      by_cases w : h 60 (k : Int) = m
      · rw [if_pos w]
        by_cases v : h 59 (k : Int) = 4
        · rw [if_pos v, if_neg (fun q => q.2 v), r40 0 (Or.inl rfl), Int.add_zero]
        · rw [if_neg v, if_pos ⟨⟨z, w⟩, v⟩, r40 1 (Or.inr rfl)]
      · rw [if_neg w, if_neg (fun q => w q.1.2)])
  refine l.trans ?_
  show Ws E (d + 1) mX10_workOf Q 4 [(2, 50), (0, m), (0, _), (0, ((336 : Nat) : Int))] [] h = _
  have b := cnt_b (fun c => (h 57 c ≠ 0 ∧ h 60 c = m) ∧ h 59 c ≠ 4) 336
  rw [b_X10_workOf_4 hE, if_neg (by decide), and_tl hm]
  by_cases z : h 74 m = 1
  · rw [if_pos z, if_pos z, w32_of (by omega) (by omega)]
  · rw [if_neg z, if_neg z, Int.one_mul]
