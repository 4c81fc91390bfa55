/-! keeping, best: fractions -/
theorem lc_eq {a b : Int} {A B : Prop} : (if lcmpI a b = 0 then A else B) = if a = b then A else B := by
  by_cases z : a = b
  · have e : lcmpI a b = 0 := by
      unfold lcmpI
      rw [if_neg (by omega), if_pos z]
    rw [if_pos e, if_pos z]
  · have e : lcmpI a b ≠ 0 := by
      unfold lcmpI
      rw [if_neg z]
      split <;> decide
    rw [if_neg e, if_neg z]
theorem lc_lt {a b : Int} {A B : Prop} : (if lcmpI a b < 0 then A else B) = if a < b then A else B := by
  unfold lcmpI
  by_cases w : a > b
  · rw [if_pos w, if_neg (by decide), if_neg (by omega)]
  · rw [if_neg w]
    by_cases z : a = b
    · rw [if_pos z, if_neg (by decide), if_neg (by omega)]
    · rw [if_neg z, if_pos (by decide), if_pos (by omega)]
def pwr (b : Int) : Nat → Int
  | 0 => 1
  | k + 1 => w64 (pwr b k * b)
theorem e_power {E : PvEnv} {d : Nat} {Q : Int → Hp → Prop} {h : Hp} {b k : Int} (hk : k < 1000) : wpS E (d + 1) mX9_power [(1, b), (0, k)] h Q = Q (pwr b k.toNat) h := by
  rw [u_X9_power]
  have l := loop_n (P := fun j => Ws E d mX9_power Q 5 [(1, b), (9, 0), (0, k), (1, pwr b j), (9, 0), (0, (j : Int))] [] h) k.toNat (by
    intro j hj
    rw [b_X9_power_5, if_pos (by omega), w32_n1 (by omega)]
    rfl)
  refine l.trans ?_
  show Ws E d mX9_power Q 5 [(1, b), (9, 0), (0, k), (1, _), (9, 0), (0, _)] [] h = _
  rw [b_X9_power_5, if_neg (by omega)]
theorem e_m_power {E : PvEnv} {d : Nat} {Q : Int → Hp → Prop} {h : Hp} {b k : Int} (hk : k < 1000) : wpS E (d + 1) mX10_power [(1, b), (0, k)] h Q = Q (pwr b k.toNat) h := by
  rw [u_X10_power]
  have l := loop_n (P := fun j => Ws E d mX10_power Q 5 [(1, b), (9, 0), (0, k), (1, pwr b j), (9, 0), (0, (j : Int))] [] h) k.toNat (by
    intro j hj
    rw [b_X10_power_5, if_pos (by omega), w32_n1 (by omega)]
    rfl)
  refine l.trans ?_
  show Ws E d mX10_power Q 5 [(1, b), (9, 0), (0, k), (1, _), (9, 0), (0, _)] [] h = _
  rw [b_X10_power_5, if_neg (by omega)]
/-- Euclid's steps -/
def eug : Nat → Int → Int → Int
  | 0, a, _ => a
  | k + 1, a, b => if b = 0 then a else eug k b (a % b)
def euT : Nat → Int → Int → Prop
  | 0, _, b => b = 0
  | k + 1, a, b => b = 0 ∨ euT k b (a % b)
theorem euT_of : ∀ (k n : Nat) (a b : Int), 0 ≤ b → b < 2 ^ k → 2 * k ≤ n → euT n a b
  | 0, n, a, b, h0, h1, _ => by
    have e : b = 0 := by
      have : (2 : Int) ^ 0 = 1 := rfl
      omega
    cases n with
    | zero => exact e
    | succ n => exact Or.inl e
  | k + 1, n, a, b, h0, h1, hn => by
    obtain ⟨m, rfl⟩ : ∃ m, n = m + 1 + 1 := ⟨n - 2, by omega⟩
    by_cases z : b = 0
    · exact Or.inl z
    · refine Or.inr ?_
      have r0 := Int.emod_nonneg a z
      have r1 := Int.emod_lt_of_pos a (show 0 < b by omega)
      by_cases y : a % b = 0
      · exact Or.inl y
      · refine Or.inr ?_
        have s0 := Int.emod_nonneg b y
        have s1 := Int.emod_lt_of_pos b (show 0 < a % b by omega)
        have s2 : b % (a % b) + (a % b) ≤ b := by
          have e := Int.emod_add_mul_ediv b (a % b)
          have q : 1 ≤ b / (a % b) := by
            rw [Int.le_ediv_iff_mul_le (by omega)]
            omega
          have := Int.mul_le_mul_of_nonneg_left q r0
          omega
        have e2 : (2 : Int) ^ (k + 1) = 2 ^ k * 2 := Int.pow_succ 2 k
        exact euT_of k m _ _ s0 (by omega) (by omega)
theorem eug_pos : ∀ (n : Nat) (a b : Int), 0 ≤ a → 0 ≤ b → (1 ≤ a ∨ 1 ≤ b) → euT n a b → 1 ≤ eug n a b
  | 0, a, b, h0, h1, h2, ht => by
    have ht : b = 0 := ht
    show 1 ≤ a
    omega
  | n + 1, a, b, h0, h1, h2, ht => by
    show 1 ≤ if b = 0 then a else eug n b (a % b)
    by_cases z : b = 0
    · rw [if_pos z]
      omega
    · rw [if_neg z]
      exact eug_pos n b (a % b) h1 (Int.emod_nonneg a z) (Or.inl (by omega)) (ht.resolve_left z)
def tlX (h : Hp) (u w : Int) : Hp := hst (hst h 48 0 (w64 (Int.tdiv u (eug 100 u w)))) 48 1 (w64 (Int.tdiv w (eug 100 u w)))
def tlM (h : Hp) (u w : Int) : Hp := hst (hst h 50 3 (w64 (Int.tdiv u (eug 100 u w)))) 50 4 (w64 (Int.tdiv w (eug 100 u w)))
def fOK (u w : Int) : Prop := 0 ≤ u ∧ 1 ≤ w ∧ w < 1099511627776
theorem fOK_T {u w : Int} (h : fOK u w) : euT 100 u w := euT_of 40 100 u w (by unfold fOK at h; omega) (by unfold fOK at h; have : (2 : Int) ^ 40 = 1099511627776 := rfl; omega) (by decide)
theorem e_tell {n : Int} {d : Nat} {Q : Int → Hp → Prop} {h : Hp} {u w : Int} (hf : fOK u w) : wpS (EF n) (d + 1) mX2_tell [(2, 48), (1, u), (1, w)] h Q = Q 0 (tlX h u w) := by
  have hg := eug_pos 100 u w hf.1 (by unfold fOK at hf; omega) (Or.inr hf.2.1) (fOK_T hf)
  rw [u_X2_tell]
  have key : ∀ (k : Nat) (i a b : Int) (v : PV), i + k = 100 → 0 ≤ i → 0 ≤ a → 0 ≤ b → ∃ (b' i' : Int) (v' : PV), Ws (EF n) d mX2_tell Q 9 [(2, 48), (1, u), (9, 0), (1, w), (9, 0), (1, a), (9, 0), (1, b), (9, 0), (0, i), v, (9, 0)] [] h = Ws (EF n) d mX2_tell Q 44 [(2, 48), (1, u), (9, 0), (1, w), (9, 0), (1, eug k a b), (9, 0), (1, b'), (9, 0), (0, i'), v', (9, 0)] [] h := by
    intro k
    induction k with
    | zero =>
      intro i a b v hi h0 ha hb
      refine ⟨b, i, v, ?_⟩
      rw [b_X2_tell_9, if_neg (by omega)]
      rfl
    | succ k ih =>
      intro i a b v hi h0 ha hb
      rw [b_X2_tell_9, if_pos (by omega), lc_eq]
      by_cases z : b = 0
      · refine ⟨b, i, v, ?_⟩
        rw [if_pos z, show eug (k + 1) a b = a from if_pos z]
      · obtain ⟨b', i', v', e⟩ := ih (i + 1) b (a % b) (1, a % b) (by omega) (by omega) hb (Int.emod_nonneg a z)
        refine ⟨b', i', v', ?_⟩
        rw [if_neg z, and_tl z, tm ha, w32_of (by omega) (by omega), e, show eug (k + 1) a b = eug k b (a % b) from if_neg z]
  obtain ⟨b', i', v', e⟩ := key 100 0 u w (9, 0) (by decide) (by decide) hf.1 (by unfold fOK at hf; omega)
  rw [e, b_X2_tell_44, lc_eq, if_neg (by omega), and_tl (by omega), and_tl (by omega)]
  rfl
theorem e_m_tells {E : PvEnv} (hE : ∀ k, E 50 k = refT 50 k) {d : Nat} {Q : Int → Hp → Prop} {h : Hp} {u w x : Int} (hf : fOK u w) : wpS E (d + 1) mX10_tells [(2, 50), (1, u), (1, w), (0, x)] h Q = Q x (tlM h u w) := by
  have hg := eug_pos 100 u w hf.1 (by unfold fOK at hf; omega) (Or.inr hf.2.1) (fOK_T hf)
  rw [u_X10_tells hE]
  have key : ∀ (k : Nat) (a b : Int) (v : PV), 0 ≤ a → 0 ≤ b → euT k a b → 1 ≤ eug k a b → Ws E d mX10_tells Q 6 [(2, 50), (1, u), (9, 0), (1, w), (9, 0), (0, x), (1, a), (9, 0), (1, b), (9, 0), v, (9, 0)] [] h = Q x (hst (hst h 50 3 (w64 (Int.tdiv u (eug k a b)))) 50 4 (w64 (Int.tdiv w (eug k a b)))) := by
    intro k
    induction k with
    | zero =>
      intro a b v ha hb ht hg
      have ht : b = 0 := ht
      have hg : 1 ≤ a := hg
      rw [b_X10_tells_6 hE, lc_eq, if_pos ht, and_tl (by omega), and_tl (by omega)]
      rfl
    | succ k ih =>
      intro a b v ha hb ht hg
      rw [b_X10_tells_6 hE, lc_eq]
      by_cases z : b = 0
      · have e : eug (k + 1) a b = a := if_pos z
        rw [e] at hg
        rw [if_pos z, and_tl (by omega), and_tl (by omega), e]
      · have e : eug (k + 1) a b = eug k b (a % b) := if_neg z
        rw [e] at hg
        rw [if_neg z, and_tl z, tm ha, ih b (a % b) _ hb (Int.emod_nonneg a z) (ht.resolve_left z) hg, e]
  exact key 100 u w (9, 0) hf.1 (by unfold fOK at hf; omega) (fOK_T hf) hg
theorem Cpl_tl {h : Hp} {u w : Int} (hC : Cpl h) : Cpl (tlM (tlX h u w) u w) := by
  obtain ⟨c1, c2, c3, c4, c5, c6, c7, c8, c9, c10, c11, c12, c13, c14, c15⟩ := hC
  unfold Cpl tlM tlX
  simp only [hst_at, hrow_at, up_at, Int.reduceEq, if_true, if_false, reduceIte]
  exact ⟨c1, c2, c3, c4, c5, c6, c7, c8, c9, c10, c11, c12, c13, c14, trivial, trivial⟩
/-- what keeping takes, above -/
def kU (k d c : Int) : Int := w64 (w64 (d * (w64 (pwr d k.toNat - pwr (d - 1) k.toNat))) + w64 (c * pwr (d - 1) k.toNat))
def kL (k d : Int) : Int := w64 (k * pwr (d - 1) k.toNat)
theorem e_keepingUpper {E : PvEnv} {d : Nat} {Q : Int → Hp → Prop} {h : Hp} {k a c : Int} (hk : k < 1000) (ha : 2 ≤ a ∧ a ≤ 20) : wpS E (d + 2) mX9_keepingUpper [(0, k), (0, a), (0, c)] h Q = Q (kU k a c) h := by
  rw [u_X9_keepingUpper, e_power hk, e_power hk, w32_of (by omega) (by omega)]
  rfl
theorem e_m_expected {E : PvEnv} {d : Nat} {Q : Int → Hp → Prop} {h : Hp} {k a c : Int} (hk : k < 1000) (ha : 2 ≤ a ∧ a ≤ 20) : wpS E (d + 2) mX10_expected [(0, k), (0, a), (0, c)] h Q = Q (kU k a c) h := by
  rw [u_X10_expected, e_m_power hk, e_m_power hk, w32_of (by omega) (by omega)]
  rfl
theorem kOK_fin : ∀ k : Fin 8, ∀ a : Fin 19, ∀ c : Fin 21, 0 ≤ kU ((k.val + 1 : Nat) : Int) ((a.val + 2 : Nat) : Int) ((c.val : Nat) : Int) ∧ 1 ≤ kL ((k.val + 1 : Nat) : Int) ((a.val + 2 : Nat) : Int) ∧ kL ((k.val + 1 : Nat) : Int) ((a.val + 2 : Nat) : Int) < 1099511627776 := by decide +kernel
theorem kOK {k a c : Int} (hk : 1 ≤ k ∧ k ≤ 8) (ha : 2 ≤ a ∧ a ≤ 20) (hc : 0 ≤ c ∧ c ≤ 20) : fOK (kU k a c) (kL k a) := by
  have := kOK_fin ⟨(k - 1).toNat, by omega⟩ ⟨(a - 2).toNat, by omega⟩ ⟨c.toNat, by omega⟩
  have e1 : (((k - 1).toNat + 1 : Nat) : Int) = k := by omega
  have e2 : (((a - 2).toNat + 2 : Nat) : Int) = a := by omega
  have e3 : ((c.toNat : Nat) : Int) = c := by omega
  simp only [e1, e2, e3] at this
  exact this
theorem p_keeping {n k a c : Int} : Pr n mX9_keeping mX10_keeping [(0, k), (0, a), (0, c)] := by
  intro h hC
  by_cases z1 : 1 ≤ k ∧ k ≤ 8
  · by_cases z2 : (2 ≤ a ∧ a ≤ 20) ∧ 0 ≤ c ∧ c ≤ 20
    · have hf := kOK z1 z2.1 z2.2
      refine ⟨1, tlX h (kU k a c) (kL k a), tlM (tlX h (kU k a c) (kL k a)) (kU k a c) (kL k a), fun Q => ?_, fun Q => ?_, Cpl_tl hC⟩
      · rw [u_X9_keeping, if_neg (by omega), if_neg (by omega), e_areOdds, b2_if, if_pos z2, e_keepingUpper (by omega) z2.1, e_power (by omega), w32_of (x := a - 1) (by omega) (by omega)]
        show wpS (EF n) 8 mX2_tell [(2, 48), (1, kU k a c), (1, kL k a)] h _ = _
        rw [e_tell hf]
      · rw [u_X10_keeping (EF_50 n), e_m_in, b2_if, if_pos z1, e_m_areOdds, b2_if, if_pos z2, e_m_expected (by omega) z2.1, e_m_power (by omega), w32_of (x := a - 1) (by omega) (by omega)]
        show wpS (EF n) 8 mX10_tells [(2, 50), (1, kU k a c), (1, kL k a), (0, 1)] _ _ = _
        rw [e_m_tells (EF_50 n) hf]
    · refine ⟨-1, h, h, fun Q => ?_, fun Q => ?_, hC⟩
      · rw [u_X9_keeping, if_neg (by omega), if_neg (by omega), e_areOdds, b2_if, if_neg z2]
      · rw [u_X10_keeping (EF_50 n), e_m_in, b2_if, if_pos z1, e_m_areOdds, b2_if, if_neg z2]
  · refine ⟨-1, h, h, fun Q => ?_, fun Q => ?_, hC⟩
    · rw [u_X9_keeping]
      by_cases w : k < 1
      · rw [if_pos w]
      · rw [if_neg w, if_pos (by omega)]
    · rw [u_X10_keeping (EF_50 n), e_m_in, b2_if, if_neg z1]
/-- which takes less -/
def tkL (k b a c : Int) : Int := if w64 ((w64 (kU k a c * pwr (a - 1) (8 - k).toNat)) * b) < w64 ((w64 (kU b a c * pwr (a - 1) (8 - b).toNat)) * k) then 1 else 0
theorem e_takesLess {E : PvEnv} {d : Nat} {Q : Int → Hp → Prop} {h : Hp} {k b a c : Int} (hk : 1 ≤ k ∧ k ≤ 8) (hb : 1 ≤ b ∧ b ≤ 8) (ha : 2 ≤ a ∧ a ≤ 20) : wpS E (d + 3) mX9_takesLess [(0, k), (0, b), (0, a), (0, c)] h Q = Q (tkL k b a c) h := by
  rw [u_X9_takesLess, e_keepingUpper (by omega) ha, w32_of (x := 8 - k) (by omega) (by omega), w32_of (x := 8 - b) (by omega) (by omega), e_power (by omega), e_keepingUpper (by omega) ha, e_power (by omega), w32_of (x := a - 1) (by omega) (by omega), lc_lt]
  unfold tkL
  by_cases z : w64 ((w64 (kU k a c * pwr (a - 1) (8 - k).toNat)) * b) < w64 ((w64 (kU b a c * pwr (a - 1) (8 - b).toNat)) * k)
  · rw [if_pos z, if_pos z]
  · rw [if_neg z, if_neg z]
def isb : Nat → Int → Int → Int → Int → Int → Int
  | 0, _, _, _, _, _ => -1
  | n + 1, a, b, c, e, t => if b = 0 ∨ e = 0 then -1 else if w64 (Int.tdiv a b) = w64 (Int.tdiv c e) then (if Int.tmod a b = 0 ∨ Int.tmod c e = 0 then (if t = 0 then (if Int.tmod a b = 0 ∧ Int.tmod c e ≠ 0 then 1 else 0) else (if Int.tmod a b ≠ 0 ∧ Int.tmod c e = 0 then 1 else 0)) else isb n b (Int.tmod a b) e (Int.tmod c e) (1 - t)) else (if t = 0 then (if w64 (Int.tdiv a b) < w64 (Int.tdiv c e) then 1 else 0) else (if w64 (Int.tdiv c e) < w64 (Int.tdiv a b) then 1 else 0))
theorem e_m_isBelow {E : PvEnv} {d : Nat} {Q : Int → Hp → Prop} {h : Hp} (N : Nat) {a b c e : Int} (hI : isb N a b c e 0 ≠ -1) : wpS E (d + 1) mX10_isBelow [(1, a), (1, b), (1, c), (1, e)] h Q = Q (isb N a b c e 0) h := by
  rw [u_X10_isBelow]
  have key : ∀ (N : Nat) (x y z w t : Int) (v : PV), (t = 0 ∨ t = 1) → isb N x y z w t ≠ -1 → Ws E d mX10_isBelow Q 17 [(1, a), (9, 0), (1, b), (9, 0), (1, c), (9, 0), (1, e), (9, 0), (1, x), (9, 0), (1, y), (9, 0), (1, z), (9, 0), (1, w), (9, 0), (0, t), v, (9, 0)] [] h = Q (isb N x y z w t) h := by
    intro N
    induction N with
    | zero => intro x y z w t v ht hI; exact absurd rfl hI
    | succ N ih =>
      intro x y z w t v ht hI
      have un : isb (N + 1) x y z w t = if y = 0 ∨ w = 0 then -1 else if w64 (Int.tdiv x y) = w64 (Int.tdiv z w) then (if Int.tmod x y = 0 ∨ Int.tmod z w = 0 then (if t = 0 then (if Int.tmod x y = 0 ∧ Int.tmod z w ≠ 0 then 1 else 0) else (if Int.tmod x y ≠ 0 ∧ Int.tmod z w = 0 then 1 else 0)) else isb N y (Int.tmod x y) w (Int.tmod z w) (1 - t)) else (if t = 0 then (if w64 (Int.tdiv x y) < w64 (Int.tdiv z w) then 1 else 0) else (if w64 (Int.tdiv z w) < w64 (Int.tdiv x y) then 1 else 0)) := rfl
      rw [un] at hI ⊢
      by_cases q1 : y = 0 ∨ w = 0
      · rw [if_pos q1] at hI
        exact absurd rfl hI
      · have y0 : y ≠ 0 := fun q => q1 (Or.inl q)
        have w0 : w ≠ 0 := fun q => q1 (Or.inr q)
        rw [if_neg q1] at hI ⊢
        rw [b_X10_isBelow_17, and_tl y0, and_tl w0, lc_eq, and_tl y0, and_tl w0, lc_eq, lc_eq, and_tl y0, and_tl w0, and_tl y0, and_tl w0, lc_lt, lc_if, b_X10_isBelow_59, lc_eq, lc_eq, lc_eq, lc_eq]
        generalize w64 (Int.tdiv x y) = p at *
        generalize w64 (Int.tdiv z w) = q at *
        generalize Int.tmod x y = r at *
        generalize Int.tmod z w = s at *
        by_cases q2 : p = q
        · rw [if_pos q2] at hI ⊢
          rw [if_pos q2]
          by_cases q3 : r = 0
          · rw [if_pos q3, if_pos q3, if_pos q3, if_pos (Or.inl q3)]
            by_cases q4 : t = 0
            · rw [if_pos q4, if_pos q4]
              by_cases q5 : s = 0
              · rw [if_pos q5, if_neg (fun k => k.2 q5)]
              · rw [if_neg q5, if_pos ⟨q3, q5⟩]
            · rw [if_neg q4, if_neg q4, if_neg (fun k => k.1 q3)]
          · rw [if_neg q3, if_neg q3, if_neg q3]
            by_cases q5 : s = 0
            · rw [if_pos q5, if_pos (Or.inr q5), if_pos q5]
              by_cases q4 : t = 0
              · rw [if_pos q4, if_pos q4, if_neg (fun k => q3 k.1)]
              · rw [if_neg q4, if_neg q4, if_pos ⟨q3, q5⟩]
            · rw [if_neg q5]
              have q6 : ¬ (r = 0 ∨ s = 0) := fun k => k.elim q3 q5
              rw [if_neg q6] at hI ⊢
              rcases ht with rfl | rfl
              · rw [if_pos rfl]
                exact ih _ _ _ _ 1 _ (Or.inr rfl) hI
              · rw [if_neg (by decide)]
                exact ih _ _ _ _ 0 _ (Or.inl rfl) hI
        · rw [if_neg q2, if_neg q2]
          rcases ht with rfl | rfl
          · rw [if_pos rfl, if_pos rfl]
            by_cases q3 : p < q
            · rw [if_pos q3, if_pos q3]
            · rw [if_neg q3, if_neg q3]
          · rw [if_neg (show ¬ (1 : Int) = 0 by decide), if_neg (show ¬ (1 : Int) = 0 by decide)]
            by_cases q3 : q < p
            · rw [if_pos q3, if_pos q3]
            · rw [if_neg q3, if_neg q3]
  exact key N a b c e 0 (9, 0) (Or.inl rfl) hI
theorem best_fin : ∀ k : Fin 7, ∀ b : Fin 8, b.val ≤ k.val → ∀ a : Fin 19, ∀ c : Fin 21, isb 60 (kU ((k.val + 2 : Nat) : Int) ((a.val + 2 : Nat) : Int) ((c.val : Nat) : Int)) (kL ((k.val + 2 : Nat) : Int) ((a.val + 2 : Nat) : Int)) (kU ((b.val + 1 : Nat) : Int) ((a.val + 2 : Nat) : Int) ((c.val : Nat) : Int)) (kL ((b.val + 1 : Nat) : Int) ((a.val + 2 : Nat) : Int)) 0 = tkL ((k.val + 2 : Nat) : Int) ((b.val + 1 : Nat) : Int) ((a.val + 2 : Nat) : Int) ((c.val : Nat) : Int) := by decide +kernel
