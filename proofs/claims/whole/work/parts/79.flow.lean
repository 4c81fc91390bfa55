/-! flow -/
theorem mulb {x y X Y : Int} (hx : 0 ≤ x ∧ x ≤ X) (hy : 0 ≤ y ∧ y ≤ Y) : 0 ≤ x * y ∧ x * y ≤ X * Y := by
  refine ⟨Int.mul_nonneg hx.1 hy.1, ?_⟩
  have h1 := Int.mul_le_mul_of_nonneg_right hx.2 hy.1
  have h2 := Int.mul_le_mul_of_nonneg_left hy.2 (show 0 ≤ X by omega)
  omega
/-- what fv takes -/
def fvOK (a n m s w : Int) : Prop := (0 ≤ a ∧ a ≤ 1000000) ∧ (0 ≤ n ∧ n ≤ m) ∧ (1 ≤ m ∧ m ≤ 99) ∧ (0 ≤ s ∧ s ≤ 16) ∧ 1 ≤ w ∧ w ≤ 4
theorem fv_b {a n m s w : Int} (h : fvOK a n m s w) : (0 ≤ a * n ∧ a * n ≤ 99000000) ∧ (0 ≤ a * n * s ∧ a * n * s ≤ 1584000000) ∧ (4 ≤ 4 * m * w ∧ 4 * m * w ≤ 1584) ∧ 0 ≤ fv a n m s w ∧ fv a n m s w ≤ 1584000000 := by
  obtain ⟨h1, h2, h3, h4, h5⟩ := h
  have e1 := mulb h1 (show 0 ≤ n ∧ n ≤ 99 by omega)
  have e2 := mulb (show 0 ≤ a * n ∧ a * n ≤ 99000000 by omega) h4
  have e3 := mulb (show 0 ≤ 4 * m ∧ 4 * m ≤ 396 by omega) (show 0 ≤ w ∧ w ≤ 4 by omega)
  have e4 : 4 ≤ 4 * m * w := by
    have := Int.mul_le_mul_of_nonneg_left h5.1 (show 0 ≤ 4 * m by omega)
    omega
  have e5 : 0 ≤ a * n * s / (4 * m * w) := Int.ediv_nonneg e2.1 (by omega)
  have e6 : a * n * s / (4 * m * w) ≤ a * n * s := Int.ediv_le_self _ e2.1
  unfold fv
  exact ⟨by omega, by omega, by omega, by omega, by omega⟩
theorem e_flowOf {E : PvEnv} {d : Nat} {Q : Int → Hp → Prop} {h : Hp} {a n m s w : Int} (hf : fvOK a n m s w) : wpS E (d + 1) mX9_flowOf [(0, a), (0, n), (0, m), (0, s), (0, w)] h Q = Q (fv a n m s w) h := by
  obtain ⟨b1, b2, b3, b4⟩ := fv_b hf
  obtain ⟨h1, h2, h3, h4, h5⟩ := hf
  rw [u_X9_flowOf, w64_of (x := 4 * m) (by omega) (by omega), w64_of (x := 4 * m * w) (by omega) (by omega), lc_lt, if_neg (by omega), and_tl (by omega), w64_of (x := a * n) (by omega) (by omega), w64_of (x := a * n * s) (by omega) (by omega), td b2.1]
  show Q (w32 (w64 (fv a n m s w))) h = _
  rw [w64_of (by omega) (by omega), w32_of (by omega) (by omega)]
theorem e_m_flowOf {E : PvEnv} (hE : ∀ k, E 50 k = refT 50 k) {d : Nat} {Q : Int → Hp → Prop} {h : Hp} {c s : Int} (hc : isN c) (hf : fvOK (h 58 c) (h 50 10) (h 50 11) s (gw c)) : wpS E (d + 2) mX10_flowOf [(2, 50), (0, c), (0, s)] h Q = Q (fv (h 58 c) (h 50 10) (h 50 11) s (gw c)) h := by
  obtain ⟨b1, b2, b3, b4⟩ := fv_b hf
  obtain ⟨h1, h2, h3, h4, h5⟩ := hf
  rw [u_X10_flowOf hE, and_tl (show 0 ≤ c ∧ c < 336 from hc), e_m_side, w64_of (x := h 50 11 * 4) (by omega) (by omega), Int.mul_comm (h 50 11) 4, w64_of (x := 4 * h 50 11 * gw c) (by omega) (by omega), and_tl (by omega), w64_of (x := h 58 c * h 50 10) (by omega) (by omega), w64_of (x := h 58 c * h 50 10 * s) (by omega) (by omega), td b2.1]
  show Q (w32 (w64 (fv _ _ _ _ _))) h = _
  rw [w64_of (by omega) (by omega), w32_of (by omega) (by omega)]
theorem e_overlap {E : PvEnv} {d : Nat} {Q : Int → Hp → Prop} {h : Hp} {a b c e : Int} (ha : 0 ≤ a ∧ a ≤ 16) (hb : 0 ≤ b ∧ b ≤ 16) (hc : 0 ≤ c ∧ c ≤ 16) (he : 0 ≤ e ∧ e ≤ 16) : wpS E (d + 2) mX8_overlap [(0, a), (0, b), (0, c), (0, e)] h Q = Q (ovl a b c e) h := by
  have e1 : (if c + e < a + b then c + e else a + b) = min (a + b) (c + e) := by
    split <;> omega
  have e2 : (if a < c then c else a) = max a c := by
    split <;> omega
  rw [u_X8_overlap, w32_of (x := c + e) (by omega) (by omega), w32_of (x := a + b) (by omega) (by omega), e1, e2, w32_of (by omega) (by omega)]
  unfold ovl
  congr 1
  split <;> omega
theorem ovl_b {a b c e : Int} (hb : 0 ≤ b) : 0 ≤ ovl a b c e ∧ ovl a b c e ≤ b := by
  unfold ovl
  omega
theorem sbn_b {a b : Int} : 0 ≤ sb a b ∧ sb a b ≤ 4 := by
  have h1 := gw_b a
  have o1 := ovl_b (a := gy a) (b := gw a) (c := gy b) (e := gw b) (by omega)
  have o2 := ovl_b (a := gx a) (b := gw a) (c := gx b) (e := gw b) (by omega)
  unfold sb
  split
  · omega
  · split <;> omega
theorem e_sidesBetween {E : PvEnv} (hE : ∀ k, E 11 k = refT 11 k) {d : Nat} {Q : Int → Hp → Prop} {h : Hp} {a b : Int} (ha : isN a) (hb : isN b) (hg : GeoOK h) : wpS E (d + 3) mX8_sidesBetween [(2, 11), (0, a), (0, b)] h Q = Q (sb a b) h := by
  obtain ⟨ax, ay, aw⟩ := hg a ha.1 ha.2
  obtain ⟨bx, bY, bw⟩ := hg b hb.1 hb.2
  have x1 := gx_b ha
  have x2 := gy_b ha
  have x3 := gw_b a
  have y1 := gx_b hb
  have y2 := gy_b hb
  have y3 := gw_b b
  have ha' : 0 ≤ a ∧ a < 336 := ha
  have hb' : 0 ≤ b ∧ b < 336 := hb
  rw [u_X8_sidesBetween hE, ay, aw, bY, bw, and_tl ha', and_tl ha', and_tl hb', and_tl hb', e_overlap (by omega) (by omega) (by omega) (by omega), ax, aw, bx, bw, and_tl ha', and_tl ha', and_tl hb', and_tl hb', e_overlap (by omega) (by omega) (by omega) (by omega), ax, ay, aw, bx, bY, bw, and_tl ha', and_tl ha', and_tl hb', and_tl hb', and_tl hb', and_tl ha', and_tl ha', and_tl ha', and_tl hb', and_tl hb', and_tl hb', and_tl ha', w32_of (x := gx a + gw a) (by omega) (by omega), w32_of (x := gx b + gw b) (by omega) (by omega), w32_of (x := gy a + gw a) (by omega) (by omega), w32_of (x := gy b + gw b) (by omega) (by omega)]
  unfold sb
  by_cases z1 : gx a + gw a = gx b
  · rw [if_pos z1, if_pos (Or.inl z1)]
  · rw [if_neg z1]
    by_cases z2 : gx b + gw b = gx a
    · rw [if_pos z2, if_pos (Or.inr z2)]
    · rw [if_neg z2, if_neg (show ¬ (gx a + gw a = gx b ∨ gx b + gw b = gx a) from fun q => q.elim z1 z2)]
      by_cases z3 : gy a + gw a = gy b
      · rw [if_pos z3, if_pos (Or.inl z3)]
      · rw [if_neg z3]
        by_cases z4 : gy b + gw b = gy a
        · rw [if_pos z4, if_pos (Or.inr z4)]
        · rw [if_neg z4, if_neg (show ¬ (gy a + gw a = gy b ∨ gy b + gw b = gy a) from fun q => q.elim z3 z4)]
theorem e_m_flow {E : PvEnv} (hE : ∀ k, E 50 k = refT 50 k) {d : Nat} {Q : Int → Hp → Prop} {h : Hp} {a b : Int} (ha : isN a) (hb : isN b) (hm : 0 ≤ h 50 33 ∧ h 50 33 ≤ 1024) : wpS E (d + 3) mX10_flow [(2, 50), (0, a), (0, b)] h Q = Q (fl (h 65) (h 66) (h 67) a b (h 50 33).toNat) h := by
  have ha' : 0 ≤ a ∧ a < 336 := ha
  have hb' : 0 ≤ b ∧ b < 336 := hb
  rw [u_X10_flow hE, e_m_isName, b2_if, if_pos (by omega), e_m_isName, b2_if, if_pos (by omega)]
  have l := loop_n (P := fun k => Ws E (d + 2) mX10_flow Q 21 [(2, 50), (0, a), (0, b), (0, fl (h 65) (h 66) (h 67) a b k), (0, (k : Int))] [] h) (h 50 33).toNat (by
    intro k hk
    rw [b_X10_flow_21 hE, if_pos (by omega), and_tl (by omega), b_X10_flow_62 hE, w32_n1 (by omega)]
    show _ = Ws E (d + 2) mX10_flow Q 21 [(2, 50), (0, a), (0, b), (0, if h 65 k = a ∧ h 66 k = b then h 67 k else fl (h 65) (h 66) (h 67) a b k), (0, ((k + 1 : Nat) : Int))] [] h
    by_cases z1 : h 65 (k : Int) = a
    · rw [if_pos z1, and_tl (by omega)]
      by_cases z2 : h 66 (k : Int) = b
      · rw [if_pos z2, and_tl (by omega), if_pos ⟨z1, z2⟩]
      · rw [if_neg z2, if_neg (fun q => z2 q.2)]
    · rw [if_neg z1, if_neg (fun q => z1 q.1)])
  refine l.trans ?_
  show Ws E (d + 2) mX10_flow Q 21 [(2, 50), (0, a), (0, b), (0, _), (0, (((h 50 33).toNat : Nat) : Int))] [] h = _
  rw [b_X10_flow_21 hE, if_neg (by omega)]
theorem p_flow {n a b : Int} : Pr n mX9_flow mX10_flow [(0, a), (0, b)] := by
  intro h hC
  have hC' := hC
  obtain ⟨c1, c2, c3, c4, c5, c6, c7, c8, c9, c10, c11, c12, c13, c14, c15⟩ := hC
  by_cases z1 : 0 ≤ a ∧ a < 336
  · by_cases z2 : 0 ≤ b ∧ b < 336
    · obtain ⟨q1, q2, q3, q4⟩ := c9
      have e := q4 a b z1 z2
      have hw : h 18 a = gw a := (c6 a z1.1 z1.2).2.2
      refine ⟨fl (h 65) (h 66) (h 67) a b (h 50 33).toNat, h, h, fun Q => ?_, fun Q => e_m_flow (EF_50 n) z1 z2 q2, hC'⟩
      rw [e, u_X9_flow, e_isName, b2_if, if_pos z1, e_isName, b2_if, if_pos z2, u_X1_between, and_tl z1]
      by_cases y1 : h 27 a < 0
      · rw [if_pos y1, if_pos (Or.inl y1)]
      · rw [if_neg y1, and_tl z2]
        by_cases y2 : h 27 b < 0
        · rw [if_pos y2, if_pos (Or.inr y2)]
        · have ok : fvOK (h 27 a) (h 26 4) (h 26 5) (sb a b) (gw a) := by
            have s := sbn_b (a := a) (b := b)
            have g := gw_b a
            have r := q3 a z1.1 z1.2
            exact ⟨by omega, ⟨q1.1, q1.2.1⟩, ⟨q1.2.2.1, q1.2.2.2⟩, by omega, g⟩
          rw [if_neg y2, and_tl z1, e_sidesBetween (EF_11 n) z1 z2 c6, and_tl z1, hw, e_flowOf ok, if_neg (fun q => q.elim y1 y2)]
    · refine ⟨-1, h, h, fun Q => ?_, fun Q => ?_, hC'⟩
      · rw [u_X9_flow, e_isName, b2_if, if_pos z1, e_isName, b2_if, if_neg z2]
      · rw [u_X10_flow (EF_50 n), e_m_isName, b2_if, if_pos (by omega), e_m_isName, b2_if, if_neg (by omega)]
  · refine ⟨-1, h, h, fun Q => ?_, fun Q => ?_, hC'⟩
    · rw [u_X9_flow, e_isName, b2_if, if_neg z1]
    · rw [u_X10_flow (EF_50 n), e_m_isName, b2_if, if_neg (by omega)]
