/-! the reference's cells: places, coming, parting, joining -/
theorem e_m_side {E : PvEnv} {d : Nat} {Q : Int → Hp → Prop} {h : Hp} {c : Int} : wpS E (d + 1) mX10_side [(0, c)] h Q = Q (gw c) h := by
  rw [u_X10_side]
  unfold gw
  by_cases z : c < 16
  · rw [if_pos z, if_pos z]
  · rw [if_neg z, if_neg z]
    by_cases w : c < 80
    · rw [if_pos w, if_pos w]
    · rw [if_neg w, if_neg w]
theorem e_m_parent0 {E : PvEnv} {d : Nat} {Q : Int → Hp → Prop} {h : Hp} {c : Int} (hc : isN c) : wpS E (d + 1) mX10_parent [(0, c)] h Q = Q (w32 (Int.tdiv (w32 (c - 16)) 4)) h := by
  rw [u_X10_parent]
  by_cases w : c < 80
  · rw [if_pos w]
  · rw [if_neg w, w32_of (x := c - 80) (by omega) (by omega), w32_of (x := c - 16) (by omega) (by omega), td (by omega), td (by omega), w32_of (x := (c - 80) / 4) (by omega) (by omega), w32_of (by omega) (by omega), w32_of (by omega) (by omega)]
    congr 1
    omega
theorem e_m_parent {E : PvEnv} {d : Nat} {Q : Int → Hp → Prop} {h : Hp} {c : Int} (hc : 16 ≤ c ∧ c < 336) : wpS E (d + 1) mX10_parent [(0, c)] h Q = Q (gp c) h := by
  rw [e_m_parent0 (by omega), w32_of (x := c - 16) (by omega) (by omega), td (by omega), w32_of (by omega) (by omega)]
  rfl
theorem e_m_child {E : PvEnv} {d : Nat} {Q : Int → Hp → Prop} {h : Hp} {c : Int} (hc : 0 ≤ c ∧ c < 80) : wpS E (d + 1) mX10_child [(0, c)] h Q = Q (16 + 4 * c) h := by
  rw [u_X10_child]
  by_cases w : c < 16
  · rw [if_pos w, w32_of (x := 4 * c) (by omega) (by omega), w32_of (by omega) (by omega)]
  · rw [if_neg w, w32_of (x := c - 16) (by omega) (by omega), w32_of (x := 4 * (c - 16)) (by omega) (by omega), w32_of (by omega) (by omega)]
    congr 1
    omega
theorem gp_b {c : Int} (hc : isN c) (h16 : 16 ≤ c) : 0 ≤ gp c ∧ gp c < 80 ∧ (c < 80 → gp c < 16) ∧ (80 ≤ c → 16 ≤ gp c) := by
  unfold gp
  omega
theorem e_m_leftOf {E : PvEnv} {d : Nat} {Q : Int → Hp → Prop} {h : Hp} {c : Int} (hc : isN c) : wpS E (d + 2) mX10_leftOf [(0, c)] h Q = Q (gx c) h := by
  have s1 : ∀ a x : Int, (0 ≤ x ∧ x ≤ 16) → (0 ≤ a ∧ a < 16) → Ws E (d + 1) mX10_leftOf Q 4 [(0, c), (0, x), (0, a)] [] h = Q (x + 4 * (a % 4)) h := by
    intro a x hx ha
    rw [b_X10_leftOf_4, if_pos (by omega), tm (by omega), w32_of (x := 4 * (a % 4)) (by omega) (by omega), w32_of (by omega) (by omega)]
  have s2 : ∀ a x : Int, (0 ≤ x ∧ x ≤ 4) → (16 ≤ a ∧ a < 336) → Ws E (d + 1) mX10_leftOf Q 4 [(0, c), (0, x), (0, a)] [] h = Ws E (d + 1) mX10_leftOf Q 4 [(0, c), (0, x + gw a * (a % 2)), (0, gp a)] [] h := by
    intro a x hx ha
    rw [b_X10_leftOf_4, if_neg (by omega), e_m_side, e_m_parent ha, tm (by omega)]
    have hw : gw a = 2 ∨ gw a = 1 := by
      unfold gw
      rw [if_neg (by omega)]
      split
      · exact Or.inl rfl
      · exact Or.inr rfl
    rcases hw with hw | hw
    · rw [hw, w32_of (x := 2 * (a % 2)) (by omega) (by omega), w32_of (by omega) (by omega)]
    · rw [hw, w32_of (x := 1 * (a % 2)) (by omega) (by omega), w32_of (by omega) (by omega)]
  rw [u_X10_leftOf]
  by_cases z1 : c < 16
  · rw [s1 c 0 (by omega) (by omega)]
    unfold gx
    rw [if_pos z1]
    congr 1
    omega
  · rw [s2 c 0 (by omega) (by omega)]
    have hg := gp_b hc (by omega)
    by_cases z2 : c < 80
    · have e : gw c = 2 := by unfold gw; rw [if_neg z1, if_pos z2]
      rw [e, s1 (gp c) _ (by omega) (by omega)]
      unfold gx
      rw [if_neg z1, if_pos z2]
      congr 1
      omega
    · have e : gw c = 1 := by unfold gw; rw [if_neg z1, if_neg z2]
      rw [e, s2 (gp c) _ (by omega) (by omega)]
      have hg2 := gp_b (c := gp c) (by omega) (by omega)
      have e2 : gw (gp c) = 2 := by unfold gw; rw [if_neg (by omega), if_pos (by omega)]
      rw [e2, s1 (gp (gp c)) _ (by omega) (by omega)]
      unfold gx
      rw [if_neg z1, if_neg z2]
      congr 1
      omega
theorem e_m_topOf {E : PvEnv} {d : Nat} {Q : Int → Hp → Prop} {h : Hp} {c : Int} (hc : isN c) : wpS E (d + 2) mX10_topOf [(0, c)] h Q = Q (gy c) h := by
  have s1 : ∀ a x : Int, (0 ≤ x ∧ x ≤ 16) → (0 ≤ a ∧ a < 16) → Ws E (d + 1) mX10_topOf Q 4 [(0, c), (0, x), (0, a)] [] h = Q (x + 4 * (a / 4)) h := by
    intro a x hx ha
    rw [b_X10_topOf_4, if_pos (by omega), td (by omega), w32_of (x := a / 4) (by omega) (by omega), w32_of (x := 4 * (a / 4)) (by omega) (by omega), w32_of (by omega) (by omega)]
  have s2 : ∀ a x : Int, (0 ≤ x ∧ x ≤ 4) → (16 ≤ a ∧ a < 336) → Ws E (d + 1) mX10_topOf Q 4 [(0, c), (0, x), (0, a)] [] h = Ws E (d + 1) mX10_topOf Q 4 [(0, c), (0, x + gw a * (a / 2 % 2)), (0, gp a)] [] h := by
    intro a x hx ha
    rw [b_X10_topOf_4, if_neg (by omega), e_m_side, e_m_parent ha, td (by omega), w32_of (x := a / 2) (by omega) (by omega), tm (by omega)]
    have hw : gw a = 2 ∨ gw a = 1 := by
      unfold gw
      rw [if_neg (by omega)]
      split
      · exact Or.inl rfl
      · exact Or.inr rfl
    rcases hw with hw | hw
    · rw [hw, w32_of (x := 2 * (a / 2 % 2)) (by omega) (by omega), w32_of (by omega) (by omega)]
    · rw [hw, w32_of (x := 1 * (a / 2 % 2)) (by omega) (by omega), w32_of (by omega) (by omega)]
  rw [u_X10_topOf]
  by_cases z1 : c < 16
  · rw [s1 c 0 (by omega) (by omega)]
    unfold gy
    rw [if_pos z1]
    congr 1
    omega
  · rw [s2 c 0 (by omega) (by omega)]
    have hg := gp_b hc (by omega)
    by_cases z2 : c < 80
    · have e : gw c = 2 := by unfold gw; rw [if_neg z1, if_pos z2]
      rw [e, s1 (gp c) _ (by omega) (by omega)]
      unfold gy
      rw [if_neg z1, if_pos z2]
      congr 1
      omega
    · have e : gw c = 1 := by unfold gw; rw [if_neg z1, if_neg z2]
      rw [e, s2 (gp c) _ (by omega) (by omega)]
      have hg2 := gp_b (c := gp c) (by omega) (by omega)
      have e2 : gw (gp c) = 2 := by unfold gw; rw [if_neg (by omega), if_pos (by omega)]
      rw [e2, s1 (gp (gp c)) _ (by omega) (by omega)]
      unfold gy
      rw [if_neg z1, if_neg z2]
      congr 1
      omega
/-- the reference's rows as one -/
def mv (h : Hp) (T A K G X S : Int → Int) : Hp := hrow (hrow (hrow (hrow (hrow (hrow h 57 T) 58 A) 59 K) 60 G) 61 X) 62 S
section MV
variable {h : Hp} {T A K G X S : Int → Int}
theorem mv_id : mv h (h 57) (h 58) (h 59) (h 60) (h 61) (h 62) = h := by
  unfold mv
  have e57 : hrow h 57 (h 57) = h := hrow_self h 57
  have e58 : hrow h 58 (h 58) = h := hrow_self h 58
  have e59 : hrow h 59 (h 59) = h := hrow_self h 59
  have e60 : hrow h 60 (h 60) = h := hrow_self h 60
  have e61 : hrow h 61 (h 61) = h := hrow_self h 61
  have e62 : hrow h 62 (h 62) = h := hrow_self h 62
  rw [e57, e58, e59, e60, e61, e62]
theorem mv_r57 : mv h T A K G X S 57 = T := by simp [mv, hrow_at]
theorem mv_r58 : mv h T A K G X S 58 = A := by simp [mv, hrow_at]
theorem mv_r59 : mv h T A K G X S 59 = K := by simp [mv, hrow_at]
theorem mv_r60 : mv h T A K G X S 60 = G := by simp [mv, hrow_at]
theorem mv_r61 : mv h T A K G X S 61 = X := by simp [mv, hrow_at]
theorem mv_r62 : mv h T A K G X S 62 = S := by simp [mv, hrow_at]
theorem mv_off {a : Int} (h1 : a ≠ 57) (h2 : a ≠ 58) (h3 : a ≠ 59) (h4 : a ≠ 60) (h5 : a ≠ 61) (h6 : a ≠ 62) : mv h T A K G X S a = h a := by simp [mv, hrow_at, h1, h2, h3, h4, h5, h6]
theorem mv_s57 (i v : Int) : hst (mv h T A K G X S) 57 i v = mv h (up T i v) A K G X S := by
  unfold mv
  rw [hst_hn _ _ _ _ (by decide), hst_hn _ _ _ _ (by decide), hst_hn _ _ _ _ (by decide), hst_hn _ _ _ _ (by decide), hst_hn _ _ _ _ (by decide), hst_rr]
theorem mv_s58 (i v : Int) : hst (mv h T A K G X S) 58 i v = mv h T (up A i v) K G X S := by
  unfold mv
  rw [hst_hn _ _ _ _ (by decide), hst_hn _ _ _ _ (by decide), hst_hn _ _ _ _ (by decide), hst_hn _ _ _ _ (by decide), hst_rr]
theorem mv_s59 (i v : Int) : hst (mv h T A K G X S) 59 i v = mv h T A (up K i v) G X S := by
  unfold mv
  rw [hst_hn _ _ _ _ (by decide), hst_hn _ _ _ _ (by decide), hst_hn _ _ _ _ (by decide), hst_rr]
theorem mv_s60 (i v : Int) : hst (mv h T A K G X S) 60 i v = mv h T A K (up G i v) X S := by
  unfold mv
  rw [hst_hn _ _ _ _ (by decide), hst_hn _ _ _ _ (by decide), hst_rr]
theorem mv_s61 (i v : Int) : hst (mv h T A K G X S) 61 i v = mv h T A K G (up X i v) S := by
  unfold mv
  rw [hst_hn _ _ _ _ (by decide), hst_rr]
theorem mv_s62 (i v : Int) : hst (mv h T A K G X S) 62 i v = mv h T A K G X (up S i v) := by
  unfold mv
  rw [hst_rr]
theorem mv_o62 (f : Int → Int) : hrow (mv h T A K G X S) 62 f = mv h T A K G X f := by
  unfold mv
  rw [hrow_row]
end MV

theorem w3 (c : Int) : gw c = 4 ∨ gw c = 2 ∨ gw c = 1 := by
  unfold gw
  split
  · exact Or.inl rfl
  · split
    · exact Or.inr (Or.inl rfl)
    · exact Or.inr (Or.inr rfl)
theorem e_m_come {E : PvEnv} (hE : ∀ k, E 50 k = refT 50 k) {d : Nat} {Q : Int → Hp → Prop} {h : Hp} {T A K G X S : Int → Int} {c a g : Int} (hc : isN c) : wpS E (d + 3) mX10_come [(2, 50), (0, c), (0, a), (0, g)] (mv h T A K G X S) Q = Q 0 (mv h (up T c 1) (up A c a) (up K c (if c < 16 then 0 else 1)) (up G c g) (up X c (-9)) (pnt S c)) := by
  have bx := gx_b hc
  have by' := gy_b hc
  have hc' : 0 ≤ c ∧ c < 336 := hc
  let F : Int → Int → Int := fun k s => if (0 ≤ s ∧ s < 256) ∧ (gx c ≤ s % 16 ∧ s % 16 < gx c + gw c) ∧ gy c ≤ s / 16 ∧ gw c * (s / 16 - gy c) + (s % 16 - gx c) < k then c else S s
  have key : ∀ v : Int, v = (if c < 16 then 0 else 1) → Ws E (d + 2) mX10_come Q 30 [(2, 50), (0, c), (0, a), (0, g), (9, 0), (9, 0), (9, 0)] [(0, v), (0, c), (2, 59)] (mv h (up T c 1) (up A c a) K G X S) = Q 0 (mv h (up T c 1) (up A c a) (up K c (if c < 16 then 0 else 1)) (up G c g) (up X c (-9)) (pnt S c)) := by
    intro v hv
    rw [b_X10_come_30 hE, and_tl hc', and_tl hc', and_tl hc', mv_s59, mv_s60, mv_s61, e_m_leftOf hc, e_m_topOf hc, ← hv]
    generalize up T c 1 = T'
    generalize up A c a = A'
    generalize up K c v = K'
    generalize up G c g = G'
    generalize up X c (-9) = X'
    have step : ∀ k : Nat, (k : Int) < gw c * gw c → Ws E (d + 2) mX10_come Q 61 [(2, 50), (0, c), (0, a), (0, g), (0, gx c), (0, gy c), (0, (k : Int))] [] (mv h T' A' K' G' X' (F k)) = Ws E (d + 2) mX10_come Q 61 [(2, 50), (0, c), (0, a), (0, g), (0, gx c), (0, gy c), (0, ((k + 1 : Nat) : Int))] [] (mv h T' A' K' G' X' (F ((k + 1 : Nat) : Int))) := by
      intro k hk
      rw [b_X10_come_61 hE, e_m_side, e_m_side, e_m_side, e_m_side]
      have h0 : (0 : Int) ≤ k := by omega
      have fin : ∀ w : Int, (w = 4 ∨ w = 2 ∨ w = 1) → w = gw c → (if (k : Int) < w32 (w * w) then (w ≠ 0) ∧ (w ≠ 0) ∧ (0 ≤ w32 (w32 (w32 (16 * w32 (gy c + w32 (Int.tdiv k w))) + gx c) + Int.tmod k w) ∧ w32 (w32 (w32 (16 * w32 (gy c + w32 (Int.tdiv k w))) + gx c) + Int.tmod k w) < 256) ∧ Ws E (d + 2) mX10_come Q 61 [(2, 50), (0, c), (0, a), (0, g), (0, gx c), (0, gy c), (0, w32 (k + 1))] [] (hst (mv h T' A' K' G' X' (F k)) 62 (w32 (w32 (w32 (16 * w32 (gy c + w32 (Int.tdiv k w))) + gx c) + Int.tmod k w)) c) else Q 0 (mv h T' A' K' G' X' (F k))) = Ws E (d + 2) mX10_come Q 61 [(2, 50), (0, c), (0, a), (0, g), (0, gx c), (0, gy c), (0, ((k + 1 : Nat) : Int))] [] (mv h T' A' K' G' X' (F ((k + 1 : Nat) : Int))) := by
        intro w hw hwg
        rw [← hwg] at hk bx by'
        rw [td h0, tm h0]
        have e : w32 (w32 (w32 (16 * w32 (gy c + w32 ((k : Int) / w))) + gx c) + (k : Int) % w) = 16 * (gy c + (k : Int) / w) + gx c + (k : Int) % w := by
          rcases hw with hw | hw | hw <;> subst hw <;> rw [w32_of (x := (k : Int) / _) (by omega) (by omega), w32_of (x := gy c + _) (by omega) (by omega), w32_of (x := 16 * _) (by omega) (by omega), w32_of (x := _ + gx c) (by omega) (by omega), w32_of (by omega) (by omega)]
        have e2 : w32 (w * w) = w * w := by rcases hw with hw | hw | hw <;> subst hw <;> decide
        rw [e, e2, if_pos hk, and_tl (by omega), and_tl (by omega), and_tl (by rcases hw with hw | hw | hw <;> subst hw <;> omega), mv_s62, w32_n1 (by rcases hw with hw | hw | hw <;> subst hw <;> omega)]
        congr 2
        funext s
        show up (F k) _ c s = F _ s
        unfold up
        simp only [F]
        rw [← hwg]
        by_cases z : s = 16 * (gy c + (k : Int) / w) + gx c + (k : Int) % w
        · rw [if_pos z]
          refine (if_pos ?_).symm
          rcases hw with hw | hw | hw <;> subst hw <;> omega
        · rw [if_neg z]
          by_cases z2 : (0 ≤ s ∧ s < 256) ∧ (gx c ≤ s % 16 ∧ s % 16 < gx c + w) ∧ gy c ≤ s / 16 ∧ w * (s / 16 - gy c) + (s % 16 - gx c) < (k : Int)
          · rw [if_pos z2]
            refine (if_pos ?_).symm
            omega
          · rw [if_neg z2]
            refine (if_neg ?_).symm
            rcases hw with hw | hw | hw <;> subst hw <;> omega
      exact fin (gw c) (w3 c) rfl
    have l := loop_n (P := fun k => Ws E (d + 2) mX10_come Q 61 [(2, 50), (0, c), (0, a), (0, g), (0, gx c), (0, gy c), (0, (k : Int))] [] (mv h T' A' K' G' X' (F k))) (gw c * gw c).toNat (fun k hk => step k (by omega))
    have f0 : F ((0 : Nat) : Int) = S := by
      funext s
      simp only [F]
      refine if_neg ?_
      rcases w3 c with hw | hw | hw <;> rw [hw] <;> omega
    have f1 : F (((gw c * gw c).toNat : Nat) : Int) = pnt S c := by
      funext s
      simp only [F]
      unfold pnt
      rcases w3 c with hw | hw | hw <;> rw [hw]
      all_goals
        repeat' split
        all_goals first | rfl | (exfalso; omega)
    rw [f0] at l
    refine l.trans ?_
    rw [b_X10_come_61 hE, e_m_side, e_m_side, f1, if_neg (by rcases w3 c with hw | hw | hw <;> rw [hw] <;> decide)]
  rw [u_X10_come hE, isBit_1, and_tl ⟨trivial, hc'⟩, and_tl hc', mv_s57, mv_s58]
  by_cases z : c < 16
  · rw [if_pos z]; exact key 0 (by rw [if_pos z])
  · rw [if_neg z]; exact key 1 (by rw [if_neg z])
