/-! fault, field: reading a text -/
/-- both readers stand at the same place of a text of size z, with the same law read so far -/
def PS (z : Int) (M0 R M : Int → Int) : Prop := R 6 = z ∧ (0 ≤ R 7 ∧ R 7 ≤ z ∧ M 20 = R 7) ∧ CLaw (R 0) (R 1) (R 2) (R 3) (R 4) (M 15) (M 16) (M 17) (M 18) (M 19) ∧ ∀ i : Int, i < 15 ∨ 21 < i → M i = M0 i
theorem PS_pl {z : Int} {M0 R M : Int → Int} {p : Int} (h : PS z M0 R M) (hp : 0 ≤ p ∧ p ≤ z) : PS z M0 (up R 7 p) (up M 20 p) := by
  obtain ⟨h1, h2, h3, h4⟩ := h
  refine ⟨?_, ⟨?_, ?_, ?_⟩, ?_, fun i hi => ?_⟩
  · rw [up_n _ _ (by decide)]; exact h1
  · rw [up_s]; exact hp.1
  · rw [up_s]; exact hp.2
  · rw [up_s, up_s]
  · simp only [up_at, Int.reduceEq, if_true, if_false, reduceIte]; exact h3
  · rw [up_n _ _ (by omega)]; exact h4 i hi
theorem PS_nu {z : Int} {M0 R M : Int → Int} {v : Int} (h : PS z M0 R M) : PS z M0 (up R 8 v) (up M 21 v) := by
  obtain ⟨h1, h2, h3, h4⟩ := h
  refine ⟨?_, ?_, ?_, fun i hi => ?_⟩
  · rw [up_n _ _ (by decide)]; exact h1
  · simp only [up_at, Int.reduceEq, if_true, if_false, reduceIte]; exact h2
  · simp only [up_at, Int.reduceEq, if_true, if_false, reduceIte]; exact h3
  · rw [up_n _ _ (by omega)]; exact h4 i hi
def tp : Nat → Int
  | 0 => 1
  | k + 1 => tp k * 10
theorem tp_1 : ∀ k : Nat, 1 ≤ tp k
  | 0 => Int.le_refl _
  | k + 1 => by
    have := tp_1 k
    show 1 ≤ tp k * 10
    omega
theorem tp_6 : ∀ k : Nat, k ≤ 6 → tp k ≤ 1000000
  | 0, _ => by show (1 : Int) ≤ 1000000; omega
  | 1, _ => by show (1 : Int) * 10 ≤ 1000000; omega
  | 2, _ => by show (1 : Int) * 10 * 10 ≤ 1000000; omega
  | 3, _ => by show (1 : Int) * 10 * 10 * 10 ≤ 1000000; omega
  | 4, _ => by show (1 : Int) * 10 * 10 * 10 * 10 ≤ 1000000; omega
  | 5, _ => by show (1 : Int) * 10 * 10 * 10 * 10 * 10 ≤ 1000000; omega
  | 6, _ => by show (1 : Int) * 10 * 10 * 10 * 10 * 10 * 10 ≤ 1000000; omega
  | k + 7, h => by omega
section PARSE
variable {n : Int} {h g : Hp} {f : Int → Int} {z t : Int} {M0 : Int → Int}
/-- what the two texts have in common: the class's copy, the reference's own -/
def TX (h g : Hp) (f : Int → Int) (z t : Int) : Prop := (0 ≤ z ∧ z ≤ 40) ∧ (0 ≤ t ∧ t < 4) ∧ g 55 t = z ∧ ∀ i : Int, 0 ≤ i → i < z → h 10 i = f i ∧ g 56 (40 * t + i) = f i
theorem e_sign {d : Nat} {Q : Int → Hp → Prop} {R M : Int → Int} (T : TX h g f z t) (P : PS z M0 R M) : wpS (EF n) (d + 1) mX4_sign [(2, 9)] (hrow h 9 R) Q = Q (if R 7 < z then f (R 7) else 0) (hrow h 9 R) := by
  obtain ⟨p1, ⟨p2, p3, -⟩, -, -⟩ := P
  have e10 : hrow h 9 R 10 = h 10 := hrow_n _ _ (by decide)
  have t1 := T.1
  rw [u_X4_sign, hrow_s, e10, p1, if_neg (by omega)]
  by_cases y : R 7 < z
  · rw [if_pos y, if_pos y, if_pos (by omega), and_tl (by omega), (T.2.2.2 (R 7) p2 y).1]
  · rw [if_neg y, if_neg y]
theorem e_m_here {d : Nat} {Q : Int → Hp → Prop} {R M : Int → Int} (T : TX h g f z t) (P : PS z M0 R M) : wpS (EF n) (d + 1) mX10_here [(2, 50), (0, t)] (hrow g 50 M) Q = Q (if R 7 < z then f (R 7) else -9) (hrow g 50 M) := by
  obtain ⟨-, ⟨p2, p3, p4⟩, -, -⟩ := P
  have e1 : hrow g 50 M 55 = g 55 := hrow_n _ _ (by decide)
  have e2 : hrow g 50 M 56 = g 56 := hrow_n _ _ (by decide)
  obtain ⟨t1, t2, t3, t4⟩ := T
  rw [u_X10_here (EF_50 n), and_tl t2, hrow_s, e1, e2, t3, p4]
  by_cases y : R 7 < z
  · rw [if_pos y, if_pos y, ix_m (by omega) (by omega) (by omega) (by omega), and_tl (by omega), (t4 (R 7) p2 y).2]
  · rw [if_neg y, if_neg y]
/-- a number of at most k signs -/
theorem rd_num {d d' : Nat} (T : TX h g f z t) {K : Nat} (hK : K ≤ 6) {R M : Int → Int} (P : PS z M0 R M) : ∃ (a : Int) (R' M' : Int → Int), (∀ Q, wpS (EF n) (d + 2) mX4_readNumber [(2, 9), (0, (K : Int))] (hrow h 9 R) Q = Q a (hrow h 9 R')) ∧ (∀ Q, wpS (EF n) (d' + 2) mX10_readsNumber [(2, 50), (0, t), (0, (K : Int))] (hrow g 50 M) Q = Q a (hrow g 50 M')) ∧ PS z M0 R' M' ∧ (R' 8 = M' 21 ∧ 0 ≤ R' 8 ∧ R' 8 + 1 ≤ tp K) ∧ R 7 ≤ R' 7 ∧ (a = 0 ∨ a = 1) ∧ (R' 0 = R 0 ∧ R' 1 = R 1 ∧ R' 2 = R 2 ∧ R' 3 = R 3 ∧ R' 4 = R 4) := by
  have tz := T.1
  have key : ∀ (k i : Nat) (R1 M1 : Int → Int), PS z M0 R1 M1 → i + k = K → R1 8 = M1 21 → 0 ≤ R1 8 → (R1 8 + 1) * tp k ≤ tp K → R1 7 - R 7 = i → (R1 0 = R 0 ∧ R1 1 = R 1 ∧ R1 2 = R 2 ∧ R1 3 = R 3 ∧ R1 4 = R 4) → ∃ (a : Int) (R' M' : Int → Int), (∀ (v : PV) Q, Ws (EF n) (d + 1) mX4_readNumber Q 12 [(2, 9), (0, (K : Int)), (0, R 7), (0, (i : Int)), v] [] (hrow h 9 R1) = Q a (hrow h 9 R')) ∧ (∀ Q, Ws (EF n) (d' + 1) mX10_readsNumber Q 10 [(2, 50), (0, t), (0, (K : Int)), (0, R 7)] [] (hrow g 50 M1) = Q a (hrow g 50 M')) ∧ PS z M0 R' M' ∧ (R' 8 = M' 21 ∧ 0 ≤ R' 8 ∧ R' 8 + 1 ≤ tp K) ∧ R 7 ≤ R' 7 ∧ (a = 0 ∨ a = 1) ∧ (R' 0 = R 0 ∧ R' 1 = R 1 ∧ R' 2 = R 2 ∧ R' 3 = R 3 ∧ R' 4 = R 4) := by
    intro k
    induction k with
    | zero =>
      intro i R1 M1 P1 hi e8 h8 hb hp hf
      have pp := P.2.1
      have pp1 := P1.2.1
      rw [show tp 0 = 1 from rfl, Int.mul_one] at hb
      have ew : w32 (M1 20 - R 7) = i := by rw [pp1.2.2, w32_of (by omega) (by omega)]; exact hp
      refine ⟨if R 7 < R1 7 then 1 else 0, R1, M1, fun v Q => ?_, fun Q => ?_, P1, ⟨e8, h8, hb⟩, by omega, by split <;> simp, hf⟩
      · rw [b_X4_readNumber_12, if_neg (by omega), b_X4_readNumber_73, hrow_s]
        by_cases y : R 7 < R1 7
        · rw [if_pos y, if_pos y]
        · rw [if_neg y, if_neg y]
      · rw [b_X10_readsNumber_10 (EF_50 n), hrow_s, ew, if_neg (by omega), b_X10_readsNumber_68 (EF_50 n), hrow_s, pp1.2.2]
        by_cases y : R 7 < R1 7
        · rw [if_pos y, if_pos y]
        · rw [if_neg y, if_neg y]
    | succ k ih =>
      intro i R1 M1 P1 hi e8 h8 hb hp hf
      have pp := P.2.1
      have pp1 := P1.2.1
      have ew : w32 (M1 20 - R 7) = i := by rw [pp1.2.2, w32_of (by omega) (by omega)]; exact hp
      have pk : (1 : Int) ≤ tp k := tp_1 k
      have pk1 : tp (k + 1) = tp k * 10 := rfl
      have pK : tp K ≤ 1000000 := tp_6 K hK
      by_cases y : R1 7 < z ∧ 48 ≤ f (R1 7) ∧ f (R1 7) ≤ 57
      · have hb2 : (10 * R1 8 + f (R1 7) - 48 + 1) * tp k ≤ tp K := by
          have := Int.mul_le_mul_of_nonneg_right (show 10 * R1 8 + f (R1 7) - 48 + 1 ≤ (R1 8 + 1) * 10 by omega) (show (0 : Int) ≤ tp k by omega)
          rw [pk1, Int.mul_comm (tp k) 10, ← Int.mul_assoc] at hb
          omega
        have hb3 : R1 8 + 1 ≤ 1000000 := by
          have := Int.mul_le_mul_of_nonneg_left (show (1 : Int) ≤ tp (k + 1) by omega) (show 0 ≤ R1 8 + 1 by omega)
          omega
        have P2 := PS_pl (p := R1 7 + 1) (PS_nu (v := 10 * R1 8 + f (R1 7) - 48) P1) (by omega)
        obtain ⟨a, R', M', q1, q2, q3⟩ := ih (i + 1) (up (up R1 8 (10 * R1 8 + f (R1 7) - 48)) 7 (R1 7 + 1)) (up (up M1 21 (10 * R1 8 + f (R1 7) - 48)) 20 (R1 7 + 1)) P2 (by omega) (by simp only [up_at, Int.reduceEq, if_true, if_false, reduceIte]) (by simp only [up_at, Int.reduceEq, if_true, if_false, reduceIte]; omega) (by simp only [up_at, Int.reduceEq, if_true, if_false, reduceIte]; exact hb2) (by rw [up_s]; omega) (by simp only [up_at, Int.reduceEq, if_true, if_false, reduceIte]; exact hf)
        refine ⟨a, R', M', fun v Q => ?_, fun Q => ?_, q3⟩
        · rw [b_X4_readNumber_12, if_pos (by omega), e_sign T P1, if_pos y.1, if_neg (by omega), if_neg (by omega), hst_rr, hrow_s, hst_rr, hrow_s, up_n _ _ (show (7 : Int) ≠ 8 by decide), w32_of (x := 10 * R1 8) (by omega) (by omega), w32_of (x := 10 * R1 8 + f (R1 7)) (by omega) (by omega), w32_of (x := 10 * R1 8 + f (R1 7) - 48) (by omega) (by omega), w32_of (x := R1 7 + 1) (by omega) (by omega), w32_n1 (by omega)]
          exact q1 _ Q
        · rw [b_X10_readsNumber_10 (EF_50 n), hrow_s, ew, if_pos (by omega), e_m_here T P1, if_pos y.1, e_m_in, b2_if, if_pos y.2, e_m_here T P1, if_pos y.1, hst_rr, hrow_s, hst_rr, hrow_s, up_n _ _ (show (20 : Int) ≠ 21 by decide), ← e8, pp1.2.2, w32_of (x := 10 * R1 8) (by omega) (by omega), w32_of (x := 10 * R1 8 + f (R1 7)) (by omega) (by omega), w32_of (x := 10 * R1 8 + f (R1 7) - 48) (by omega) (by omega), w32_of (x := R1 7 + 1) (by omega) (by omega)]
          exact q2 Q
      · have hb3 : R1 8 + 1 ≤ tp K := by
          have := Int.mul_le_mul_of_nonneg_left (show (1 : Int) ≤ tp (k + 1) by omega) (show 0 ≤ R1 8 + 1 by omega)
          omega
        refine ⟨if R 7 < R1 7 then 1 else 0, R1, M1, fun v Q => ?_, fun Q => ?_, P1, ⟨e8, h8, hb3⟩, by omega, by split <;> simp, hf⟩
        · rw [b_X4_readNumber_12, if_pos (by omega), e_sign T P1]
          have r73 : ∀ v : PV, Ws (EF n) (d + 1) mX4_readNumber Q 73 [(2, 9), (0, (K : Int)), (0, R 7), (0, (i : Int)), v] [] (hrow h 9 R1) = Q (if R 7 < R1 7 then 1 else 0) (hrow h 9 R1) := by
            intro v
            rw [b_X4_readNumber_73, hrow_s]
            by_cases y : R 7 < R1 7
            · rw [if_pos y, if_pos y]
            · rw [if_neg y, if_neg y]
          rw [r73]
          by_cases y1 : (if R1 7 < z then f (R1 7) else 0) < 48
          · rw [if_pos y1]
          · rw [if_neg y1]
            by_cases y2 : R1 7 < z
            · rw [if_pos y2] at y1 ⊢
              rw [if_pos (by omega)]
            · rw [if_neg y2] at y1
              omega
        · rw [b_X10_readsNumber_10 (EF_50 n), hrow_s, ew, if_pos (by omega), e_m_here T P1, e_m_in, b2_if]
          have no : ¬ (48 ≤ (if R1 7 < z then f (R1 7) else -9) ∧ (if R1 7 < z then f (R1 7) else -9) ≤ 57) := by
            by_cases y2 : R1 7 < z
            · rw [if_pos y2]
              exact fun q => y ⟨y2, q⟩
            · rw [if_neg y2]
              omega
          rw [if_neg no, b_X10_readsNumber_68 (EF_50 n), hrow_s, pp1.2.2]
          by_cases y : R 7 < R1 7
          · rw [if_pos y, if_pos y]
          · rw [if_neg y, if_neg y]
  obtain ⟨a, R', M', q1, q2, q3⟩ := key K 0 (up R 8 0) (up M 21 0) (PS_nu P) (by omega) (by rw [up_s, up_s]) (by rw [up_s]; decide) (by rw [up_s, Int.zero_add, Int.one_mul]; exact Int.le_refl _) (by rw [up_n _ _ (by decide)]; omega) (by simp only [up_at, Int.reduceEq, if_true, if_false, reduceIte]; exact ⟨trivial, trivial, trivial, trivial, trivial⟩)
  refine ⟨a, R', M', fun Q => ?_, fun Q => ?_, q3⟩
  · rw [u_X4_readNumber, hrow_s, hst_rr]
    exact q1 (9, 0) Q
  · rw [u_X10_readsNumber (EF_50 n), hrow_s, hst_rr, P.2.1.2.2]
    exact q2 Q
end PARSE
