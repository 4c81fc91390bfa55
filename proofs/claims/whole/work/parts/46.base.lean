/-! words for what loops and branches do -/
def b2 (P : Prop) [Decidable P] : Int := if P then 1 else 0
theorem b2_0 {P : Prop} [Decidable P] : (b2 P = 0) = ¬ P := by
  unfold b2
  by_cases h : P
  · simp [h]
  · simp [h]
theorem b2_t {P : Prop} [Decidable P] (h : P) : b2 P = 1 := if_pos h
theorem b2_f {P : Prop} [Decidable P] (h : ¬ P) : b2 P = 0 := if_neg h
theorem b2_bit {P : Prop} [Decidable P] : isBit (b2 P) := by
  unfold b2 isBit
  split <;> simp
/-- a branch on such an answer -/
theorem b2_if {P : Prop} [Decidable P] {A B : Prop} : (if b2 P = 0 then A else B) = (if P then B else A) := by
  by_cases h : P
  · rw [b2_t h, if_neg (by decide), if_pos h]
  · rw [b2_f h, if_pos rfl, if_neg h]
theorem isBit_0 : isBit 0 = True := by simp [isBit]
theorem isBit_1 : isBit 1 = True := by simp [isBit]
/-- a cell's row replaced -/
def hrow (h : Hp) (a : Int) (f : Int → Int) : Hp := fun a' => if a' = a then f else h a'
def up (f : Int → Int) (i v : Int) : Int → Int := fun j => if j = i then v else f j
theorem hrow_at (h : Hp) (a : Int) (f : Int → Int) (b : Int) : hrow h a f b = if b = a then f else h b := rfl
theorem hrow_s (h : Hp) (a : Int) (f : Int → Int) : hrow h a f a = f := if_pos rfl
theorem hrow_n (h : Hp) {a b : Int} (f : Int → Int) (hn : b ≠ a) : hrow h a f b = h b := if_neg hn
theorem hrow_self (h : Hp) (a : Int) : hrow h a (h a) = h := by
  funext b
  rw [hrow_at]
  split
  · subst b; rfl
  · rfl
theorem hrow_row (h : Hp) (a : Int) (f g : Int → Int) : hrow (hrow h a f) a g = hrow h a g := by
  funext b
  simp only [hrow_at]
  split <;> rfl
theorem hrow_swap (h : Hp) {a b : Int} (f g : Int → Int) (hn : a ≠ b) : hrow (hrow h a f) b g = hrow (hrow h b g) a f := by
  funext c
  simp only [hrow_at]
  by_cases h1 : c = a
  · subst h1; rw [if_neg hn, if_pos rfl, if_pos rfl]
  · rw [if_neg h1, if_neg h1]
theorem hst_row (h : Hp) (a i v : Int) : hst h a i v = hrow h a (up (h a) i v) := by
  funext b j
  unfold hst hrow up
  by_cases h1 : b = a
  · subst h1
    simp
  · rw [if_neg (fun z => h1 z.1), if_neg h1]
theorem hst_rr (h : Hp) (a i v : Int) (f : Int → Int) : hst (hrow h a f) a i v = hrow h a (up f i v) := by rw [hst_row, hrow_s, hrow_row]
theorem up_s (f : Int → Int) (i v : Int) : up f i v i = v := if_pos rfl
theorem up_n (f : Int → Int) {i j : Int} (v : Int) (h : j ≠ i) : up f i v j = f j := if_neg h
theorem up_at (f : Int → Int) (i v j : Int) : up f i v j = if j = i then v else f j := rfl
theorem hcpy_row (h : Hp) (a0 sp a dp n : Int) : hcpy h a0 sp a dp n = hrow h a (fun i => if dp ≤ i ∧ i < dp + n then h a0 (sp + (i - dp)) else h a i) := by
  funext b i
  unfold hcpy hrow
  by_cases h1 : b = a
  · subst h1
    simp
  · rw [if_neg (fun z => h1 z.1), if_neg h1]
/-- loops that count up -/
theorem loop_n {P : Nat → Prop} (N : Nat) (hs : ∀ k, k < N → P k = P (k + 1)) : P 0 = P N := by
  have : ∀ k, k ≤ N → P 0 = P k := by
    intro k
    induction k with
    | zero => intro _; rfl
    | succ k ih => intro hk; rw [ih (by omega), hs k (by omega)]
  exact this N (Nat.le_refl N)
theorem loop_from {P : Nat → Prop} (a N : Nat) (ha : a ≤ N) (hs : ∀ k, a ≤ k → k < N → P k = P (k + 1)) : P a = P N := by
  have : ∀ k, a + k ≤ N → P a = P (a + k) := by
    intro k
    induction k with
    | zero => intro _; rfl
    | succ k ih => intro hk; rw [ih (by omega), hs (a + k) (by omega) (by omega)]; rfl
  have h := this (N - a) (by omega)
  rw [show a + (N - a) = N by omega] at h
  exact h
/-- loops that end with an answer: the answer holds at the end, and is handed back -/
theorem loop_r {P R : Nat → Prop} (N : Nat) (he : P N = R N) (hs : ∀ k, k < N → P (k + 1) = R (k + 1) → P k = R k) : P 0 = R 0 := by
  have : ∀ k, k ≤ N → P (N - k) = R (N - k) := by
    intro k
    induction k with
    | zero => intro _; exact he
    | succ k ih =>
      intro hk
      have h1 := hs (N - (k + 1)) (by omega)
      rw [show N - (k + 1) + 1 = N - k by omega] at h1
      exact h1 (ih (by omega))
  have h := this N (Nat.le_refl N)
  rw [Nat.sub_self] at h
  exact h
/-- counting and adding -/
def cnt (p : Int → Prop) [DecidablePred p] : Nat → Int
  | 0 => 0
  | k + 1 => cnt p k + (if p k then 1 else 0)
theorem cnt_b (p : Int → Prop) [DecidablePred p] : ∀ k : Nat, 0 ≤ cnt p k ∧ cnt p k ≤ k
  | 0 => ⟨Int.le_refl _, Int.le_refl _⟩
  | k + 1 => by
    have := cnt_b p k
    show 0 ≤ cnt p k + (if p k then 1 else 0) ∧ cnt p k + (if p k then 1 else 0) ≤ ((k + 1 : Nat) : Int)
    split <;> omega
theorem cnt_t {p : Int → Prop} [DecidablePred p] {k : Nat} (h : p k) : cnt p (k + 1) = cnt p k + 1 := by show _ + (if p k then 1 else 0) = _; rw [if_pos h]
theorem cnt_f {p : Int → Prop} [DecidablePred p] {k : Nat} (h : ¬ p k) : cnt p (k + 1) = cnt p k := by show _ + (if p k then 1 else 0) = _; rw [if_neg h, Int.add_zero]
theorem cnt_c {p q : Int → Prop} [DecidablePred p] [DecidablePred q] : ∀ (k : Nat), (∀ j : Nat, j < k → (p j ↔ q j)) → cnt p k = cnt q k
  | 0, _ => rfl
  | k + 1, h => by
    have ih := cnt_c k (fun j hj => h j (by omega))
    have hk := h k (by omega)
    by_cases z : p k
    · rw [cnt_t z, cnt_t (hk.mp z), ih]
    · rw [cnt_f z, cnt_f (fun w => z (hk.mpr w)), ih]
def sm (f : Int → Int) : Nat → Int
  | 0 => 0
  | k + 1 => sm f k + f k
theorem sm_c {f g : Int → Int} : ∀ (k : Nat), (∀ j : Nat, j < k → f j = g j) → sm f k = sm g k
  | 0, _ => rfl
  | k + 1, h => by show sm f k + f k = sm g k + g k; rw [sm_c k (fun j hj => h j (by omega)), h k (by omega)]
theorem sm_b {f : Int → Int} {lo hi : Int} : ∀ (k : Nat), (∀ j : Nat, j < k → lo ≤ f j ∧ f j ≤ hi) → (k : Int) * lo ≤ sm f k ∧ sm f k ≤ (k : Int) * hi
  | 0, _ => by simp [sm]
  | k + 1, h => by
    have ih := sm_b k (fun j hj => h j (by omega))
    have hk := h k (by omega)
    have e1 : ((k + 1 : Nat) : Int) * lo = (k : Int) * lo + lo := by rw [Int.natCast_succ, Int.add_mul, Int.one_mul]
    have e2 : ((k + 1 : Nat) : Int) * hi = (k : Int) * hi + hi := by rw [Int.natCast_succ, Int.add_mul, Int.one_mul]
    show _ ≤ sm f k + f k ∧ sm f k + f k ≤ _
    rw [e1, e2]
    omega
theorem n1 (k : Nat) : ((k : Int) + 1) = ((k + 1 : Nat) : Int) := rfl
theorem w32_n1 {k : Nat} (h : (k : Int) < 2147483647) : w32 ((k : Int) + 1) = ((k + 1 : Nat) : Int) := by rw [w32_of (by omega) (by omega)]; rfl
