/-! numbers of the machine and of the picture -/
def in32 (v : Int) : Prop := -2147483648 ≤ v ∧ v < 2147483648
def in64 (v : Int) : Prop := -9223372036854775808 ≤ v ∧ v < 9223372036854775808
theorem w32_in (x : Int) : in32 (w32 x) := by unfold in32 w32; omega
theorem w64_in (x : Int) : in64 (w64 x) := by unfold in64 w64; omega
theorem w8_in (x : Int) : in32 (w8 x) := by unfold in32 w8; omega
theorem w32_id {x : Int} (h : in32 x) : w32 x = x := by unfold in32 at h; unfold w32; omega
theorem w64_id {x : Int} (h : in64 x) : w64 x = x := by unfold in64 at h; unfold w64; omega
theorem w32_of {x : Int} (h1 : -2147483648 ≤ x) (h2 : x < 2147483648) : w32 x = x := w32_id ⟨h1, h2⟩
theorem w64_of {x : Int} (h1 : -9223372036854775808 ≤ x) (h2 : x < 9223372036854775808) : w64 x = x := w64_id ⟨h1, h2⟩
theorem in32_64 {x : Int} (h : in32 x) : in64 x := by unfold in32 at h; unfold in64; omega
theorem bm32 (x : Int) : Int.bmod x (2 ^ 32) = w32 x := by
  unfold w32
  rw [Int.bmod_def]
  have e : ((2 ^ 32 : Nat) : Int) = 4294967296 := by decide
  rw [e]
  split <;> omega
theorem bm64 (x : Int) : Int.bmod x (2 ^ 64) = w64 x := by
  unfold w64
  rw [Int.bmod_def]
  have e : ((2 ^ 64 : Nat) : Int) = 18446744073709551616 := by decide
  rw [e]
  split <;> omega
theorem bm8 (x : Int) : Int.bmod x (2 ^ 8) = w8 x := by
  unfold w8
  rw [Int.bmod_def]
  have e : ((2 ^ 8 : Nat) : Int) = 256 := by decide
  rw [e]
  split <;> omega
theorem i32_w (x : Int) : (Int32.ofInt x).toInt = w32 x := by rw [Int32.toInt_ofInt]; exact bm32 x
theorem i64_w (x : Int) : (Int64.ofInt x).toInt = w64 x := by rw [Int64.toInt_ofInt]; exact bm64 x
theorem i32_to {x : Int} (h : in32 x) : (Int32.ofInt x).toInt = x := by rw [i32_w, w32_id h]
theorem i64_to {x : Int} (h : in64 x) : (Int64.ofInt x).toInt = x := by rw [i64_w, w64_id h]
theorem i32_eq {z : Int32} {x : Int} (h : z.toInt = x) : z = Int32.ofInt x := by rw [← h, Int32.ofInt_toInt]
theorem i64_eq {z : Int64} {x : Int} (h : z.toInt = x) : z = Int64.ofInt x := by rw [← h, Int64.ofInt_toInt]
theorem i32_in (z : Int32) : in32 z.toInt := by
  have h := i32_w z.toInt
  rw [Int32.ofInt_toInt] at h
  rw [h]
  exact w32_in _
theorem i64_in (z : Int64) : in64 z.toInt := by
  have h := i64_w z.toInt
  rw [Int64.ofInt_toInt] at h
  rw [h]
  exact w64_in _
theorem o_add {a b : Int} (ha : in32 a) (hb : in32 b) : Int32.ofInt a + Int32.ofInt b = Int32.ofInt (w32 (a + b)) := i32_eq (by rw [Int32.toInt_add, i32_to ha, i32_to hb]; exact bm32 _)
theorem o_sub {a b : Int} (ha : in32 a) (hb : in32 b) : Int32.ofInt a - Int32.ofInt b = Int32.ofInt (w32 (a - b)) := i32_eq (by rw [Int32.toInt_sub, i32_to ha, i32_to hb]; exact bm32 _)
theorem o_mul {a b : Int} (ha : in32 a) (hb : in32 b) : Int32.ofInt a * Int32.ofInt b = Int32.ofInt (w32 (a * b)) := i32_eq (by rw [Int32.toInt_mul, i32_to ha, i32_to hb]; exact bm32 _)
theorem o_div {a b : Int} (ha : in32 a) (hb : in32 b) : Int32.ofInt a / Int32.ofInt b = Int32.ofInt (w32 (a.tdiv b)) := i32_eq (by rw [Int32.toInt_div, i32_to ha, i32_to hb]; exact bm32 _)
theorem o_rem {a b : Int} (ha : in32 a) (hb : in32 b) : Int32.ofInt a - Int32.ofInt a / Int32.ofInt b * Int32.ofInt b = Int32.ofInt (a.tmod b) := i32_eq (by rw [rem_toInt, i32_to ha, i32_to hb])
theorem p_add {a b : Int} (ha : in64 a) (hb : in64 b) : Int64.ofInt a + Int64.ofInt b = Int64.ofInt (w64 (a + b)) := i64_eq (by rw [Int64.toInt_add, i64_to ha, i64_to hb]; exact bm64 _)
theorem p_sub {a b : Int} (ha : in64 a) (hb : in64 b) : Int64.ofInt a - Int64.ofInt b = Int64.ofInt (w64 (a - b)) := i64_eq (by rw [Int64.toInt_sub, i64_to ha, i64_to hb]; exact bm64 _)
theorem p_mul {a b : Int} (ha : in64 a) (hb : in64 b) : Int64.ofInt a * Int64.ofInt b = Int64.ofInt (w64 (a * b)) := i64_eq (by rw [Int64.toInt_mul, i64_to ha, i64_to hb]; exact bm64 _)
theorem p_div {a b : Int} (ha : in64 a) (hb : in64 b) : Int64.ofInt a / Int64.ofInt b = Int64.ofInt (w64 (a.tdiv b)) := i64_eq (by rw [Int64.toInt_div, i64_to ha, i64_to hb]; exact bm64 _)
theorem lrem_mod (x y : Int64) : x - (x / y) * y = x % y := by
  apply Int64.toInt_inj.mp
  have h1 := Int64.le_toInt (x % y)
  have h2 := Int64.toInt_lt (x % y)
  rw [Int64.toInt_sub, Int64.toInt_mul, Int64.toInt_div, Int.bmod_mul_bmod, Int.sub_bmod_bmod, Int.mul_comm (x.toInt.tdiv y.toInt), ← Int.tmod_def, ← Int64.toInt_mod]
  exact Int.bmod_eq_of_le_mul_two (by omega) (by omega)
theorem p_rem {a b : Int} (ha : in64 a) (hb : in64 b) : Int64.ofInt a - Int64.ofInt a / Int64.ofInt b * Int64.ofInt b = Int64.ofInt (a.tmod b) := i64_eq (by rw [lrem_mod, Int64.toInt_mod, i64_to ha, i64_to hb])
theorem tmod_in32 {a b : Int} (ha : in32 a) (hb : in32 b) : in32 (a.tmod b) := by
  have h := Int32.toInt_mod (Int32.ofInt a) (Int32.ofInt b)
  rw [i32_to ha, i32_to hb] at h
  rw [← h]
  exact i32_in _
theorem tmod_in64 {a b : Int} (ha : in64 a) (hb : in64 b) : in64 (a.tmod b) := by
  have h := Int64.toInt_mod (Int64.ofInt a) (Int64.ofInt b)
  rw [i64_to ha, i64_to hb] at h
  rw [← h]
  exact i64_in _
theorem i32op_in (f : Int32 → Int32 → Int32) (a b : Int) : in32 (i32op f a b) := i32_in _
theorem i32op_eq (f : Int32 → Int32 → Int32) (a b : Int) : f (Int32.ofInt a) (Int32.ofInt b) = Int32.ofInt (i32op f a b) := i32_eq rfl
theorem o_ne0 {b : Int} (hb : in32 b) (h : b ≠ 0) : ¬ Int32.ofInt b = 0 := by
  intro e
  have := congrArg Int32.toInt e
  rw [i32_to hb] at this
  exact h this
theorem p_ne0 {b : Int} (hb : in64 b) (h : b ≠ 0) : ¬ Int64.ofInt b = 0 := by
  intro e
  have := congrArg Int64.toInt e
  rw [i64_to hb] at this
  exact h this
theorem o_lt {a b : Int} (ha : in32 a) (hb : in32 b) : Int32.ofInt a < Int32.ofInt b ↔ a < b := by rw [Int32.lt_iff_toInt_lt, i32_to ha, i32_to hb]
theorem o_le {a b : Int} (ha : in32 a) (hb : in32 b) : Int32.ofInt a ≤ Int32.ofInt b ↔ a ≤ b := by rw [Int32.le_iff_toInt_le, i32_to ha, i32_to hb]
theorem o_eq {a b : Int} (ha : in32 a) (hb : in32 b) : Int32.ofInt a = Int32.ofInt b ↔ a = b := by rw [← Int32.toInt_inj, i32_to ha, i32_to hb]
theorem p_lt {a b : Int} (ha : in64 a) (hb : in64 b) : Int64.ofInt a < Int64.ofInt b ↔ a < b := by rw [Int64.lt_iff_toInt_lt, i64_to ha, i64_to hb]
theorem p_eq {a b : Int} (ha : in64 a) (hb : in64 b) : Int64.ofInt a = Int64.ofInt b ↔ a = b := by rw [← Int64.toInt_inj, i64_to ha, i64_to hb]
theorem o_cmp {a b : Int} (ha : in64 a) (hb : in64 b) : lg_cmp (Int64.ofInt a) (Int64.ofInt b) = Int32.ofInt (lcmpI a b) := by
  unfold lg_cmp lcmpI
  have e1 : (Int64.ofInt a > Int64.ofInt b) = (a > b) := propext (p_lt hb ha)
  have e2 : (Int64.ofInt a = Int64.ofInt b) = (a = b) := propext (p_eq ha hb)
  simp only [e1, e2]
  by_cases h1 : a > b
  · simp only [if_pos h1]; rfl
  · simp only [if_neg h1]
    by_cases h2 : a = b
    · simp only [if_pos h2]; rfl
    · simp only [if_neg h2]; rfl
theorem lcmp_in (a b : Int) : in32 (lcmpI a b) := by
  unfold lcmpI in32
  split
  · omega
  · split <;> omega
theorem o_l {a : Int} (ha : in32 a) : (Int32.ofInt a).toInt64 = Int64.ofInt a := i64_eq (by rw [Int32.toInt_toInt64, i32_to ha])
theorem p_i {a : Int} (ha : in64 a) : (Int64.ofInt a).toInt32 = Int32.ofInt (w32 a) := i32_eq (by rw [← Int32.ofInt_int64ToInt, i64_to ha, i32_w])
theorem o_b {a : Int} : (Int32.ofInt a).toInt8.toInt32 = Int32.ofInt (w8 a) := i32_eq (by rw [Int32.toInt8_ofInt, ← Int32.ofInt_int8ToInt, Int8.toInt_ofInt, i32_w, show a.bmod Int8.size = w8 a from bm8 a, w32_id (w8_in a)])
theorem o_bip (n : Int) : (Int8.ofInt n).toInt32 = Int32.ofInt (w8 n) := i32_eq (by rw [← Int32.ofInt_int8ToInt, Int8.toInt_ofInt, i32_w, show n.bmod Int8.size = w8 n from bm8 n, w32_id (w8_in n)])
theorem bm16 (x : Int) : Int.bmod x (2 ^ 16) = (x + 32768) % 65536 - 32768 := by
  rw [Int.bmod_def]
  have e : ((2 ^ 16 : Nat) : Int) = 65536 := by decide
  rw [e]
  split <;> omega
theorem o_sip (n : Int) : (Int16.ofInt n).toInt32 = Int32.ofInt ((n + 32768) % 65536 - 32768) := i32_eq (by rw [← Int32.ofInt_int16ToInt, Int16.toInt_ofInt, i32_w, show n.bmod Int16.size = (n + 32768) % 65536 - 32768 from bm16 n, w32_id (by unfold in32; omega)])
theorem sip_in (n : Int) : in32 ((n + 32768) % 65536 - 32768) := by unfold in32; omega
theorem o_con (n : Int) : Int32.ofInt n = Int32.ofInt (w32 n) := i32_eq (i32_w n)
theorem o_clamp {a : Int} (h0 : 0 ≤ a) (h : in32 a) : (Int32.ofInt a).toNatClampNeg = a.toNat := by rw [← Int32.toNat_toInt, i32_to h]
theorem o_vpin {a : Int} {n : Nat} (h : in32 a) (h0 : 0 ≤ a) (h1 : a < n) : vp_in (Int32.ofInt a) n := by
  rw [vp_in_iff, i32_to h]
  exact ⟨h0, h1⟩
theorem bit_in {v : Int} (h : isBit v) : in32 v := by unfold isBit at h; unfold in32; omega
theorem bit_nar {v : Int} (h : isBit v) : vp_nar .boolean (Int32.ofInt v) = Int32.ofInt v := by
  rcases h with rfl | rfl <;> decide
theorem bit_narrow {v : Int} (h : isBit v) : narrow .boolean (.int (Int32.ofInt v)) = .int (Int32.ofInt v) := by
  rcases h with rfl | rfl <;> rfl
theorem bit_fits {v : Int} (h : isBit v) : fits .boolean (.int (Int32.ofInt v)) = true := by
  rcases h with rfl | rfl <;> decide
