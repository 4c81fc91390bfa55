/-! constructors: a field and its row at once -/
def mkr (h : Hp) (o f a n : Int) : Hp := hst (hnew h (fun _ => 0) n) o f a
theorem mkr_0 {h : Hp} {o f a n c : Int} (ho : 0 ≤ o) (hc : h (-3) 0 = c) : mkr h o f a n (-3) 0 = c + 1 := by
  unfold mkr
  rw [hst_off _ (by omega), hw_0, hc]
theorem mkr_1 {h : Hp} {o f a n c : Int} (ho : 0 ≤ o) (hc : h (-3) 1 = c) : mkr h o f a n (-3) 1 = c + n := by
  unfold mkr
  rw [hst_off _ (by omega), hw_1, hc]
theorem mkr_n {h : Hp} {o f a n : Int} (ha : h (-3) 0 = a) {b : Int} (h1 : b ≠ -3) (h2 : b ≠ o) (h3 : b ≠ a) : mkr h o f a n b = h b := by
  unfold mkr
  rw [hst_off _ h2, hw_n ha h3 h1]
theorem mkr_a {h : Hp} {o f a n : Int} (ha : h (-3) 0 = a) (h0 : 0 ≤ a) (h2 : a ≠ o) : mkr h o f a n a = fun _ => 0 := by
  unfold mkr
  rw [hst_off _ h2, hw_s ha h0]
theorem mkr_o {h : Hp} {o f a n : Int} (ha : h (-3) 0 = a) (h0 : 0 ≤ o) (h2 : o ≠ a) : mkr h o f a n o = up (h o) f a := by
  unfold mkr
  rw [hst_row, hrow_s, hw_n ha h2 (by omega)]
