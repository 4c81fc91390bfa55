/-! the law, case by case (by program) -/
theorem lcmp_self (a : Int) : lcmpI a a = 0 := by
  unfold lcmpI
  rw [if_neg (by omega), if_pos rfl]
theorem c_row {n i : Int} {g : Hp} (hi : 0 ≤ i) (h6 : i + 6 ≤ n) (hn : n ≤ 3072) (hs : ∀ k : Int, 0 ≤ k → k < n → in32 (g (-2) k)) (hC : Cpl g) : ∃ g' : Hp, Cpl g' ∧ g' (-2) = g (-2) ∧ ∀ Q : Int → Hp → Prop, Ws (EF n) 9 mL_law Q 248 [(2, (-2)), (2, 0), (2, 50), (0, i)] [] g = Ws (EF n) 9 mL_law Q 18 [(2, (-2)), (2, 0), (2, 50), (0, i + 6)] [] g' := by
  have w1 : w32 (i + 1) = i + 1 := w32_of (by omega) (by omega)
  have w2 : w32 (i + 2) = i + 2 := w32_of (by omega) (by omega)
  have w6 : w32 (i + 6) = i + 6 := w32_of (by omega) (by omega)
  have c1 : 0 ≤ i + 1 ∧ i + 1 < n := by omega
  have c2 : 0 ≤ i + 2 ∧ i + 2 < n := by omega
  obtain ⟨a, h1, h2, e1, e2, hC2, q1, q2⟩ := law_case (n := n) (as := [(0, g (-2) (i + 1)), (0, g (-2) (i + 2))]) (p_row) hC
  refine ⟨h2, hC2, q2, fun Q => ?_⟩
  rw [b_L_law_248]
  simp only [w1, w2, w6, and_tl c1, and_tl c2]
  rw [e1]
  rw [q1]
  rw [e2]
  rw [if_pos rfl]
theorem c_lay {n i : Int} {g : Hp} (hi : 0 ≤ i) (h6 : i + 6 ≤ n) (hn : n ≤ 3072) (hs : ∀ k : Int, 0 ≤ k → k < n → in32 (g (-2) k)) (hC : Cpl g) : ∃ g' : Hp, Cpl g' ∧ g' (-2) = g (-2) ∧ ∀ Q : Int → Hp → Prop, Ws (EF n) 9 mL_law Q 281 [(2, (-2)), (2, 0), (2, 50), (0, i)] [] g = Ws (EF n) 9 mL_law Q 18 [(2, (-2)), (2, 0), (2, 50), (0, i + 6)] [] g' := by
  have w1 : w32 (i + 1) = i + 1 := w32_of (by omega) (by omega)
  have w2 : w32 (i + 2) = i + 2 := w32_of (by omega) (by omega)
  have w3 : w32 (i + 3) = i + 3 := w32_of (by omega) (by omega)
  have w6 : w32 (i + 6) = i + 6 := w32_of (by omega) (by omega)
  have c1 : 0 ≤ i + 1 ∧ i + 1 < n := by omega
  have c2 : 0 ≤ i + 2 ∧ i + 2 < n := by omega
  have c3 : 0 ≤ i + 3 ∧ i + 3 < n := by omega
  obtain ⟨a, h1, h2, e1, e2, hC2, q1, q2⟩ := law_case (n := n) (as := [(0, g (-2) (i + 1)), (0, g (-2) (i + 2)), (0, g (-2) (i + 3))]) (p_lay (hs _ c2.1 c2.2) (hs _ c3.1 c3.2)) hC
  refine ⟨h2, hC2, q2, fun Q => ?_⟩
  rw [b_L_law_281]
  simp only [w1, w2, w3, w6, and_tl c1, and_tl c2, and_tl c3]
  rw [e1]
  rw [q1]
  rw [e2]
  rw [if_pos rfl]
theorem c_tear {n i : Int} {g : Hp} (hi : 0 ≤ i) (h6 : i + 6 ≤ n) (hn : n ≤ 3072) (hs : ∀ k : Int, 0 ≤ k → k < n → in32 (g (-2) k)) (hC : Cpl g) : ∃ g' : Hp, Cpl g' ∧ g' (-2) = g (-2) ∧ ∀ Q : Int → Hp → Prop, Ws (EF n) 9 mL_law Q 324 [(2, (-2)), (2, 0), (2, 50), (0, i)] [] g = Ws (EF n) 9 mL_law Q 18 [(2, (-2)), (2, 0), (2, 50), (0, i + 6)] [] g' := by
  have w1 : w32 (i + 1) = i + 1 := w32_of (by omega) (by omega)
  have w6 : w32 (i + 6) = i + 6 := w32_of (by omega) (by omega)
  have c1 : 0 ≤ i + 1 ∧ i + 1 < n := by omega
  obtain ⟨a, h1, h2, e1, e2, hC2, q1, q2⟩ := law_case (n := n) (as := [(0, g (-2) (i + 1))]) (p_tear) hC
  refine ⟨h2, hC2, q2, fun Q => ?_⟩
  rw [b_L_law_324]
  simp only [w1, w6, and_tl c1]
  rw [e1]
  rw [q1]
  rw [e2]
  rw [if_pos rfl]
theorem c_copy {n i : Int} {g : Hp} (hi : 0 ≤ i) (h6 : i + 6 ≤ n) (hn : n ≤ 3072) (hs : ∀ k : Int, 0 ≤ k → k < n → in32 (g (-2) k)) (hC : Cpl g) : ∃ g' : Hp, Cpl g' ∧ g' (-2) = g (-2) ∧ ∀ Q : Int → Hp → Prop, Ws (EF n) 9 mL_law Q 347 [(2, (-2)), (2, 0), (2, 50), (0, i)] [] g = Ws (EF n) 9 mL_law Q 18 [(2, (-2)), (2, 0), (2, 50), (0, i + 6)] [] g' := by
  have w1 : w32 (i + 1) = i + 1 := w32_of (by omega) (by omega)
  have w2 : w32 (i + 2) = i + 2 := w32_of (by omega) (by omega)
  have w3 : w32 (i + 3) = i + 3 := w32_of (by omega) (by omega)
  have w4 : w32 (i + 4) = i + 4 := w32_of (by omega) (by omega)
  have w5 : w32 (i + 5) = i + 5 := w32_of (by omega) (by omega)
  have w6 : w32 (i + 6) = i + 6 := w32_of (by omega) (by omega)
  have c1 : 0 ≤ i + 1 ∧ i + 1 < n := by omega
  have c2 : 0 ≤ i + 2 ∧ i + 2 < n := by omega
  have c3 : 0 ≤ i + 3 ∧ i + 3 < n := by omega
  have c4 : 0 ≤ i + 4 ∧ i + 4 < n := by omega
  have c5 : 0 ≤ i + 5 ∧ i + 5 < n := by omega
  obtain ⟨a, h1, h2, e1, e2, hC2, q1, q2⟩ := law_case (n := n) (as := [(0, g (-2) (i + 1)), (0, g (-2) (i + 2)), (0, g (-2) (i + 3)), (0, g (-2) (i + 4)), (0, g (-2) (i + 5))]) (p_copy (hs _ c2.1 c2.2) (hs _ c4.1 c4.2) (hs _ c5.1 c5.2)) hC
  refine ⟨h2, hC2, q2, fun Q => ?_⟩
  rw [b_L_law_347]
  simp only [w1, w2, w3, w4, w5, w6, and_tl c1, and_tl c2, and_tl c3, and_tl c4, and_tl c5]
  rw [e1]
  rw [q1]
  rw [e2]
  rw [if_pos rfl]
theorem c_average {n i : Int} {g : Hp} (hi : 0 ≤ i) (h6 : i + 6 ≤ n) (hn : n ≤ 3072) (hs : ∀ k : Int, 0 ≤ k → k < n → in32 (g (-2) k)) (hC : Cpl g) : ∃ g' : Hp, Cpl g' ∧ g' (-2) = g (-2) ∧ ∀ Q : Int → Hp → Prop, Ws (EF n) 9 mL_law Q 410 [(2, (-2)), (2, 0), (2, 50), (0, i)] [] g = Ws (EF n) 9 mL_law Q 18 [(2, (-2)), (2, 0), (2, 50), (0, i + 6)] [] g' := by
  have w1 : w32 (i + 1) = i + 1 := w32_of (by omega) (by omega)
  have w6 : w32 (i + 6) = i + 6 := w32_of (by omega) (by omega)
  have c1 : 0 ≤ i + 1 ∧ i + 1 < n := by omega
  obtain ⟨a, h1, h2, e1, e2, hC2, q1, q2⟩ := law_case (n := n) (as := [(0, g (-2) (i + 1))]) (p_average) hC
  refine ⟨h2, hC2, q2, fun Q => ?_⟩
  rw [b_L_law_410]
  simp only [w1, w6, and_tl c1]
  rw [e1]
  rw [q1]
  rw [e2]
  rw [if_pos rfl]
theorem c_text {n i : Int} {g : Hp} (hi : 0 ≤ i) (h6 : i + 6 ≤ n) (hn : n ≤ 3072) (hs : ∀ k : Int, 0 ≤ k → k < n → in32 (g (-2) k)) (hC : Cpl g) : ∃ g' : Hp, Cpl g' ∧ g' (-2) = g (-2) ∧ ∀ Q : Int → Hp → Prop, Ws (EF n) 9 mL_law Q 433 [(2, (-2)), (2, 0), (2, 50), (0, i)] [] g = Ws (EF n) 9 mL_law Q 18 [(2, (-2)), (2, 0), (2, 50), (0, i + 6)] [] g' := by
  have w1 : w32 (i + 1) = i + 1 := w32_of (by omega) (by omega)
  have w2 : w32 (i + 2) = i + 2 := w32_of (by omega) (by omega)
  have w6 : w32 (i + 6) = i + 6 := w32_of (by omega) (by omega)
  have c1 : 0 ≤ i + 1 ∧ i + 1 < n := by omega
  have c2 : 0 ≤ i + 2 ∧ i + 2 < n := by omega
  obtain ⟨a, h1, h2, e1, e2, hC2, q1, q2⟩ := law_case (n := n) (as := [(0, g (-2) (i + 1)), (0, g (-2) (i + 2))]) (p_text) hC
  refine ⟨h2, hC2, q2, fun Q => ?_⟩
  rw [b_L_law_433]
  simp only [w1, w2, w6, and_tl c1, and_tl c2]
  rw [e1]
  rw [q1]
  rw [e2]
  rw [if_pos rfl]
theorem c_put {n i : Int} {g : Hp} (hi : 0 ≤ i) (h6 : i + 6 ≤ n) (hn : n ≤ 3072) (hs : ∀ k : Int, 0 ≤ k → k < n → in32 (g (-2) k)) (hC : Cpl g) : ∃ g' : Hp, Cpl g' ∧ g' (-2) = g (-2) ∧ ∀ Q : Int → Hp → Prop, Ws (EF n) 9 mL_law Q 466 [(2, (-2)), (2, 0), (2, 50), (0, i)] [] g = Ws (EF n) 9 mL_law Q 18 [(2, (-2)), (2, 0), (2, 50), (0, i + 6)] [] g' := by
  have w1 : w32 (i + 1) = i + 1 := w32_of (by omega) (by omega)
  have w2 : w32 (i + 2) = i + 2 := w32_of (by omega) (by omega)
  have w3 : w32 (i + 3) = i + 3 := w32_of (by omega) (by omega)
  have w6 : w32 (i + 6) = i + 6 := w32_of (by omega) (by omega)
  have c1 : 0 ≤ i + 1 ∧ i + 1 < n := by omega
  have c2 : 0 ≤ i + 2 ∧ i + 2 < n := by omega
  have c3 : 0 ≤ i + 3 ∧ i + 3 < n := by omega
  obtain ⟨a, h1, h2, e1, e2, hC2, q1, q2⟩ := law_case (n := n) (as := [(0, g (-2) (i + 1)), (0, g (-2) (i + 2)), (0, g (-2) (i + 3))]) (p_put (hs _ c2.1 c2.2)) hC
  refine ⟨h2, hC2, q2, fun Q => ?_⟩
  rw [b_L_law_466]
  simp only [w1, w2, w3, w6, and_tl c1, and_tl c2, and_tl c3]
  rw [e1]
  rw [q1]
  rw [e2]
  rw [if_pos rfl]
theorem c_fault {n i : Int} {g : Hp} (hi : 0 ≤ i) (h6 : i + 6 ≤ n) (hn : n ≤ 3072) (hs : ∀ k : Int, 0 ≤ k → k < n → in32 (g (-2) k)) (hC : Cpl g) : ∃ g' : Hp, Cpl g' ∧ g' (-2) = g (-2) ∧ ∀ Q : Int → Hp → Prop, Ws (EF n) 9 mL_law Q 509 [(2, (-2)), (2, 0), (2, 50), (0, i)] [] g = Ws (EF n) 9 mL_law Q 18 [(2, (-2)), (2, 0), (2, 50), (0, i + 6)] [] g' := by
  have w1 : w32 (i + 1) = i + 1 := w32_of (by omega) (by omega)
  have w6 : w32 (i + 6) = i + 6 := w32_of (by omega) (by omega)
  have c1 : 0 ≤ i + 1 ∧ i + 1 < n := by omega
  obtain ⟨a, h1, h2, e1, e2, hC2, q1, q2⟩ := law_case (n := n) (as := [(0, g (-2) (i + 1))]) (p_fault) hC
  refine ⟨h2, hC2, q2, fun Q => ?_⟩
  rw [b_L_law_509]
  simp only [w1, w6, and_tl c1]
  rw [e1]
  rw [q1]
  rw [e2]
  rw [if_pos rfl]
theorem c_field {n i : Int} {g : Hp} (hi : 0 ≤ i) (h6 : i + 6 ≤ n) (hn : n ≤ 3072) (hs : ∀ k : Int, 0 ≤ k → k < n → in32 (g (-2) k)) (hC : Cpl g) : ∃ g' : Hp, Cpl g' ∧ g' (-2) = g (-2) ∧ ∀ Q : Int → Hp → Prop, Ws (EF n) 9 mL_law Q 532 [(2, (-2)), (2, 0), (2, 50), (0, i)] [] g = Ws (EF n) 9 mL_law Q 18 [(2, (-2)), (2, 0), (2, 50), (0, i + 6)] [] g' := by
  have w1 : w32 (i + 1) = i + 1 := w32_of (by omega) (by omega)
  have w6 : w32 (i + 6) = i + 6 := w32_of (by omega) (by omega)
  have c1 : 0 ≤ i + 1 ∧ i + 1 < n := by omega
  obtain ⟨a, h1, h2, e1, e2, hC2, q1, q2⟩ := law_case (n := n) (as := [(0, g (-2) (i + 1))]) (p_field) hC
  refine ⟨h2, hC2, q2, fun Q => ?_⟩
  rw [b_L_law_532]
  simp only [w1, w6, and_tl c1]
  rw [e1]
  rw [q1]
  rw [e2]
  rw [if_pos rfl]
theorem c_amount {n i : Int} {g : Hp} (hi : 0 ≤ i) (h6 : i + 6 ≤ n) (hn : n ≤ 3072) (hs : ∀ k : Int, 0 ≤ k → k < n → in32 (g (-2) k)) (hC : Cpl g) : ∃ g' : Hp, Cpl g' ∧ g' (-2) = g (-2) ∧ ∀ Q : Int → Hp → Prop, Ws (EF n) 9 mL_law Q 555 [(2, (-2)), (2, 0), (2, 50), (0, i)] [] g = Ws (EF n) 9 mL_law Q 18 [(2, (-2)), (2, 0), (2, 50), (0, i + 6)] [] g' := by
  have w1 : w32 (i + 1) = i + 1 := w32_of (by omega) (by omega)
  have w2 : w32 (i + 2) = i + 2 := w32_of (by omega) (by omega)
  have w6 : w32 (i + 6) = i + 6 := w32_of (by omega) (by omega)
  have c1 : 0 ≤ i + 1 ∧ i + 1 < n := by omega
  have c2 : 0 ≤ i + 2 ∧ i + 2 < n := by omega
  obtain ⟨a, h1, h2, e1, e2, hC2, q1, q2⟩ := law_case (n := n) (as := [(0, g (-2) (i + 1)), (0, g (-2) (i + 2))]) (p_amount) hC
  refine ⟨h2, hC2, q2, fun Q => ?_⟩
  rw [b_L_law_555]
  simp only [w1, w2, w6, and_tl c1, and_tl c2]
  rw [e1]
  rw [q1]
  rw [e2]
  rw [if_pos rfl]
theorem c_fill {n i : Int} {g : Hp} (hi : 0 ≤ i) (h6 : i + 6 ≤ n) (hn : n ≤ 3072) (hs : ∀ k : Int, 0 ≤ k → k < n → in32 (g (-2) k)) (hC : Cpl g) : ∃ g' : Hp, Cpl g' ∧ g' (-2) = g (-2) ∧ ∀ Q : Int → Hp → Prop, Ws (EF n) 9 mL_law Q 588 [(2, (-2)), (2, 0), (2, 50), (0, i)] [] g = Ws (EF n) 9 mL_law Q 18 [(2, (-2)), (2, 0), (2, 50), (0, i + 6)] [] g' := by
  have w1 : w32 (i + 1) = i + 1 := w32_of (by omega) (by omega)
  have w6 : w32 (i + 6) = i + 6 := w32_of (by omega) (by omega)
  have c1 : 0 ≤ i + 1 ∧ i + 1 < n := by omega
  obtain ⟨a, h1, h2, e1, e2, hC2, q1, q2⟩ := law_case (n := n) (as := [(0, g (-2) (i + 1))]) (p_fill) hC
  refine ⟨h2, hC2, q2, fun Q => ?_⟩
  rw [b_L_law_588]
  simp only [w1, w6, and_tl c1]
  rw [e1]
  rw [q1]
  rw [e2]
  rw [if_pos rfl]
theorem c_told {n i : Int} {g : Hp} (hi : 0 ≤ i) (h6 : i + 6 ≤ n) (hn : n ≤ 3072) (hs : ∀ k : Int, 0 ≤ k → k < n → in32 (g (-2) k)) (hC : Cpl g) : ∃ g' : Hp, Cpl g' ∧ g' (-2) = g (-2) ∧ ∀ Q : Int → Hp → Prop, Ws (EF n) 9 mL_law Q 611 [(2, (-2)), (2, 0), (2, 50), (0, i)] [] g = Ws (EF n) 9 mL_law Q 18 [(2, (-2)), (2, 0), (2, 50), (0, i + 6)] [] g' := by
  have w1 : w32 (i + 1) = i + 1 := w32_of (by omega) (by omega)
  have w2 : w32 (i + 2) = i + 2 := w32_of (by omega) (by omega)
  have w6 : w32 (i + 6) = i + 6 := w32_of (by omega) (by omega)
  have c1 : 0 ≤ i + 1 ∧ i + 1 < n := by omega
  have c2 : 0 ≤ i + 2 ∧ i + 2 < n := by omega
  obtain ⟨a, h1, h2, e1, e2, hC2, q1, q2⟩ := law_case (n := n) (as := [(0, g (-2) (i + 1)), (0, g (-2) (i + 2))]) (p_told) hC
  refine ⟨h2, hC2, q2, fun Q => ?_⟩
  rw [b_L_law_611]
  simp only [w1, w2, w6, and_tl c1, and_tl c2]
  rw [e1]
  rw [q1]
  rw [e2]
  rw [if_pos rfl]
theorem c_mark {n i : Int} {g : Hp} (hi : 0 ≤ i) (h6 : i + 6 ≤ n) (hn : n ≤ 3072) (hs : ∀ k : Int, 0 ≤ k → k < n → in32 (g (-2) k)) (hC : Cpl g) : ∃ g' : Hp, Cpl g' ∧ g' (-2) = g (-2) ∧ ∀ Q : Int → Hp → Prop, Ws (EF n) 9 mL_law Q 644 [(2, (-2)), (2, 0), (2, 50), (0, i)] [] g = Ws (EF n) 9 mL_law Q 18 [(2, (-2)), (2, 0), (2, 50), (0, i + 6)] [] g' := by
  have w1 : w32 (i + 1) = i + 1 := w32_of (by omega) (by omega)
  have w2 : w32 (i + 2) = i + 2 := w32_of (by omega) (by omega)
  have w6 : w32 (i + 6) = i + 6 := w32_of (by omega) (by omega)
  have c1 : 0 ≤ i + 1 ∧ i + 1 < n := by omega
  have c2 : 0 ≤ i + 2 ∧ i + 2 < n := by omega
  obtain ⟨a, h1, h2, e1, e2, hC2, q1, q2⟩ := law_case (n := n) (as := [(0, g (-2) (i + 1)), (0, g (-2) (i + 2))]) (p_mark) hC
  refine ⟨h2, hC2, q2, fun Q => ?_⟩
  rw [b_L_law_644]
  simp only [w1, w2, w6, and_tl c1, and_tl c2]
  rw [e1]
  rw [q1]
  rw [e2]
  rw [if_pos rfl]
theorem c_at {n i : Int} {g : Hp} (hi : 0 ≤ i) (h6 : i + 6 ≤ n) (hn : n ≤ 3072) (hs : ∀ k : Int, 0 ≤ k → k < n → in32 (g (-2) k)) (hC : Cpl g) : ∃ g' : Hp, Cpl g' ∧ g' (-2) = g (-2) ∧ ∀ Q : Int → Hp → Prop, Ws (EF n) 9 mL_law Q 677 [(2, (-2)), (2, 0), (2, 50), (0, i)] [] g = Ws (EF n) 9 mL_law Q 18 [(2, (-2)), (2, 0), (2, 50), (0, i + 6)] [] g' := by
  have w1 : w32 (i + 1) = i + 1 := w32_of (by omega) (by omega)
  have w2 : w32 (i + 2) = i + 2 := w32_of (by omega) (by omega)
  have w6 : w32 (i + 6) = i + 6 := w32_of (by omega) (by omega)
  have c1 : 0 ≤ i + 1 ∧ i + 1 < n := by omega
  have c2 : 0 ≤ i + 2 ∧ i + 2 < n := by omega
  obtain ⟨a, h1, h2, e1, e2, hC2, q1, q2⟩ := law_case (n := n) (as := [(0, g (-2) (i + 1)), (0, g (-2) (i + 2))]) (p_at) hC
  refine ⟨h2, hC2, q2, fun Q => ?_⟩
  rw [b_L_law_677]
  simp only [w1, w2, w6, and_tl c1, and_tl c2]
  rw [e1]
  rw [q1]
  rw [e2]
  rw [if_pos rfl]
theorem c_part {n i : Int} {g : Hp} (hi : 0 ≤ i) (h6 : i + 6 ≤ n) (hn : n ≤ 3072) (hs : ∀ k : Int, 0 ≤ k → k < n → in32 (g (-2) k)) (hC : Cpl g) : ∃ g' : Hp, Cpl g' ∧ g' (-2) = g (-2) ∧ ∀ Q : Int → Hp → Prop, Ws (EF n) 9 mL_law Q 710 [(2, (-2)), (2, 0), (2, 50), (0, i)] [] g = Ws (EF n) 9 mL_law Q 18 [(2, (-2)), (2, 0), (2, 50), (0, i + 6)] [] g' := by
  have w1 : w32 (i + 1) = i + 1 := w32_of (by omega) (by omega)
  have w6 : w32 (i + 6) = i + 6 := w32_of (by omega) (by omega)
  have c1 : 0 ≤ i + 1 ∧ i + 1 < n := by omega
  obtain ⟨a, h1, h2, e1, e2, hC2, q1, q2⟩ := law_case (n := n) (as := [(0, g (-2) (i + 1))]) (p_part) hC
  refine ⟨h2, hC2, q2, fun Q => ?_⟩
  rw [b_L_law_710]
  simp only [w1, w6, and_tl c1]
  rw [e1]
  rw [q1]
  rw [e2]
  rw [if_pos rfl]
theorem c_join {n i : Int} {g : Hp} (hi : 0 ≤ i) (h6 : i + 6 ≤ n) (hn : n ≤ 3072) (hs : ∀ k : Int, 0 ≤ k → k < n → in32 (g (-2) k)) (hC : Cpl g) : ∃ g' : Hp, Cpl g' ∧ g' (-2) = g (-2) ∧ ∀ Q : Int → Hp → Prop, Ws (EF n) 9 mL_law Q 733 [(2, (-2)), (2, 0), (2, 50), (0, i)] [] g = Ws (EF n) 9 mL_law Q 18 [(2, (-2)), (2, 0), (2, 50), (0, i + 6)] [] g' := by
  have w1 : w32 (i + 1) = i + 1 := w32_of (by omega) (by omega)
  have w6 : w32 (i + 6) = i + 6 := w32_of (by omega) (by omega)
  have c1 : 0 ≤ i + 1 ∧ i + 1 < n := by omega
  obtain ⟨a, h1, h2, e1, e2, hC2, q1, q2⟩ := law_case (n := n) (as := [(0, g (-2) (i + 1))]) (p_join) hC
  refine ⟨h2, hC2, q2, fun Q => ?_⟩
  rw [b_L_law_733]
  simp only [w1, w6, and_tl c1]
  rw [e1]
  rw [q1]
  rw [e2]
  rw [if_pos rfl]
theorem c_edge {n i : Int} {g : Hp} (hi : 0 ≤ i) (h6 : i + 6 ≤ n) (hn : n ≤ 3072) (hs : ∀ k : Int, 0 ≤ k → k < n → in32 (g (-2) k)) (hC : Cpl g) : ∃ g' : Hp, Cpl g' ∧ g' (-2) = g (-2) ∧ ∀ Q : Int → Hp → Prop, Ws (EF n) 9 mL_law Q 756 [(2, (-2)), (2, 0), (2, 50), (0, i)] [] g = Ws (EF n) 9 mL_law Q 18 [(2, (-2)), (2, 0), (2, 50), (0, i + 6)] [] g' := by
  have w1 : w32 (i + 1) = i + 1 := w32_of (by omega) (by omega)
  have w2 : w32 (i + 2) = i + 2 := w32_of (by omega) (by omega)
  have w6 : w32 (i + 6) = i + 6 := w32_of (by omega) (by omega)
  have c1 : 0 ≤ i + 1 ∧ i + 1 < n := by omega
  have c2 : 0 ≤ i + 2 ∧ i + 2 < n := by omega
  obtain ⟨v, hv⟩ : ∃ v : Int, v = (if g (-2) (i + 2) = 0 then 0 else 1) := ⟨_, rfl⟩
  obtain ⟨a, h1, h2, e1, e2, hC2, q1, q2⟩ := law_case (n := n) (as := [(0, g (-2) (i + 1)), (0, v)]) p_edge hC
  refine ⟨h2, hC2, q2, fun Q => ?_⟩
  have k3 : Ws (EF n) 9 mL_law Q 797 [(2, (-2)), (2, 0), (2, 50), (0, i)] [(0, v), (0, g (-2) (i + 1)), (2, 50), (0, a)] h1 = Ws (EF n) 9 mL_law Q 18 [(2, (-2)), (2, 0), (2, 50), (0, i + 6)] [] h2 := by
    rw [b_L_law_797, e2, if_pos rfl, w6]
  have k2 : Ws (EF n) 9 mL_law Q 775 [(2, (-2)), (2, 0), (2, 50), (0, i)] [(0, v), (0, g (-2) (i + 1)), (2, 0)] g = Ws (EF n) 9 mL_law Q 18 [(2, (-2)), (2, 0), (2, 50), (0, i + 6)] [] h2 := by
    rw [b_L_law_775, e1]
    simp only [w1, w2, and_tl c1, and_tl c2]
    rw [q1]
    by_cases z : g (-2) (i + 2) = 0
    · rw [if_pos z]
      rw [if_pos z] at hv
      rw [hv] at k3
      exact k3
    · rw [if_neg z]
      rw [if_neg z] at hv
      rw [hv] at k3
      exact k3
  rw [b_L_law_756]
  simp only [w1, w2, and_tl c1, and_tl c2]
  by_cases z : g (-2) (i + 2) = 0
  · rw [if_pos z]
    rw [if_pos z] at hv
    rw [hv] at k2
    exact k2
  · rw [if_neg z]
    rw [if_neg z] at hv
    rw [hv] at k2
    exact k2
theorem c_freeze {n i : Int} {g : Hp} (hi : 0 ≤ i) (h6 : i + 6 ≤ n) (hn : n ≤ 3072) (hs : ∀ k : Int, 0 ≤ k → k < n → in32 (g (-2) k)) (hC : Cpl g) : ∃ g' : Hp, Cpl g' ∧ g' (-2) = g (-2) ∧ ∀ Q : Int → Hp → Prop, Ws (EF n) 9 mL_law Q 805 [(2, (-2)), (2, 0), (2, 50), (0, i)] [] g = Ws (EF n) 9 mL_law Q 18 [(2, (-2)), (2, 0), (2, 50), (0, i + 6)] [] g' := by
  have w1 : w32 (i + 1) = i + 1 := w32_of (by omega) (by omega)
  have w2 : w32 (i + 2) = i + 2 := w32_of (by omega) (by omega)
  have w6 : w32 (i + 6) = i + 6 := w32_of (by omega) (by omega)
  have c1 : 0 ≤ i + 1 ∧ i + 1 < n := by omega
  have c2 : 0 ≤ i + 2 ∧ i + 2 < n := by omega
  obtain ⟨v, hv⟩ : ∃ v : Int, v = (if g (-2) (i + 2) = 0 then 0 else 1) := ⟨_, rfl⟩
  obtain ⟨a, h1, h2, e1, e2, hC2, q1, q2⟩ := law_case (n := n) (as := [(0, g (-2) (i + 1)), (0, v)]) p_freeze hC
  refine ⟨h2, hC2, q2, fun Q => ?_⟩
  have k3 : Ws (EF n) 9 mL_law Q 846 [(2, (-2)), (2, 0), (2, 50), (0, i)] [(0, v), (0, g (-2) (i + 1)), (2, 50), (0, a)] h1 = Ws (EF n) 9 mL_law Q 18 [(2, (-2)), (2, 0), (2, 50), (0, i + 6)] [] h2 := by
    rw [b_L_law_846, e2, if_pos rfl, w6]
  have k2 : Ws (EF n) 9 mL_law Q 824 [(2, (-2)), (2, 0), (2, 50), (0, i)] [(0, v), (0, g (-2) (i + 1)), (2, 0)] g = Ws (EF n) 9 mL_law Q 18 [(2, (-2)), (2, 0), (2, 50), (0, i + 6)] [] h2 := by
    rw [b_L_law_824, e1]
    simp only [w1, w2, and_tl c1, and_tl c2]
    rw [q1]
    by_cases z : g (-2) (i + 2) = 0
    · rw [if_pos z]
      rw [if_pos z] at hv
      rw [hv] at k3
      exact k3
    · rw [if_neg z]
      rw [if_neg z] at hv
      rw [hv] at k3
      exact k3
  rw [b_L_law_805]
  simp only [w1, w2, and_tl c1, and_tl c2]
  by_cases z : g (-2) (i + 2) = 0
  · rw [if_pos z]
    rw [if_pos z] at hv
    rw [hv] at k2
    exact k2
  · rw [if_neg z]
    rw [if_neg z] at hv
    rw [hv] at k2
    exact k2
theorem c_see {n i : Int} {g : Hp} (hi : 0 ≤ i) (h6 : i + 6 ≤ n) (hn : n ≤ 3072) (hs : ∀ k : Int, 0 ≤ k → k < n → in32 (g (-2) k)) (hC : Cpl g) : ∃ g' : Hp, Cpl g' ∧ g' (-2) = g (-2) ∧ ∀ Q : Int → Hp → Prop, Ws (EF n) 9 mL_law Q 854 [(2, (-2)), (2, 0), (2, 50), (0, i)] [] g = Ws (EF n) 9 mL_law Q 18 [(2, (-2)), (2, 0), (2, 50), (0, i + 6)] [] g' := by
  have w1 : w32 (i + 1) = i + 1 := w32_of (by omega) (by omega)
  have w2 : w32 (i + 2) = i + 2 := w32_of (by omega) (by omega)
  have w6 : w32 (i + 6) = i + 6 := w32_of (by omega) (by omega)
  have c1 : 0 ≤ i + 1 ∧ i + 1 < n := by omega
  have c2 : 0 ≤ i + 2 ∧ i + 2 < n := by omega
  obtain ⟨v, hv⟩ : ∃ v : Int, v = (if g (-2) (i + 2) = 0 then 0 else 1) := ⟨_, rfl⟩
  obtain ⟨a, h1, h2, e1, e2, hC2, q1, q2⟩ := law_case (n := n) (as := [(0, g (-2) (i + 1)), (0, v)]) p_see hC
  refine ⟨h2, hC2, q2, fun Q => ?_⟩
  have k3 : Ws (EF n) 9 mL_law Q 895 [(2, (-2)), (2, 0), (2, 50), (0, i)] [(0, v), (0, g (-2) (i + 1)), (2, 50), (0, a)] h1 = Ws (EF n) 9 mL_law Q 18 [(2, (-2)), (2, 0), (2, 50), (0, i + 6)] [] h2 := by
    rw [b_L_law_895, e2, if_pos rfl, w6]
  have k2 : Ws (EF n) 9 mL_law Q 873 [(2, (-2)), (2, 0), (2, 50), (0, i)] [(0, v), (0, g (-2) (i + 1)), (2, 0)] g = Ws (EF n) 9 mL_law Q 18 [(2, (-2)), (2, 0), (2, 50), (0, i + 6)] [] h2 := by
    rw [b_L_law_873, e1]
    simp only [w1, w2, and_tl c1, and_tl c2]
    rw [q1]
    by_cases z : g (-2) (i + 2) = 0
    · rw [if_pos z]
      rw [if_pos z] at hv
      rw [hv] at k3
      exact k3
    · rw [if_neg z]
      rw [if_neg z] at hv
      rw [hv] at k3
      exact k3
  rw [b_L_law_854]
  simp only [w1, w2, and_tl c1, and_tl c2]
  by_cases z : g (-2) (i + 2) = 0
  · rw [if_pos z]
    rw [if_pos z] at hv
    rw [hv] at k2
    exact k2
  · rw [if_neg z]
    rw [if_neg z] at hv
    rw [hv] at k2
    exact k2
theorem c_tick {n i : Int} {g : Hp} (hi : 0 ≤ i) (h6 : i + 6 ≤ n) (hn : n ≤ 3072) (hs : ∀ k : Int, 0 ≤ k → k < n → in32 (g (-2) k)) (hC : Cpl g) : ∃ g' : Hp, Cpl g' ∧ g' (-2) = g (-2) ∧ ∀ Q : Int → Hp → Prop, Ws (EF n) 9 mL_law Q 903 [(2, (-2)), (2, 0), (2, 50), (0, i)] [] g = Ws (EF n) 9 mL_law Q 18 [(2, (-2)), (2, 0), (2, 50), (0, i + 6)] [] g' := by
  have w6 : w32 (i + 6) = i + 6 := w32_of (by omega) (by omega)
  obtain ⟨a, h1, h2, e1, e2, hC2, q1, q2⟩ := law_case (n := n) (as := []) (p_tick) hC
  refine ⟨h2, hC2, q2, fun Q => ?_⟩
  rw [b_L_law_903]
  simp only [w6]
  rw [e1]
  rw [e2]
  rw [if_pos rfl]
theorem c_flow {n i : Int} {g : Hp} (hi : 0 ≤ i) (h6 : i + 6 ≤ n) (hn : n ≤ 3072) (hs : ∀ k : Int, 0 ≤ k → k < n → in32 (g (-2) k)) (hC : Cpl g) : ∃ g' : Hp, Cpl g' ∧ g' (-2) = g (-2) ∧ ∀ Q : Int → Hp → Prop, Ws (EF n) 9 mL_law Q 916 [(2, (-2)), (2, 0), (2, 50), (0, i)] [] g = Ws (EF n) 9 mL_law Q 18 [(2, (-2)), (2, 0), (2, 50), (0, i + 6)] [] g' := by
  have w1 : w32 (i + 1) = i + 1 := w32_of (by omega) (by omega)
  have w2 : w32 (i + 2) = i + 2 := w32_of (by omega) (by omega)
  have w6 : w32 (i + 6) = i + 6 := w32_of (by omega) (by omega)
  have c1 : 0 ≤ i + 1 ∧ i + 1 < n := by omega
  have c2 : 0 ≤ i + 2 ∧ i + 2 < n := by omega
  obtain ⟨a, h1, h2, e1, e2, hC2, q1, q2⟩ := law_case (n := n) (as := [(0, g (-2) (i + 1)), (0, g (-2) (i + 2))]) (p_flow) hC
  refine ⟨h2, hC2, q2, fun Q => ?_⟩
  rw [b_L_law_916]
  simp only [w1, w2, w6, and_tl c1, and_tl c2]
  rw [e1]
  rw [q1]
  rw [e2]
  rw [if_pos rfl]
theorem c_sum {n i : Int} {g : Hp} (hi : 0 ≤ i) (h6 : i + 6 ≤ n) (hn : n ≤ 3072) (hs : ∀ k : Int, 0 ≤ k → k < n → in32 (g (-2) k)) (hC : Cpl g) : ∃ g' : Hp, Cpl g' ∧ g' (-2) = g (-2) ∧ ∀ Q : Int → Hp → Prop, Ws (EF n) 9 mL_law Q 949 [(2, (-2)), (2, 0), (2, 50), (0, i)] [] g = Ws (EF n) 9 mL_law Q 18 [(2, (-2)), (2, 0), (2, 50), (0, i + 6)] [] g' := by
  have w6 : w32 (i + 6) = i + 6 := w32_of (by omega) (by omega)
  obtain ⟨a, h1, h2, e1, e2, hC2, q1, q2⟩ := law_case (n := n) (as := []) (p_sum) hC
  refine ⟨h2, hC2, q2, fun Q => ?_⟩
  rw [b_L_law_949]
  simp only [w6]
  rw [e1]
  rw [e2]
  rw [lcmp_self, if_pos rfl]
theorem c_top {n i : Int} {g : Hp} (hi : 0 ≤ i) (h6 : i + 6 ≤ n) (hn : n ≤ 3072) (hs : ∀ k : Int, 0 ≤ k → k < n → in32 (g (-2) k)) (hC : Cpl g) : ∃ g' : Hp, Cpl g' ∧ g' (-2) = g (-2) ∧ ∀ Q : Int → Hp → Prop, Ws (EF n) 9 mL_law Q 963 [(2, (-2)), (2, 0), (2, 50), (0, i)] [] g = Ws (EF n) 9 mL_law Q 18 [(2, (-2)), (2, 0), (2, 50), (0, i + 6)] [] g' := by
  have w6 : w32 (i + 6) = i + 6 := w32_of (by omega) (by omega)
  obtain ⟨a, h1, h2, e1, e2, hC2, q1, q2⟩ := law_case (n := n) (as := []) (p_top) hC
  refine ⟨h2, hC2, q2, fun Q => ?_⟩
  rw [b_L_law_963]
  simp only [w6]
  rw [e1]
  rw [e2]
  rw [if_pos rfl]
theorem c_over {n i : Int} {g : Hp} (hi : 0 ≤ i) (h6 : i + 6 ≤ n) (hn : n ≤ 3072) (hs : ∀ k : Int, 0 ≤ k → k < n → in32 (g (-2) k)) (hC : Cpl g) : ∃ g' : Hp, Cpl g' ∧ g' (-2) = g (-2) ∧ ∀ Q : Int → Hp → Prop, Ws (EF n) 9 mL_law Q 976 [(2, (-2)), (2, 0), (2, 50), (0, i)] [] g = Ws (EF n) 9 mL_law Q 18 [(2, (-2)), (2, 0), (2, 50), (0, i + 6)] [] g' := by
  have w1 : w32 (i + 1) = i + 1 := w32_of (by omega) (by omega)
  have w6 : w32 (i + 6) = i + 6 := w32_of (by omega) (by omega)
  have c1 : 0 ≤ i + 1 ∧ i + 1 < n := by omega
  obtain ⟨a, h1, h2, e1, e2, hC2, q1, q2⟩ := law_case (n := n) (as := [(0, g (-2) (i + 1))]) (p_over) hC
  refine ⟨h2, hC2, q2, fun Q => ?_⟩
  rw [b_L_law_976]
  simp only [w1, w6, and_tl c1]
  rw [e1]
  rw [q1]
  rw [e2]
  rw [lcmp_self, if_pos rfl]
theorem c_machine {n i : Int} {g : Hp} (hi : 0 ≤ i) (h6 : i + 6 ≤ n) (hn : n ≤ 3072) (hs : ∀ k : Int, 0 ≤ k → k < n → in32 (g (-2) k)) (hC : Cpl g) : ∃ g' : Hp, Cpl g' ∧ g' (-2) = g (-2) ∧ ∀ Q : Int → Hp → Prop, Ws (EF n) 9 mL_law Q 1000 [(2, (-2)), (2, 0), (2, 50), (0, i)] [] g = Ws (EF n) 9 mL_law Q 18 [(2, (-2)), (2, 0), (2, 50), (0, i + 6)] [] g' := by
  have w1 : w32 (i + 1) = i + 1 := w32_of (by omega) (by omega)
  have w2 : w32 (i + 2) = i + 2 := w32_of (by omega) (by omega)
  have w6 : w32 (i + 6) = i + 6 := w32_of (by omega) (by omega)
  have c1 : 0 ≤ i + 1 ∧ i + 1 < n := by omega
  have c2 : 0 ≤ i + 2 ∧ i + 2 < n := by omega
  obtain ⟨a, h1, h2, e1, e2, hC2, q1, q2⟩ := law_case (n := n) (as := [(0, g (-2) (i + 1)), (0, g (-2) (i + 2))]) (p_machine) hC
  refine ⟨h2, hC2, q2, fun Q => ?_⟩
  rw [b_L_law_1000]
  simp only [w1, w2, w6, and_tl c1, and_tl c2]
  rw [e1]
  rw [q1]
  rw [e2]
  rw [if_pos rfl]
theorem c_give {n i : Int} {g : Hp} (hi : 0 ≤ i) (h6 : i + 6 ≤ n) (hn : n ≤ 3072) (hs : ∀ k : Int, 0 ≤ k → k < n → in32 (g (-2) k)) (hC : Cpl g) : ∃ g' : Hp, Cpl g' ∧ g' (-2) = g (-2) ∧ ∀ Q : Int → Hp → Prop, Ws (EF n) 9 mL_law Q 1033 [(2, (-2)), (2, 0), (2, 50), (0, i)] [] g = Ws (EF n) 9 mL_law Q 18 [(2, (-2)), (2, 0), (2, 50), (0, i + 6)] [] g' := by
  have w1 : w32 (i + 1) = i + 1 := w32_of (by omega) (by omega)
  have w2 : w32 (i + 2) = i + 2 := w32_of (by omega) (by omega)
  have w6 : w32 (i + 6) = i + 6 := w32_of (by omega) (by omega)
  have c1 : 0 ≤ i + 1 ∧ i + 1 < n := by omega
  have c2 : 0 ≤ i + 2 ∧ i + 2 < n := by omega
  obtain ⟨a, h1, h2, e1, e2, hC2, q1, q2⟩ := law_case (n := n) (as := [(0, g (-2) (i + 1)), (0, g (-2) (i + 2))]) (p_give) hC
  refine ⟨h2, hC2, q2, fun Q => ?_⟩
  rw [b_L_law_1033]
  simp only [w1, w2, w6, and_tl c1, and_tl c2]
  rw [e1]
  rw [q1]
  rw [e2]
  rw [if_pos rfl]
theorem c_bears {n i : Int} {g : Hp} (hi : 0 ≤ i) (h6 : i + 6 ≤ n) (hn : n ≤ 3072) (hs : ∀ k : Int, 0 ≤ k → k < n → in32 (g (-2) k)) (hC : Cpl g) : ∃ g' : Hp, Cpl g' ∧ g' (-2) = g (-2) ∧ ∀ Q : Int → Hp → Prop, Ws (EF n) 9 mL_law Q 1066 [(2, (-2)), (2, 0), (2, 50), (0, i)] [] g = Ws (EF n) 9 mL_law Q 18 [(2, (-2)), (2, 0), (2, 50), (0, i + 6)] [] g' := by
  have w1 : w32 (i + 1) = i + 1 := w32_of (by omega) (by omega)
  have w2 : w32 (i + 2) = i + 2 := w32_of (by omega) (by omega)
  have w6 : w32 (i + 6) = i + 6 := w32_of (by omega) (by omega)
  have c1 : 0 ≤ i + 1 ∧ i + 1 < n := by omega
  have c2 : 0 ≤ i + 2 ∧ i + 2 < n := by omega
  obtain ⟨a, h1, h2, e1, e2, hC2, q1, q2⟩ := law_case (n := n) (as := [(0, g (-2) (i + 1)), (0, g (-2) (i + 2))]) (p_bears) hC
  refine ⟨h2, hC2, q2, fun Q => ?_⟩
  rw [b_L_law_1066]
  simp only [w1, w2, w6, and_tl c1, and_tl c2]
  rw [e1]
  rw [q1]
  rw [e2]
  rw [if_pos rfl]
theorem c_work {n i : Int} {g : Hp} (hi : 0 ≤ i) (h6 : i + 6 ≤ n) (hn : n ≤ 3072) (hs : ∀ k : Int, 0 ≤ k → k < n → in32 (g (-2) k)) (hC : Cpl g) : ∃ g' : Hp, Cpl g' ∧ g' (-2) = g (-2) ∧ ∀ Q : Int → Hp → Prop, Ws (EF n) 9 mL_law Q 1099 [(2, (-2)), (2, 0), (2, 50), (0, i)] [] g = Ws (EF n) 9 mL_law Q 18 [(2, (-2)), (2, 0), (2, 50), (0, i + 6)] [] g' := by
  have w1 : w32 (i + 1) = i + 1 := w32_of (by omega) (by omega)
  have w6 : w32 (i + 6) = i + 6 := w32_of (by omega) (by omega)
  have c1 : 0 ≤ i + 1 ∧ i + 1 < n := by omega
  obtain ⟨a, h1, h2, e1, e2, hC2, q1, q2⟩ := law_case (n := n) (as := [(0, g (-2) (i + 1))]) (p_work) hC
  refine ⟨h2, hC2, q2, fun Q => ?_⟩
  rw [b_L_law_1099]
  simp only [w1, w6, and_tl c1]
  rw [e1]
  rw [q1]
  rw [e2]
  rw [if_pos rfl]
theorem c_cuts {n i : Int} {g : Hp} (hi : 0 ≤ i) (h6 : i + 6 ≤ n) (hn : n ≤ 3072) (hs : ∀ k : Int, 0 ≤ k → k < n → in32 (g (-2) k)) (hC : Cpl g) : ∃ g' : Hp, Cpl g' ∧ g' (-2) = g (-2) ∧ ∀ Q : Int → Hp → Prop, Ws (EF n) 9 mL_law Q 1122 [(2, (-2)), (2, 0), (2, 50), (0, i)] [] g = Ws (EF n) 9 mL_law Q 18 [(2, (-2)), (2, 0), (2, 50), (0, i + 6)] [] g' := by
  have w6 : w32 (i + 6) = i + 6 := w32_of (by omega) (by omega)
  obtain ⟨a, h1, h2, e1, e2, hC2, q1, q2⟩ := law_case (n := n) (as := []) (p_cuts) hC
  refine ⟨h2, hC2, q2, fun Q => ?_⟩
  rw [b_L_law_1122]
  simp only [w6]
  rw [e1]
  rw [e2]
  rw [if_pos rfl]
theorem c_curve {n i : Int} {g : Hp} (hi : 0 ≤ i) (h6 : i + 6 ≤ n) (hn : n ≤ 3072) (hs : ∀ k : Int, 0 ≤ k → k < n → in32 (g (-2) k)) (hC : Cpl g) : ∃ g' : Hp, Cpl g' ∧ g' (-2) = g (-2) ∧ ∀ Q : Int → Hp → Prop, Ws (EF n) 9 mL_law Q 1135 [(2, (-2)), (2, 0), (2, 50), (0, i)] [] g = Ws (EF n) 9 mL_law Q 18 [(2, (-2)), (2, 0), (2, 50), (0, i + 6)] [] g' := by
  have w1 : w32 (i + 1) = i + 1 := w32_of (by omega) (by omega)
  have w6 : w32 (i + 6) = i + 6 := w32_of (by omega) (by omega)
  have c1 : 0 ≤ i + 1 ∧ i + 1 < n := by omega
  obtain ⟨a, h1, h2, e1, e2, hC2, q1, q2⟩ := law_case (n := n) (as := [(0, g (-2) (i + 1))]) (p_curve) hC
  refine ⟨h2, hC2, q2, fun Q => ?_⟩
  rw [b_L_law_1135]
  simp only [w1, w6, and_tl c1]
  rw [e1]
  rw [q1]
  rw [e2]
  rw [if_pos rfl]
theorem c_deal {n i : Int} {g : Hp} (hi : 0 ≤ i) (h6 : i + 6 ≤ n) (hn : n ≤ 3072) (hs : ∀ k : Int, 0 ≤ k → k < n → in32 (g (-2) k)) (hC : Cpl g) : ∃ g' : Hp, Cpl g' ∧ g' (-2) = g (-2) ∧ ∀ Q : Int → Hp → Prop, Ws (EF n) 9 mL_law Q 1158 [(2, (-2)), (2, 0), (2, 50), (0, i)] [] g = Ws (EF n) 9 mL_law Q 18 [(2, (-2)), (2, 0), (2, 50), (0, i + 6)] [] g' := by
  have w1 : w32 (i + 1) = i + 1 := w32_of (by omega) (by omega)
  have w6 : w32 (i + 6) = i + 6 := w32_of (by omega) (by omega)
  have c1 : 0 ≤ i + 1 ∧ i + 1 < n := by omega
  obtain ⟨a, h1, h2, e1, e2, hC2, q1, q2⟩ := law_case (n := n) (as := [(0, g (-2) (i + 1))]) (p_deal) hC
  refine ⟨h2, hC2, q2, fun Q => ?_⟩
  rw [b_L_law_1158]
  simp only [w1, w6, and_tl c1]
  rw [e1]
  rw [q1]
  rw [e2]
  rw [if_pos rfl]
theorem c_run {n i : Int} {g : Hp} (hi : 0 ≤ i) (h6 : i + 6 ≤ n) (hn : n ≤ 3072) (hs : ∀ k : Int, 0 ≤ k → k < n → in32 (g (-2) k)) (hC : Cpl g) : ∃ g' : Hp, Cpl g' ∧ g' (-2) = g (-2) ∧ ∀ Q : Int → Hp → Prop, Ws (EF n) 9 mL_law Q 1181 [(2, (-2)), (2, 0), (2, 50), (0, i)] [] g = Ws (EF n) 9 mL_law Q 18 [(2, (-2)), (2, 0), (2, 50), (0, i + 6)] [] g' := by
  have w1 : w32 (i + 1) = i + 1 := w32_of (by omega) (by omega)
  have w2 : w32 (i + 2) = i + 2 := w32_of (by omega) (by omega)
  have w6 : w32 (i + 6) = i + 6 := w32_of (by omega) (by omega)
  have c1 : 0 ≤ i + 1 ∧ i + 1 < n := by omega
  have c2 : 0 ≤ i + 2 ∧ i + 2 < n := by omega
  obtain ⟨a, h1, h2, e1, e2, hC2, q1, q2⟩ := law_case (n := n) (as := [(0, g (-2) (i + 1)), (0, g (-2) (i + 2))]) (p_run) hC
  refine ⟨h2, hC2, q2, fun Q => ?_⟩
  rw [b_L_law_1181]
  simp only [w1, w2, w6, and_tl c1, and_tl c2]
  rw [e1]
  rw [q1]
  rw [e2]
  rw [if_pos rfl]
theorem c_ran {n i : Int} {g : Hp} (hi : 0 ≤ i) (h6 : i + 6 ≤ n) (hn : n ≤ 3072) (hs : ∀ k : Int, 0 ≤ k → k < n → in32 (g (-2) k)) (hC : Cpl g) : ∃ g' : Hp, Cpl g' ∧ g' (-2) = g (-2) ∧ ∀ Q : Int → Hp → Prop, Ws (EF n) 9 mL_law Q 1214 [(2, (-2)), (2, 0), (2, 50), (0, i)] [] g = Ws (EF n) 9 mL_law Q 18 [(2, (-2)), (2, 0), (2, 50), (0, i + 6)] [] g' := by
  have w1 : w32 (i + 1) = i + 1 := w32_of (by omega) (by omega)
  have w2 : w32 (i + 2) = i + 2 := w32_of (by omega) (by omega)
  have w6 : w32 (i + 6) = i + 6 := w32_of (by omega) (by omega)
  have c1 : 0 ≤ i + 1 ∧ i + 1 < n := by omega
  have c2 : 0 ≤ i + 2 ∧ i + 2 < n := by omega
  obtain ⟨a, h1, h2, e1, e2, hC2, q1, q2⟩ := law_case (n := n) (as := [(0, g (-2) (i + 1)), (0, g (-2) (i + 2))]) (p_ran) hC
  refine ⟨h2, hC2, q2, fun Q => ?_⟩
  rw [b_L_law_1214]
  simp only [w1, w2, w6, and_tl c1, and_tl c2]
  rw [e1]
  rw [q1]
  rw [e2]
  rw [if_pos rfl]
theorem c_keep {n i : Int} {g : Hp} (hi : 0 ≤ i) (h6 : i + 6 ≤ n) (hn : n ≤ 3072) (hs : ∀ k : Int, 0 ≤ k → k < n → in32 (g (-2) k)) (hC : Cpl g) : ∃ g' : Hp, Cpl g' ∧ g' (-2) = g (-2) ∧ ∀ Q : Int → Hp → Prop, Ws (EF n) 9 mL_law Q 1247 [(2, (-2)), (2, 0), (2, 50), (0, i)] [] g = Ws (EF n) 9 mL_law Q 18 [(2, (-2)), (2, 0), (2, 50), (0, i + 6)] [] g' := by
  have w1 : w32 (i + 1) = i + 1 := w32_of (by omega) (by omega)
  have w6 : w32 (i + 6) = i + 6 := w32_of (by omega) (by omega)
  have c1 : 0 ≤ i + 1 ∧ i + 1 < n := by omega
  obtain ⟨a, h1, h2, e1, e2, hC2, q1, q2⟩ := law_case (n := n) (as := [(0, g (-2) (i + 1))]) (p_keep) hC
  refine ⟨h2, hC2, q2, fun Q => ?_⟩
  rw [b_L_law_1247]
  simp only [w1, w6, and_tl c1]
  rw [e1]
  rw [q1]
  rw [e2]
  rw [if_pos rfl]
theorem c_goOn {n i : Int} {g : Hp} (hi : 0 ≤ i) (h6 : i + 6 ≤ n) (hn : n ≤ 3072) (hs : ∀ k : Int, 0 ≤ k → k < n → in32 (g (-2) k)) (hC : Cpl g) : ∃ g' : Hp, Cpl g' ∧ g' (-2) = g (-2) ∧ ∀ Q : Int → Hp → Prop, Ws (EF n) 9 mL_law Q 1270 [(2, (-2)), (2, 0), (2, 50), (0, i)] [] g = Ws (EF n) 9 mL_law Q 18 [(2, (-2)), (2, 0), (2, 50), (0, i + 6)] [] g' := by
  have w1 : w32 (i + 1) = i + 1 := w32_of (by omega) (by omega)
  have w6 : w32 (i + 6) = i + 6 := w32_of (by omega) (by omega)
  have c1 : 0 ≤ i + 1 ∧ i + 1 < n := by omega
  obtain ⟨a, h1, h2, e1, e2, hC2, q1, q2⟩ := law_case (n := n) (as := [(0, g (-2) (i + 1))]) (p_goOn) hC
  refine ⟨h2, hC2, q2, fun Q => ?_⟩
  rw [b_L_law_1270]
  simp only [w1, w6, and_tl c1]
  rw [e1]
  rw [q1]
  rw [e2]
  rw [if_pos rfl]
theorem c_flip {n i : Int} {g : Hp} (hi : 0 ≤ i) (h6 : i + 6 ≤ n) (hn : n ≤ 3072) (hs : ∀ k : Int, 0 ≤ k → k < n → in32 (g (-2) k)) (hC : Cpl g) : ∃ g' : Hp, Cpl g' ∧ g' (-2) = g (-2) ∧ ∀ Q : Int → Hp → Prop, Ws (EF n) 9 mL_law Q 1293 [(2, (-2)), (2, 0), (2, 50), (0, i)] [] g = Ws (EF n) 9 mL_law Q 18 [(2, (-2)), (2, 0), (2, 50), (0, i + 6)] [] g' := by
  have w1 : w32 (i + 1) = i + 1 := w32_of (by omega) (by omega)
  have w2 : w32 (i + 2) = i + 2 := w32_of (by omega) (by omega)
  have w6 : w32 (i + 6) = i + 6 := w32_of (by omega) (by omega)
  have c1 : 0 ≤ i + 1 ∧ i + 1 < n := by omega
  have c2 : 0 ≤ i + 2 ∧ i + 2 < n := by omega
  obtain ⟨a, h1, h2, e1, e2, hC2, q1, q2⟩ := law_case (n := n) (as := [(0, g (-2) (i + 1)), (0, g (-2) (i + 2))]) (p_flip) hC
  refine ⟨h2, hC2, q2, fun Q => ?_⟩
  rw [b_L_law_1293]
  simp only [w1, w2, w6, and_tl c1, and_tl c2]
  rw [e1]
  rw [q1]
  rw [e2]
  rw [if_pos rfl]
theorem c_find {n i : Int} {g : Hp} (hi : 0 ≤ i) (h6 : i + 6 ≤ n) (hn : n ≤ 3072) (hs : ∀ k : Int, 0 ≤ k → k < n → in32 (g (-2) k)) (hC : Cpl g) : ∃ g' : Hp, Cpl g' ∧ g' (-2) = g (-2) ∧ ∀ Q : Int → Hp → Prop, Ws (EF n) 9 mL_law Q 1326 [(2, (-2)), (2, 0), (2, 50), (0, i)] [] g = Ws (EF n) 9 mL_law Q 18 [(2, (-2)), (2, 0), (2, 50), (0, i + 6)] [] g' := by
  have w1 : w32 (i + 1) = i + 1 := w32_of (by omega) (by omega)
  have w6 : w32 (i + 6) = i + 6 := w32_of (by omega) (by omega)
  have c1 : 0 ≤ i + 1 ∧ i + 1 < n := by omega
  obtain ⟨a, h1, h2, e1, e2, hC2, q1, q2⟩ := law_case (n := n) (as := [(0, g (-2) (i + 1))]) (p_find) hC
  refine ⟨h2, hC2, q2, fun Q => ?_⟩
  rw [b_L_law_1326]
  simp only [w1, w6, and_tl c1]
  rw [e1]
  rw [q1]
  rw [e2]
  rw [if_pos rfl]
theorem c_stops {n i : Int} {g : Hp} (hi : 0 ≤ i) (h6 : i + 6 ≤ n) (hn : n ≤ 3072) (hs : ∀ k : Int, 0 ≤ k → k < n → in32 (g (-2) k)) (hC : Cpl g) : ∃ g' : Hp, Cpl g' ∧ g' (-2) = g (-2) ∧ ∀ Q : Int → Hp → Prop, Ws (EF n) 9 mL_law Q 1349 [(2, (-2)), (2, 0), (2, 50), (0, i)] [] g = Ws (EF n) 9 mL_law Q 18 [(2, (-2)), (2, 0), (2, 50), (0, i + 6)] [] g' := by
  have w1 : w32 (i + 1) = i + 1 := w32_of (by omega) (by omega)
  have w6 : w32 (i + 6) = i + 6 := w32_of (by omega) (by omega)
  have c1 : 0 ≤ i + 1 ∧ i + 1 < n := by omega
  obtain ⟨a, h1, h2, e1, e2, hC2, q1, q2⟩ := law_case (n := n) (as := [(0, g (-2) (i + 1))]) (p_stops) hC
  refine ⟨h2, hC2, q2, fun Q => ?_⟩
  rw [b_L_law_1349]
  simp only [w1, w6, and_tl c1]
  rw [e1]
  rw [q1]
  rw [e2]
  rw [if_pos rfl]
theorem c_keeping {n i : Int} {g : Hp} (hi : 0 ≤ i) (h6 : i + 6 ≤ n) (hn : n ≤ 3072) (hs : ∀ k : Int, 0 ≤ k → k < n → in32 (g (-2) k)) (hC : Cpl g) : ∃ g' : Hp, Cpl g' ∧ g' (-2) = g (-2) ∧ ∀ Q : Int → Hp → Prop, Ws (EF n) 9 mL_law Q 1372 [(2, (-2)), (2, 0), (2, 50), (0, i)] [] g = Ws (EF n) 9 mL_law Q 18 [(2, (-2)), (2, 0), (2, 50), (0, i + 6)] [] g' := by
  have w1 : w32 (i + 1) = i + 1 := w32_of (by omega) (by omega)
  have w2 : w32 (i + 2) = i + 2 := w32_of (by omega) (by omega)
  have w3 : w32 (i + 3) = i + 3 := w32_of (by omega) (by omega)
  have w6 : w32 (i + 6) = i + 6 := w32_of (by omega) (by omega)
  have c1 : 0 ≤ i + 1 ∧ i + 1 < n := by omega
  have c2 : 0 ≤ i + 2 ∧ i + 2 < n := by omega
  have c3 : 0 ≤ i + 3 ∧ i + 3 < n := by omega
  obtain ⟨a, h1, h2, e1, e2, hC2, q1, q2⟩ := law_case (n := n) (as := [(0, g (-2) (i + 1)), (0, g (-2) (i + 2)), (0, g (-2) (i + 3))]) (p_keeping) hC
  refine ⟨h2, hC2, q2, fun Q => ?_⟩
  rw [b_L_law_1372]
  simp only [w1, w2, w3, w6, and_tl c1, and_tl c2, and_tl c3]
  rw [e1]
  rw [q1]
  rw [e2]
  rw [if_pos rfl]
theorem c_best {n i : Int} {g : Hp} (hi : 0 ≤ i) (h6 : i + 6 ≤ n) (hn : n ≤ 3072) (hs : ∀ k : Int, 0 ≤ k → k < n → in32 (g (-2) k)) (hC : Cpl g) : ∃ g' : Hp, Cpl g' ∧ g' (-2) = g (-2) ∧ ∀ Q : Int → Hp → Prop, Ws (EF n) 9 mL_law Q 1415 [(2, (-2)), (2, 0), (2, 50), (0, i)] [] g = Ws (EF n) 9 mL_law Q 18 [(2, (-2)), (2, 0), (2, 50), (0, i + 6)] [] g' := by
  have w1 : w32 (i + 1) = i + 1 := w32_of (by omega) (by omega)
  have w2 : w32 (i + 2) = i + 2 := w32_of (by omega) (by omega)
  have w6 : w32 (i + 6) = i + 6 := w32_of (by omega) (by omega)
  have c1 : 0 ≤ i + 1 ∧ i + 1 < n := by omega
  have c2 : 0 ≤ i + 2 ∧ i + 2 < n := by omega
  obtain ⟨a, h1, h2, e1, e2, hC2, q1, q2⟩ := law_case (n := n) (as := [(0, g (-2) (i + 1)), (0, g (-2) (i + 2))]) (p_best) hC
  refine ⟨h2, hC2, q2, fun Q => ?_⟩
  rw [b_L_law_1415]
  simp only [w1, w2, w6, and_tl c1, and_tl c2]
  rw [e1]
  rw [q1]
  rw [e2]
  rw [if_pos rfl]
theorem c_share {n i : Int} {g : Hp} (hi : 0 ≤ i) (h6 : i + 6 ≤ n) (hn : n ≤ 3072) (hs : ∀ k : Int, 0 ≤ k → k < n → in32 (g (-2) k)) (hC : Cpl g) : ∃ g' : Hp, Cpl g' ∧ g' (-2) = g (-2) ∧ ∀ Q : Int → Hp → Prop, Ws (EF n) 9 mL_law Q 1448 [(2, (-2)), (2, 0), (2, 50), (0, i)] [] g = Ws (EF n) 9 mL_law Q 18 [(2, (-2)), (2, 0), (2, 50), (0, i + 6)] [] g' := by
  have w1 : w32 (i + 1) = i + 1 := w32_of (by omega) (by omega)
  have w2 : w32 (i + 2) = i + 2 := w32_of (by omega) (by omega)
  have w3 : w32 (i + 3) = i + 3 := w32_of (by omega) (by omega)
  have w6 : w32 (i + 6) = i + 6 := w32_of (by omega) (by omega)
  have c1 : 0 ≤ i + 1 ∧ i + 1 < n := by omega
  have c2 : 0 ≤ i + 2 ∧ i + 2 < n := by omega
  have c3 : 0 ≤ i + 3 ∧ i + 3 < n := by omega
  obtain ⟨a, h1, h2, e1, e2, hC2, q1, q2⟩ := law_case (n := n) (as := [(0, g (-2) (i + 1)), (0, g (-2) (i + 2)), (0, g (-2) (i + 3))]) (p_share) hC
  refine ⟨h2, hC2, q2, fun Q => ?_⟩
  rw [b_L_law_1448]
  simp only [w1, w2, w3, w6, and_tl c1, and_tl c2, and_tl c3]
  rw [e1]
  rw [q1]
  rw [e2]
  rw [if_pos rfl]
theorem c_most {n i : Int} {g : Hp} (hi : 0 ≤ i) (h6 : i + 6 ≤ n) (hn : n ≤ 3072) (hs : ∀ k : Int, 0 ≤ k → k < n → in32 (g (-2) k)) (hC : Cpl g) : ∃ g' : Hp, Cpl g' ∧ g' (-2) = g (-2) ∧ ∀ Q : Int → Hp → Prop, Ws (EF n) 9 mL_law Q 1491 [(2, (-2)), (2, 0), (2, 50), (0, i)] [] g = Ws (EF n) 9 mL_law Q 18 [(2, (-2)), (2, 0), (2, 50), (0, i + 6)] [] g' := by
  have w1 : w32 (i + 1) = i + 1 := w32_of (by omega) (by omega)
  have w2 : w32 (i + 2) = i + 2 := w32_of (by omega) (by omega)
  have w6 : w32 (i + 6) = i + 6 := w32_of (by omega) (by omega)
  have c1 : 0 ≤ i + 1 ∧ i + 1 < n := by omega
  have c2 : 0 ≤ i + 2 ∧ i + 2 < n := by omega
  obtain ⟨a, h1, h2, e1, e2, hC2, q1, q2⟩ := law_case (n := n) (as := [(0, g (-2) (i + 1)), (0, g (-2) (i + 2))]) (p_most) hC
  refine ⟨h2, hC2, q2, fun Q => ?_⟩
  rw [b_L_law_1491]
  simp only [w1, w2, w6, and_tl c1, and_tl c2]
  rw [e1]
  rw [q1]
  rw [e2]
  rw [if_pos rfl]
theorem c_off {n i : Int} {g : Hp} (hi : 0 ≤ i) (h6 : i + 6 ≤ n) (hn : n ≤ 3072) (hs : ∀ k : Int, 0 ≤ k → k < n → in32 (g (-2) k)) (hC : Cpl g) : ∃ g' : Hp, Cpl g' ∧ g' (-2) = g (-2) ∧ ∀ Q : Int → Hp → Prop, Ws (EF n) 9 mL_law Q 1524 [(2, (-2)), (2, 0), (2, 50), (0, i)] [] g = Ws (EF n) 9 mL_law Q 18 [(2, (-2)), (2, 0), (2, 50), (0, i + 6)] [] g' := by
  have w1 : w32 (i + 1) = i + 1 := w32_of (by omega) (by omega)
  have w2 : w32 (i + 2) = i + 2 := w32_of (by omega) (by omega)
  have w6 : w32 (i + 6) = i + 6 := w32_of (by omega) (by omega)
  have c1 : 0 ≤ i + 1 ∧ i + 1 < n := by omega
  have c2 : 0 ≤ i + 2 ∧ i + 2 < n := by omega
  obtain ⟨a, h1, h2, e1, e2, hC2, q1, q2⟩ := law_case (n := n) (as := [(0, g (-2) (i + 1)), (0, g (-2) (i + 2))]) (p_off) hC
  refine ⟨h2, hC2, q2, fun Q => ?_⟩
  rw [b_L_law_1524]
  simp only [w1, w2, w6, and_tl c1, and_tl c2]
  rw [e1]
  rw [q1]
  rw [e2]
  rw [if_pos rfl]
theorem c_asked {n i : Int} {g : Hp} (hi : 0 ≤ i) (h6 : i + 6 ≤ n) (hn : n ≤ 3072) (hs : ∀ k : Int, 0 ≤ k → k < n → in32 (g (-2) k)) (hC : Cpl g) : ∃ g' : Hp, Cpl g' ∧ g' (-2) = g (-2) ∧ ∀ Q : Int → Hp → Prop, Ws (EF n) 9 mL_law Q 1557 [(2, (-2)), (2, 0), (2, 50), (0, i)] [] g = Ws (EF n) 9 mL_law Q 18 [(2, (-2)), (2, 0), (2, 50), (0, i + 6)] [] g' := by
  have w6 : w32 (i + 6) = i + 6 := w32_of (by omega) (by omega)
  obtain ⟨a, h1, h2, e1, e2, hC2, q1, q2⟩ := law_case (n := n) (as := []) (p_asked) hC
  refine ⟨h2, hC2, q2, fun Q => ?_⟩
  rw [b_L_law_1557]
  simp only [w6]
  rw [e1]
  rw [e2]
  rw [if_pos rfl]
theorem c_upper {n i : Int} {g : Hp} (hi : 0 ≤ i) (h6 : i + 6 ≤ n) (hn : n ≤ 3072) (hs : ∀ k : Int, 0 ≤ k → k < n → in32 (g (-2) k)) (hC : Cpl g) : ∃ g' : Hp, Cpl g' ∧ g' (-2) = g (-2) ∧ ∀ Q : Int → Hp → Prop, Ws (EF n) 9 mL_law Q 1570 [(2, (-2)), (2, 0), (2, 50), (0, i)] [] g = Ws (EF n) 9 mL_law Q 18 [(2, (-2)), (2, 0), (2, 50), (0, i + 6)] [] g' := by
  have w6 : w32 (i + 6) = i + 6 := w32_of (by omega) (by omega)
  obtain ⟨a, h1, h2, e1, e2, hC2, q1, q2⟩ := law_case (n := n) (as := []) (p_upper) hC
  refine ⟨h2, hC2, q2, fun Q => ?_⟩
  rw [b_L_law_1570]
  simp only [w6]
  rw [e1]
  rw [e2]
  rw [lcmp_self, if_pos rfl]
theorem c_lower {n i : Int} {g : Hp} (hi : 0 ≤ i) (h6 : i + 6 ≤ n) (hn : n ≤ 3072) (hs : ∀ k : Int, 0 ≤ k → k < n → in32 (g (-2) k)) (hC : Cpl g) : ∃ g' : Hp, Cpl g' ∧ g' (-2) = g (-2) ∧ ∀ Q : Int → Hp → Prop, Ws (EF n) 9 mL_law Q 1584 [(2, (-2)), (2, 0), (2, 50), (0, i)] [] g = Ws (EF n) 9 mL_law Q 18 [(2, (-2)), (2, 0), (2, 50), (0, i + 6)] [] g' := by
  have w6 : w32 (i + 6) = i + 6 := w32_of (by omega) (by omega)
  obtain ⟨a, h1, h2, e1, e2, hC2, q1, q2⟩ := law_case (n := n) (as := []) (p_lower) hC
  refine ⟨h2, hC2, q2, fun Q => ?_⟩
  rw [b_L_law_1584]
  simp only [w6]
  rw [e1]
  rw [e2]
  rw [lcmp_self, if_pos rfl]
theorem c_count {n i : Int} {g : Hp} (hi : 0 ≤ i) (h6 : i + 6 ≤ n) (hn : n ≤ 3072) (hs : ∀ k : Int, 0 ≤ k → k < n → in32 (g (-2) k)) (hC : Cpl g) : ∃ g' : Hp, Cpl g' ∧ g' (-2) = g (-2) ∧ ∀ Q : Int → Hp → Prop, Ws (EF n) 9 mL_law Q 1598 [(2, (-2)), (2, 0), (2, 50), (0, i)] [] g = Ws (EF n) 9 mL_law Q 18 [(2, (-2)), (2, 0), (2, 50), (0, i + 6)] [] g' := by
  have w1 : w32 (i + 1) = i + 1 := w32_of (by omega) (by omega)
  have w6 : w32 (i + 6) = i + 6 := w32_of (by omega) (by omega)
  have c1 : 0 ≤ i + 1 ∧ i + 1 < n := by omega
  obtain ⟨a, h1, h2, e1, e2, hC2, q1, q2⟩ := law_case (n := n) (as := [(0, g (-2) (i + 1))]) (p_count) hC
  refine ⟨h2, hC2, q2, fun Q => ?_⟩
  rw [b_L_law_1598]
  simp only [w1, w6, and_tl c1]
  rw [e1]
  rw [q1]
  rw [e2]
  rw [if_pos rfl]
theorem c_finding {n i : Int} {g : Hp} (hi : 0 ≤ i) (h6 : i + 6 ≤ n) (hn : n ≤ 3072) (hs : ∀ k : Int, 0 ≤ k → k < n → in32 (g (-2) k)) (hC : Cpl g) : ∃ g' : Hp, Cpl g' ∧ g' (-2) = g (-2) ∧ ∀ Q : Int → Hp → Prop, Ws (EF n) 9 mL_law Q 1621 [(2, (-2)), (2, 0), (2, 50), (0, i)] [] g = Ws (EF n) 9 mL_law Q 18 [(2, (-2)), (2, 0), (2, 50), (0, i + 6)] [] g' := by
  have w6 : w32 (i + 6) = i + 6 := w32_of (by omega) (by omega)
  obtain ⟨a, h1, h2, e1, e2, hC2, q1, q2⟩ := law_case (n := n) (as := []) (p_finding) hC
  refine ⟨h2, hC2, q2, fun Q => ?_⟩
  rw [b_L_law_1621]
  simp only [w6]
  rw [e1]
  rw [e2]
  rw [if_pos rfl]
theorem c_findings {n i : Int} {g : Hp} (hi : 0 ≤ i) (h6 : i + 6 ≤ n) (hn : n ≤ 3072) (hs : ∀ k : Int, 0 ≤ k → k < n → in32 (g (-2) k)) (hC : Cpl g) : ∃ g' : Hp, Cpl g' ∧ g' (-2) = g (-2) ∧ ∀ Q : Int → Hp → Prop, Ws (EF n) 9 mL_law Q 1634 [(2, (-2)), (2, 0), (2, 50), (0, i)] [] g = Ws (EF n) 9 mL_law Q 18 [(2, (-2)), (2, 0), (2, 50), (0, i + 6)] [] g' := by
  have w1 : w32 (i + 1) = i + 1 := w32_of (by omega) (by omega)
  have w6 : w32 (i + 6) = i + 6 := w32_of (by omega) (by omega)
  have c1 : 0 ≤ i + 1 ∧ i + 1 < n := by omega
  obtain ⟨a, h1, h2, e1, e2, hC2, q1, q2⟩ := law_case (n := n) (as := [(0, g (-2) (i + 1))]) (p_findings) hC
  refine ⟨h2, hC2, q2, fun Q => ?_⟩
  rw [b_L_law_1634]
  simp only [w1, w6, and_tl c1]
  rw [e1]
  rw [q1]
  rw [e2]
  rw [if_pos rfl]
theorem c_digest {n i : Int} {g : Hp} (hi : 0 ≤ i) (h6 : i + 6 ≤ n) (hn : n ≤ 3072) (hs : ∀ k : Int, 0 ≤ k → k < n → in32 (g (-2) k)) (hC : Cpl g) : ∃ g' : Hp, Cpl g' ∧ g' (-2) = g (-2) ∧ ∀ Q : Int → Hp → Prop, Ws (EF n) 9 mL_law Q 1657 [(2, (-2)), (2, 0), (2, 50), (0, i)] [] g = Ws (EF n) 9 mL_law Q 18 [(2, (-2)), (2, 0), (2, 50), (0, i + 6)] [] g' := by
  have w6 : w32 (i + 6) = i + 6 := w32_of (by omega) (by omega)
  obtain ⟨a, h1, h2, e1, e2, hC2, q1, q2⟩ := law_case (n := n) (as := []) (p_digest) hC
  refine ⟨h2, hC2, q2, fun Q => ?_⟩
  rw [b_L_law_1657]
  simp only [w6]
  rw [e1]
  rw [e2]
  rw [lcmp_self, if_pos rfl]
