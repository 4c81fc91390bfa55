/-! the law's loop -/
theorem law_step {n i : Int} {g : Hp} (hi : 0 ≤ i) (h6 : i + 6 ≤ n) (hn : n ≤ 3072) (hs : ∀ k : Int, 0 ≤ k → k < n → in32 (g (-2) k)) (hC : Cpl g) (x : Int) : ∃ g' : Hp, Cpl g' ∧ g' (-2) = g (-2) ∧ ∀ Q : Int → Hp → Prop, Ws (EF n) 9 mL_law Q 33 [(2, (-2)), (2, 0), (2, 50), (0, i)] [(0, x)] g = Ws (EF n) 9 mL_law Q 18 [(2, (-2)), (2, 0), (2, 50), (0, i + 6)] [] g' := by
  have w6 : w32 (i + 6) = i + 6 := w32_of (by omega) (by omega)
  by_cases z0 : x = 0
  · obtain ⟨g', a1, a2, a3⟩ := c_row hi h6 hn hs hC
    refine ⟨g', a1, a2, fun Q => ?_⟩
    subst z0
    rw [t_L_law_33]
    simp only [Int.reduceEq, if_true, if_false, reduceIte]
    exact a3 Q
  by_cases z1 : x = 1
  · obtain ⟨g', a1, a2, a3⟩ := c_lay hi h6 hn hs hC
    refine ⟨g', a1, a2, fun Q => ?_⟩
    subst z1
    rw [t_L_law_33]
    simp only [Int.reduceEq, if_true, if_false, reduceIte]
    exact a3 Q
  by_cases z2 : x = 2
  · obtain ⟨g', a1, a2, a3⟩ := c_tear hi h6 hn hs hC
    refine ⟨g', a1, a2, fun Q => ?_⟩
    subst z2
    rw [t_L_law_33]
    simp only [Int.reduceEq, if_true, if_false, reduceIte]
    exact a3 Q
  by_cases z3 : x = 3
  · obtain ⟨g', a1, a2, a3⟩ := c_copy hi h6 hn hs hC
    refine ⟨g', a1, a2, fun Q => ?_⟩
    subst z3
    rw [t_L_law_33]
    simp only [Int.reduceEq, if_true, if_false, reduceIte]
    exact a3 Q
  by_cases z4 : x = 4
  · obtain ⟨g', a1, a2, a3⟩ := c_average hi h6 hn hs hC
    refine ⟨g', a1, a2, fun Q => ?_⟩
    subst z4
    rw [t_L_law_33]
    simp only [Int.reduceEq, if_true, if_false, reduceIte]
    exact a3 Q
  by_cases z5 : x = 5
  · obtain ⟨g', a1, a2, a3⟩ := c_text hi h6 hn hs hC
    refine ⟨g', a1, a2, fun Q => ?_⟩
    subst z5
    rw [t_L_law_33]
    simp only [Int.reduceEq, if_true, if_false, reduceIte]
    exact a3 Q
  by_cases z6 : x = 6
  · obtain ⟨g', a1, a2, a3⟩ := c_put hi h6 hn hs hC
    refine ⟨g', a1, a2, fun Q => ?_⟩
    subst z6
    rw [t_L_law_33]
    simp only [Int.reduceEq, if_true, if_false, reduceIte]
    exact a3 Q
  by_cases z7 : x = 7
  · obtain ⟨g', a1, a2, a3⟩ := c_fault hi h6 hn hs hC
    refine ⟨g', a1, a2, fun Q => ?_⟩
    subst z7
    rw [t_L_law_33]
    simp only [Int.reduceEq, if_true, if_false, reduceIte]
    exact a3 Q
  by_cases z8 : x = 8
  · obtain ⟨g', a1, a2, a3⟩ := c_field hi h6 hn hs hC
    refine ⟨g', a1, a2, fun Q => ?_⟩
    subst z8
    rw [t_L_law_33]
    simp only [Int.reduceEq, if_true, if_false, reduceIte]
    exact a3 Q
  by_cases z9 : x = 9
  · obtain ⟨g', a1, a2, a3⟩ := c_amount hi h6 hn hs hC
    refine ⟨g', a1, a2, fun Q => ?_⟩
    subst z9
    rw [t_L_law_33]
    simp only [Int.reduceEq, if_true, if_false, reduceIte]
    exact a3 Q
  by_cases z10 : x = 10
  · obtain ⟨g', a1, a2, a3⟩ := c_fill hi h6 hn hs hC
    refine ⟨g', a1, a2, fun Q => ?_⟩
    subst z10
    rw [t_L_law_33]
    simp only [Int.reduceEq, if_true, if_false, reduceIte]
    exact a3 Q
  by_cases z11 : x = 11
  · obtain ⟨g', a1, a2, a3⟩ := c_told hi h6 hn hs hC
    refine ⟨g', a1, a2, fun Q => ?_⟩
    subst z11
    rw [t_L_law_33]
    simp only [Int.reduceEq, if_true, if_false, reduceIte]
    exact a3 Q
  by_cases z12 : x = 12
  · obtain ⟨g', a1, a2, a3⟩ := c_mark hi h6 hn hs hC
    refine ⟨g', a1, a2, fun Q => ?_⟩
    subst z12
    rw [t_L_law_33]
    simp only [Int.reduceEq, if_true, if_false, reduceIte]
    exact a3 Q
  by_cases z13 : x = 13
  · obtain ⟨g', a1, a2, a3⟩ := c_at hi h6 hn hs hC
    refine ⟨g', a1, a2, fun Q => ?_⟩
    subst z13
    rw [t_L_law_33]
    simp only [Int.reduceEq, if_true, if_false, reduceIte]
    exact a3 Q
  by_cases z14 : x = 14
  · obtain ⟨g', a1, a2, a3⟩ := c_part hi h6 hn hs hC
    refine ⟨g', a1, a2, fun Q => ?_⟩
    subst z14
    rw [t_L_law_33]
    simp only [Int.reduceEq, if_true, if_false, reduceIte]
    exact a3 Q
  by_cases z15 : x = 15
  · obtain ⟨g', a1, a2, a3⟩ := c_join hi h6 hn hs hC
    refine ⟨g', a1, a2, fun Q => ?_⟩
    subst z15
    rw [t_L_law_33]
    simp only [Int.reduceEq, if_true, if_false, reduceIte]
    exact a3 Q
  by_cases z16 : x = 16
  · obtain ⟨g', a1, a2, a3⟩ := c_edge hi h6 hn hs hC
    refine ⟨g', a1, a2, fun Q => ?_⟩
    subst z16
    rw [t_L_law_33]
    simp only [Int.reduceEq, if_true, if_false, reduceIte]
    exact a3 Q
  by_cases z17 : x = 17
  · obtain ⟨g', a1, a2, a3⟩ := c_freeze hi h6 hn hs hC
    refine ⟨g', a1, a2, fun Q => ?_⟩
    subst z17
    rw [t_L_law_33]
    simp only [Int.reduceEq, if_true, if_false, reduceIte]
    exact a3 Q
  by_cases z18 : x = 18
  · obtain ⟨g', a1, a2, a3⟩ := c_see hi h6 hn hs hC
    refine ⟨g', a1, a2, fun Q => ?_⟩
    subst z18
    rw [t_L_law_33]
    simp only [Int.reduceEq, if_true, if_false, reduceIte]
    exact a3 Q
  by_cases z19 : x = 19
  · obtain ⟨g', a1, a2, a3⟩ := c_tick hi h6 hn hs hC
    refine ⟨g', a1, a2, fun Q => ?_⟩
    subst z19
    rw [t_L_law_33]
    simp only [Int.reduceEq, if_true, if_false, reduceIte]
    exact a3 Q
  by_cases z20 : x = 20
  · obtain ⟨g', a1, a2, a3⟩ := c_flow hi h6 hn hs hC
    refine ⟨g', a1, a2, fun Q => ?_⟩
    subst z20
    rw [t_L_law_33]
    simp only [Int.reduceEq, if_true, if_false, reduceIte]
    exact a3 Q
  by_cases z21 : x = 21
  · obtain ⟨g', a1, a2, a3⟩ := c_sum hi h6 hn hs hC
    refine ⟨g', a1, a2, fun Q => ?_⟩
    subst z21
    rw [t_L_law_33]
    simp only [Int.reduceEq, if_true, if_false, reduceIte]
    exact a3 Q
  by_cases z22 : x = 22
  · obtain ⟨g', a1, a2, a3⟩ := c_top hi h6 hn hs hC
    refine ⟨g', a1, a2, fun Q => ?_⟩
    subst z22
    rw [t_L_law_33]
    simp only [Int.reduceEq, if_true, if_false, reduceIte]
    exact a3 Q
  by_cases z23 : x = 23
  · obtain ⟨g', a1, a2, a3⟩ := c_over hi h6 hn hs hC
    refine ⟨g', a1, a2, fun Q => ?_⟩
    subst z23
    rw [t_L_law_33]
    simp only [Int.reduceEq, if_true, if_false, reduceIte]
    exact a3 Q
  by_cases z24 : x = 24
  · obtain ⟨g', a1, a2, a3⟩ := c_machine hi h6 hn hs hC
    refine ⟨g', a1, a2, fun Q => ?_⟩
    subst z24
    rw [t_L_law_33]
    simp only [Int.reduceEq, if_true, if_false, reduceIte]
    exact a3 Q
  by_cases z25 : x = 25
  · obtain ⟨g', a1, a2, a3⟩ := c_give hi h6 hn hs hC
    refine ⟨g', a1, a2, fun Q => ?_⟩
    subst z25
    rw [t_L_law_33]
    simp only [Int.reduceEq, if_true, if_false, reduceIte]
    exact a3 Q
  by_cases z26 : x = 26
  · obtain ⟨g', a1, a2, a3⟩ := c_bears hi h6 hn hs hC
    refine ⟨g', a1, a2, fun Q => ?_⟩
    subst z26
    rw [t_L_law_33]
    simp only [Int.reduceEq, if_true, if_false, reduceIte]
    exact a3 Q
  by_cases z27 : x = 27
  · obtain ⟨g', a1, a2, a3⟩ := c_work hi h6 hn hs hC
    refine ⟨g', a1, a2, fun Q => ?_⟩
    subst z27
    rw [t_L_law_33]
    simp only [Int.reduceEq, if_true, if_false, reduceIte]
    exact a3 Q
  by_cases z28 : x = 28
  · obtain ⟨g', a1, a2, a3⟩ := c_cuts hi h6 hn hs hC
    refine ⟨g', a1, a2, fun Q => ?_⟩
    subst z28
    rw [t_L_law_33]
    simp only [Int.reduceEq, if_true, if_false, reduceIte]
    exact a3 Q
  by_cases z29 : x = 29
  · obtain ⟨g', a1, a2, a3⟩ := c_curve hi h6 hn hs hC
    refine ⟨g', a1, a2, fun Q => ?_⟩
    subst z29
    rw [t_L_law_33]
    simp only [Int.reduceEq, if_true, if_false, reduceIte]
    exact a3 Q
  by_cases z30 : x = 30
  · obtain ⟨g', a1, a2, a3⟩ := c_deal hi h6 hn hs hC
    refine ⟨g', a1, a2, fun Q => ?_⟩
    subst z30
    rw [t_L_law_33]
    simp only [Int.reduceEq, if_true, if_false, reduceIte]
    exact a3 Q
  by_cases z31 : x = 31
  · obtain ⟨g', a1, a2, a3⟩ := c_run hi h6 hn hs hC
    refine ⟨g', a1, a2, fun Q => ?_⟩
    subst z31
    rw [t_L_law_33]
    simp only [Int.reduceEq, if_true, if_false, reduceIte]
    exact a3 Q
  by_cases z32 : x = 32
  · obtain ⟨g', a1, a2, a3⟩ := c_ran hi h6 hn hs hC
    refine ⟨g', a1, a2, fun Q => ?_⟩
    subst z32
    rw [t_L_law_33]
    simp only [Int.reduceEq, if_true, if_false, reduceIte]
    exact a3 Q
  by_cases z33 : x = 33
  · obtain ⟨g', a1, a2, a3⟩ := c_keep hi h6 hn hs hC
    refine ⟨g', a1, a2, fun Q => ?_⟩
    subst z33
    rw [t_L_law_33]
    simp only [Int.reduceEq, if_true, if_false, reduceIte]
    exact a3 Q
  by_cases z34 : x = 34
  · obtain ⟨g', a1, a2, a3⟩ := c_goOn hi h6 hn hs hC
    refine ⟨g', a1, a2, fun Q => ?_⟩
    subst z34
    rw [t_L_law_33]
    simp only [Int.reduceEq, if_true, if_false, reduceIte]
    exact a3 Q
  by_cases z35 : x = 35
  · obtain ⟨g', a1, a2, a3⟩ := c_flip hi h6 hn hs hC
    refine ⟨g', a1, a2, fun Q => ?_⟩
    subst z35
    rw [t_L_law_33]
    simp only [Int.reduceEq, if_true, if_false, reduceIte]
    exact a3 Q
  by_cases z36 : x = 36
  · obtain ⟨g', a1, a2, a3⟩ := c_find hi h6 hn hs hC
    refine ⟨g', a1, a2, fun Q => ?_⟩
    subst z36
    rw [t_L_law_33]
    simp only [Int.reduceEq, if_true, if_false, reduceIte]
    exact a3 Q
  by_cases z37 : x = 37
  · obtain ⟨g', a1, a2, a3⟩ := c_stops hi h6 hn hs hC
    refine ⟨g', a1, a2, fun Q => ?_⟩
    subst z37
    rw [t_L_law_33]
    simp only [Int.reduceEq, if_true, if_false, reduceIte]
    exact a3 Q
  by_cases z38 : x = 38
  · obtain ⟨g', a1, a2, a3⟩ := c_keeping hi h6 hn hs hC
    refine ⟨g', a1, a2, fun Q => ?_⟩
    subst z38
    rw [t_L_law_33]
    simp only [Int.reduceEq, if_true, if_false, reduceIte]
    exact a3 Q
  by_cases z39 : x = 39
  · obtain ⟨g', a1, a2, a3⟩ := c_best hi h6 hn hs hC
    refine ⟨g', a1, a2, fun Q => ?_⟩
    subst z39
    rw [t_L_law_33]
    simp only [Int.reduceEq, if_true, if_false, reduceIte]
    exact a3 Q
  by_cases z40 : x = 40
  · obtain ⟨g', a1, a2, a3⟩ := c_share hi h6 hn hs hC
    refine ⟨g', a1, a2, fun Q => ?_⟩
    subst z40
    rw [t_L_law_33]
    simp only [Int.reduceEq, if_true, if_false, reduceIte]
    exact a3 Q
  by_cases z41 : x = 41
  · obtain ⟨g', a1, a2, a3⟩ := c_most hi h6 hn hs hC
    refine ⟨g', a1, a2, fun Q => ?_⟩
    subst z41
    rw [t_L_law_33]
    simp only [Int.reduceEq, if_true, if_false, reduceIte]
    exact a3 Q
  by_cases z42 : x = 42
  · obtain ⟨g', a1, a2, a3⟩ := c_off hi h6 hn hs hC
    refine ⟨g', a1, a2, fun Q => ?_⟩
    subst z42
    rw [t_L_law_33]
    simp only [Int.reduceEq, if_true, if_false, reduceIte]
    exact a3 Q
  by_cases z43 : x = 43
  · obtain ⟨g', a1, a2, a3⟩ := c_asked hi h6 hn hs hC
    refine ⟨g', a1, a2, fun Q => ?_⟩
    subst z43
    rw [t_L_law_33]
    simp only [Int.reduceEq, if_true, if_false, reduceIte]
    exact a3 Q
  by_cases z44 : x = 44
  · obtain ⟨g', a1, a2, a3⟩ := c_upper hi h6 hn hs hC
    refine ⟨g', a1, a2, fun Q => ?_⟩
    subst z44
    rw [t_L_law_33]
    simp only [Int.reduceEq, if_true, if_false, reduceIte]
    exact a3 Q
  by_cases z45 : x = 45
  · obtain ⟨g', a1, a2, a3⟩ := c_lower hi h6 hn hs hC
    refine ⟨g', a1, a2, fun Q => ?_⟩
    subst z45
    rw [t_L_law_33]
    simp only [Int.reduceEq, if_true, if_false, reduceIte]
    exact a3 Q
  by_cases z46 : x = 46
  · obtain ⟨g', a1, a2, a3⟩ := c_count hi h6 hn hs hC
    refine ⟨g', a1, a2, fun Q => ?_⟩
    subst z46
    rw [t_L_law_33]
    simp only [Int.reduceEq, if_true, if_false, reduceIte]
    exact a3 Q
  by_cases z47 : x = 47
  · obtain ⟨g', a1, a2, a3⟩ := c_finding hi h6 hn hs hC
    refine ⟨g', a1, a2, fun Q => ?_⟩
    subst z47
    rw [t_L_law_33]
    simp only [Int.reduceEq, if_true, if_false, reduceIte]
    exact a3 Q
  by_cases z48 : x = 48
  · obtain ⟨g', a1, a2, a3⟩ := c_findings hi h6 hn hs hC
    refine ⟨g', a1, a2, fun Q => ?_⟩
    subst z48
    rw [t_L_law_33]
    simp only [Int.reduceEq, if_true, if_false, reduceIte]
    exact a3 Q
  by_cases z49 : x = 49
  · obtain ⟨g', a1, a2, a3⟩ := c_digest hi h6 hn hs hC
    refine ⟨g', a1, a2, fun Q => ?_⟩
    subst z49
    rw [t_L_law_33]
    simp only [Int.reduceEq, if_true, if_false, reduceIte]
    exact a3 Q
  refine ⟨g, hC, rfl, fun Q => ?_⟩
  rw [t_L_law_33, if_neg z0, if_neg z1, if_neg z2, if_neg z3, if_neg z4, if_neg z5, if_neg z6, if_neg z7, if_neg z8, if_neg z9, if_neg z10, if_neg z11, if_neg z12, if_neg z13, if_neg z14, if_neg z15, if_neg z16, if_neg z17, if_neg z18, if_neg z19, if_neg z20, if_neg z21, if_neg z22, if_neg z23, if_neg z24, if_neg z25, if_neg z26, if_neg z27, if_neg z28, if_neg z29, if_neg z30, if_neg z31, if_neg z32, if_neg z33, if_neg z34, if_neg z35, if_neg z36, if_neg z37, if_neg z38, if_neg z39, if_neg z40, if_neg z41, if_neg z42, if_neg z43, if_neg z44, if_neg z45, if_neg z46, if_neg z47, if_neg z48, if_neg z49, b_L_law_1671, w6]
theorem law_loop {n : Int} {s : Int → Int} (hn : n ≤ 3072) (h0 : 0 ≤ n) (hs : ∀ k : Int, 0 ≤ k → k < n → in32 (s k)) {Q : Int → Hp → Prop} (hQ : ∀ g, Q 1 g) : ∀ (m : Nat) (i : Int) (g : Hp), 0 ≤ i → i ≤ n + 6 → n - i < m → Cpl g → g (-2) = s → Ws (EF n) 9 mL_law Q 18 [(2, (-2)), (2, 0), (2, 50), (0, i)] [] g
  | m, i, g, h1, h2, h3, hC, hg => by
    rw [b_L_law_18, w32_of (by omega) (by omega)]
    by_cases z : n - 6 < i
    · rw [if_pos z]
      exact hQ g
    · rw [if_neg z, and_tl (by omega)]
      obtain ⟨g', a1, a2, a3⟩ := law_step (n := n) (i := i) (g := g) h1 (by omega) hn (by rw [hg]; exact hs) hC (i32op (fun x y => x &&& y) (g (-2) i) 63)
      rw [a3]
      match m with
      | 0 => exfalso; omega
      | m + 1 => exact law_loop hn h0 hs hQ m (i + 6) g' (by omega) (by omega) (by omega) a1 (a2.trans hg)
