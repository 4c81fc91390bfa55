/-! constructors: those with loops of one row -/
def flr (f : Int → Int) (N v : Int) : Int → Int := fun i => if 0 ≤ i ∧ i < N then v else f i
theorem flr_loop {P : Int → Hp → Prop} (r v : Int) (N : Nat) (hs : ∀ (k : Nat) (g : Hp), k < N → P k g = P ((k : Int) + 1) (hst g r k v)) (g : Hp) : P 0 g = P N (hrow g r (flr (g r) N v)) := by
  have l := loop_n (P := fun k => P k (hrow g r (flr (g r) k v))) N (fun k hk => by
    show P (k : Int) (hrow g r (flr (g r) k v)) = P ((k + 1 : Nat) : Int) _
    rw [hs k _ hk]
    have e : hst (hrow g r (flr (g r) k v)) r k v = hrow g r (flr (g r) ((k + 1 : Nat) : Int) v) := by
      funext a i
      unfold hst hrow flr
      by_cases z : a = r
      · simp only [z, true_and, if_true]
        repeat' split
        all_goals first | rfl | (exfalso; omega)
      · simp only [z, false_and, if_false]
    rw [e]
    rfl)
  have e0 : hrow g r (flr (g r) ((0 : Nat) : Int) v) = g := by
    funext a i
    unfold hrow flr
    by_cases z : a = r
    · rw [if_pos z, if_neg (by omega), z]
    · rw [if_neg z]
  rw [e0] at l
  exact l
theorem j_X1 {E : PvEnv} {Lx dd : Nat} {h : Hp} {Q : Int → Hp → Prop} (hE : HM E Lx) (hd0 : dd ≠ 0) (hn : h (-3) 0 = 27) (hq : ∀ g : Hp, Mk h g 26 27 30 1008 (up (up (up (up (h 26) 0 27) 1 28) 2 29) 5 1) (hrow (fun _ _ => 0) 27 (flr (fun _ => 0) 336 (-1))) → Q 0 g) : wpM E (dd + 1) mX1_init [(2, 26)] h Q := by
  have hc := wpM_mono E dd
  obtain ⟨s, s3, s4⟩ := sl_h (M := mX1_init) (h := h) (by decide) hE
  have m1 : mMc mX1_init = 3 := rfl
  have m2 : mMs mX1_init = 1008 := rfl
  show WpC (setLim E mX1_init h) dd mX1_init (wpM E dd) (postM mX1_init h Q) 0 [(2, 26), (9, 0)] [] h
  rw [m1, hn] at s3
  rw [m2] at s4
  generalize setLim E mX1_init h = F at *
  refine y_obj hc dX1_init_0 dX1_init_1 (M' := mX9_init) rfl (by decide) hd0 (by decide) ?_
  have K := Mk.rf hn (by decide : (0 : Int) ≤ 26) (by decide) (fun _ _ => 0)
  refine y_row (Lx := Lx) hc K (ty := .int) (n := 336) dX1_init_4 dX1_init_5 rfl (fun _ _ _ q => q) dX1_init_8 dX1_init_10 (pc' := 13) rfl sk_27 (by decide) sn_27 (by decide) s (by decide) (by omega) (by omega) fl_1_9 sk_26 (Or.inr ⟨rfl, rfl, rfl⟩) rfl (m' := 28) rfl (b' := 336) rfl ?_
  clear K
  intro g1 K
  refine y_row (Lx := Lx) hc K (ty := .int) (n := 336) dX1_init_13 dX1_init_14 rfl (fun _ _ _ q => q) dX1_init_17 dX1_init_19 (pc' := 22) rfl sk_28 (by decide) sn_28 (by decide) s (by decide) (by omega) (by omega) fl_1_15 sk_26 (Or.inr ⟨rfl, rfl, rfl⟩) rfl (m' := 29) rfl (b' := 672) rfl ?_
  clear K
  intro g2 K
  refine y_row (Lx := Lx) hc K (ty := .int) (n := 336) dX1_init_22 dX1_init_23 rfl (fun _ _ _ q => q) dX1_init_26 dX1_init_28 (pc' := 31) rfl sk_29 (by decide) sn_29 (by decide) s (by decide) (by omega) (by omega) fl_1_18 sk_26 (Or.inr ⟨rfl, rfl, rfl⟩) rfl (m' := 30) rfl (b' := 1008) rfl ?_
  clear K
  intro g3 K
  refine y_set (Lx := Lx) hc K (t := 0) (v := 1) dX1_init_31 dX1_init_32 rfl (fun _ _ _ q => q) dX1_init_33 (pc' := 36) rfl s fl_1_21 (by decide) sk_26 ?_
  clear K
  intro g4 K
  have hP : ∀ kk, EP Lx 26 26 kk = refT 26 kk := EP_o (by decide)
  refine W_switch (E := EP Lx 26) (Lx := Lx) (Q := postM mX1_init h Q) (EP_still (by decide)) rfl s.1 hE.1 (by rw [K.1.2.1]; decide) (EP_refs K.2.2.2.1 [(26, 0, 27), (26, 1, 28), (26, 2, 29)] (by decide) ?_) (fun _ _ _ _ _ q => q) ?_
  · intro q hq'
    simp only [List.mem_cons, List.not_mem_nil, or_false] at hq'
    rcases hq' with rfl | rfl | rfl
    all_goals rfl
  rw [b_X1_init_e_36 hP]
  have l := flr_loop (P := fun i g => Ws (EP Lx 26) dd mX1_init (postM mX1_init h Q) 38 [(2, 26), (0, i)] [] g) 27 (-1) 336 (fun kk g hk => by
    show Ws (EP Lx 26) dd mX1_init (postM mX1_init h Q) 38 [(2, 26), (0, (kk : Int))] [] g = Ws (EP Lx 26) dd mX1_init (postM mX1_init h Q) 38 [(2, 26), (0, (kk : Int) + 1)] [] (hst g 27 kk (-1))
    rw [b_X1_init_e_38 hP, if_pos (by omega), and_tl (by omega), w32_of (by omega) (by omega)]) g4
  refine l.mpr ?_
  show Ws (EP Lx 26) dd mX1_init (postM mX1_init h Q) 38 [(2, 26), (0, ((336 : Nat) : Int))] [] _
  rw [b_X1_init_e_38 hP, if_neg (by decide)]
  have e : g4 27 = fun _ => 0 := K.2.2.1 27 (by decide) (by decide)
  rw [e]
  have K' := K.re (r := 27) (by decide) (by decide) (flr (fun _ => 0) ((336 : Nat) : Int) (-1))
  exact y_post (by decide) K' (by rw [m1]; rfl) (by rw [m2]; rfl) (hq _ K')
theorem j_X0 {E : PvEnv} {Lx dd : Nat} {h : Hp} {Q : Int → Hp → Prop} (hE : HM E Lx) (hd0 : dd ≠ 0) (hn : h (-3) 0 = 31) (hq : ∀ g : Hp, Mk h g 30 31 37 36 (up (up (up (up (up (up (h 30) 0 31) 1 32) 2 33) 3 34) 4 35) 5 36) (hrow (fun _ _ => 0) 33 (flr (fun _ => 0) 6 (-9))) → Q 0 g) : wpM E (dd + 1) mX0_init [(2, 30)] h Q := by
  have hc := wpM_mono E dd
  obtain ⟨s, s3, s4⟩ := sl_h (M := mX0_init) (h := h) (by decide) hE
  have m1 : mMc mX0_init = 6 := rfl
  have m2 : mMs mX0_init = 36 := rfl
  show WpC (setLim E mX0_init h) dd mX0_init (wpM E dd) (postM mX0_init h Q) 0 [(2, 30), (9, 0)] [] h
  rw [m1, hn] at s3
  rw [m2] at s4
  generalize setLim E mX0_init h = F at *
  refine y_obj hc dX0_init_0 dX0_init_1 (M' := mX9_init) rfl (by decide) hd0 (by decide) ?_
  have K := Mk.rf hn (by decide : (0 : Int) ≤ 30) (by decide) (fun _ _ => 0)
  refine y_row (Lx := Lx) hc K (ty := .int) (n := 6) dX0_init_4 dX0_init_5 rfl (fun _ _ _ q => q) dX0_init_7 dX0_init_9 (pc' := 12) rfl sk_31 (by decide) sn_31 (by decide) s (by decide) (by omega) (by omega) fl_0_9 sk_30 (Or.inr ⟨rfl, rfl, rfl⟩) rfl (m' := 32) rfl (b' := 6) rfl ?_
  clear K
  intro g1 K
  refine y_row (Lx := Lx) hc K (ty := .int) (n := 6) dX0_init_12 dX0_init_13 rfl (fun _ _ _ q => q) dX0_init_15 dX0_init_17 (pc' := 20) rfl sk_32 (by decide) sn_32 (by decide) s (by decide) (by omega) (by omega) fl_0_15 sk_30 (Or.inr ⟨rfl, rfl, rfl⟩) rfl (m' := 33) rfl (b' := 12) rfl ?_
  clear K
  intro g2 K
  refine y_row (Lx := Lx) hc K (ty := .int) (n := 6) dX0_init_20 dX0_init_21 rfl (fun _ _ _ q => q) dX0_init_23 dX0_init_25 (pc' := 28) rfl sk_33 (by decide) sn_33 (by decide) s (by decide) (by omega) (by omega) fl_0_18 sk_30 (Or.inr ⟨rfl, rfl, rfl⟩) rfl (m' := 34) rfl (b' := 18) rfl ?_
  clear K
  intro g3 K
  refine y_row (Lx := Lx) hc K (ty := .int) (n := 6) dX0_init_28 dX0_init_29 rfl (fun _ _ _ q => q) dX0_init_31 dX0_init_33 (pc' := 36) rfl sk_34 (by decide) sn_34 (by decide) s (by decide) (by omega) (by omega) fl_0_21 sk_30 (Or.inr ⟨rfl, rfl, rfl⟩) rfl (m' := 35) rfl (b' := 24) rfl ?_
  clear K
  intro g4 K
  refine y_row (Lx := Lx) hc K (ty := .int) (n := 6) dX0_init_36 dX0_init_37 rfl (fun _ _ _ q => q) dX0_init_39 dX0_init_41 (pc' := 44) rfl sk_35 (by decide) sn_35 (by decide) s (by decide) (by omega) (by omega) fl_0_24 sk_30 (Or.inr ⟨rfl, rfl, rfl⟩) rfl (m' := 36) rfl (b' := 30) rfl ?_
  clear K
  intro g5 K
  refine y_row (Lx := Lx) hc K (ty := .int) (n := 6) dX0_init_44 dX0_init_45 rfl (fun _ _ _ q => q) dX0_init_47 dX0_init_49 (pc' := 52) rfl sk_36 (by decide) sn_36 (by decide) s (by decide) (by omega) (by omega) fl_0_27 sk_30 (Or.inr ⟨rfl, rfl, rfl⟩) rfl (m' := 37) rfl (b' := 36) rfl ?_
  clear K
  intro g6 K
  have hP : ∀ kk, EP Lx 30 30 kk = refT 30 kk := EP_o (by decide)
  refine W_switch (E := EP Lx 30) (Lx := Lx) (Q := postM mX0_init h Q) (EP_still (by decide)) rfl s.1 hE.1 (by rw [K.1.2.1]; decide) (EP_refs K.2.2.2.1 [(30, 0, 31), (30, 1, 32), (30, 2, 33), (30, 3, 34), (30, 4, 35), (30, 5, 36)] (by decide) ?_) (fun _ _ _ _ _ q => q) ?_
  · intro q hq'
    simp only [List.mem_cons, List.not_mem_nil, or_false] at hq'
    rcases hq' with rfl | rfl | rfl | rfl | rfl | rfl
    all_goals rfl
  rw [b_X0_init_e_52 hP]
  have l := flr_loop (P := fun i g => Ws (EP Lx 30) dd mX0_init (postM mX0_init h Q) 54 [(2, 30), (0, i)] [] g) 33 (-9) 6 (fun kk g hk => by
    show Ws (EP Lx 30) dd mX0_init (postM mX0_init h Q) 54 [(2, 30), (0, (kk : Int))] [] g = Ws (EP Lx 30) dd mX0_init (postM mX0_init h Q) 54 [(2, 30), (0, (kk : Int) + 1)] [] (hst g 33 kk (-9))
    rw [b_X0_init_e_54 hP, if_pos (by omega), and_tl (by omega), w32_of (by omega) (by omega)]) g6
  refine l.mpr ?_
  show Ws (EP Lx 30) dd mX0_init (postM mX0_init h Q) 54 [(2, 30), (0, ((6 : Nat) : Int))] [] _
  rw [b_X0_init_e_54 hP, if_neg (by decide)]
  have e : g6 33 = fun _ => 0 := K.2.2.1 33 (by decide) (by decide)
  rw [e]
  have K' := K.re (r := 33) (by decide) (by decide) (flr (fun _ => 0) ((6 : Nat) : Int) (-9))
  exact y_post (by decide) K' (by rw [m1]; rfl) (by rw [m2]; rfl) (hq _ K')
