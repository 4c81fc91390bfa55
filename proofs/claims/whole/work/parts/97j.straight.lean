/-! constructors: the straight ones and those of shelves and laws -/
theorem j_X3_37 {E : PvEnv} {Lx dd : Nat} {h : Hp} {Q : Int → Hp → Prop} (hE : HM E Lx) (hd0 : dd ≠ 0) (hn : h (-3) 0 = 38) (hq : ∀ g : Hp, Mk h g 37 38 41 1008 (up (up (up (h 37) 0 38) 1 39) 2 40) (fun _ _ => 0) → Q 0 g) : wpM E (dd + 1) mX3_init [(2, 37)] h Q := by
  have hc := wpM_mono E dd
  obtain ⟨s, s3, s4⟩ := sl_h (M := mX3_init) (h := h) (by decide) hE
  have m1 : mMc mX3_init = 3 := rfl
  have m2 : mMs mX3_init = 1008 := rfl
  show WpC (setLim E mX3_init h) dd mX3_init (wpM E dd) (postM mX3_init h Q) 0 [(2, 37)] [] h
  rw [m1, hn] at s3
  rw [m2] at s4
  generalize setLim E mX3_init h = F at *
  refine y_obj hc dX3_init_0 dX3_init_1 (M' := mX9_init) rfl (by decide) hd0 (by decide) ?_
  have K := Mk.rf hn (by decide : (0 : Int) ≤ 37) (by decide) (fun _ _ => 0)
  refine y_row (Lx := Lx) hc K (ty := .int) (n := 336) dX3_init_4 dX3_init_5 rfl (fun _ _ _ q => q) dX3_init_8 dX3_init_10 (pc' := 13) rfl sk_38 (by decide) sn_38 (by decide) s (by decide) (by omega) (by omega) fl_3_9 sk_37 (Or.inr ⟨rfl, rfl, rfl⟩) rfl (m' := 39) rfl (b' := 336) rfl ?_
  clear K
  intro g1 K
  refine y_row (Lx := Lx) hc K (ty := .int) (n := 336) dX3_init_13 dX3_init_14 rfl (fun _ _ _ q => q) dX3_init_17 dX3_init_19 (pc' := 22) rfl sk_39 (by decide) sn_39 (by decide) s (by decide) (by omega) (by omega) fl_3_15 sk_37 (Or.inr ⟨rfl, rfl, rfl⟩) rfl (m' := 40) rfl (b' := 672) rfl ?_
  clear K
  intro g2 K
  refine y_row (Lx := Lx) hc K (ty := .int) (n := 336) dX3_init_22 dX3_init_23 rfl (fun _ _ _ q => q) dX3_init_26 dX3_init_28 (pc' := 31) rfl sk_40 (by decide) sn_40 (by decide) s (by decide) (by omega) (by omega) fl_3_18 sk_37 (Or.inr ⟨rfl, rfl, rfl⟩) rfl (m' := 41) rfl (b' := 1008) rfl ?_
  clear K
  intro g3 K
  refine z_gen hc dX3_init_31 rfl ⟨rfl, ?_⟩
  exact y_post (by decide) K (by rw [m1]; rfl) (by rw [m2]; rfl) (hq _ K)
theorem j_X3_41 {E : PvEnv} {Lx dd : Nat} {h : Hp} {Q : Int → Hp → Prop} (hE : HM E Lx) (hd0 : dd ≠ 0) (hn : h (-3) 0 = 42) (hq : ∀ g : Hp, Mk h g 41 42 45 1008 (up (up (up (h 41) 0 42) 1 43) 2 44) (fun _ _ => 0) → Q 0 g) : wpM E (dd + 1) mX3_init [(2, 41)] h Q := by
  have hc := wpM_mono E dd
  obtain ⟨s, s3, s4⟩ := sl_h (M := mX3_init) (h := h) (by decide) hE
  have m1 : mMc mX3_init = 3 := rfl
  have m2 : mMs mX3_init = 1008 := rfl
  show WpC (setLim E mX3_init h) dd mX3_init (wpM E dd) (postM mX3_init h Q) 0 [(2, 41)] [] h
  rw [m1, hn] at s3
  rw [m2] at s4
  generalize setLim E mX3_init h = F at *
  refine y_obj hc dX3_init_0 dX3_init_1 (M' := mX9_init) rfl (by decide) hd0 (by decide) ?_
  have K := Mk.rf hn (by decide : (0 : Int) ≤ 41) (by decide) (fun _ _ => 0)
  refine y_row (Lx := Lx) hc K (ty := .int) (n := 336) dX3_init_4 dX3_init_5 rfl (fun _ _ _ q => q) dX3_init_8 dX3_init_10 (pc' := 13) rfl sk_42 (by decide) sn_42 (by decide) s (by decide) (by omega) (by omega) fl_3_9 sk_41 (Or.inr ⟨rfl, rfl, rfl⟩) rfl (m' := 43) rfl (b' := 336) rfl ?_
  clear K
  intro g1 K
  refine y_row (Lx := Lx) hc K (ty := .int) (n := 336) dX3_init_13 dX3_init_14 rfl (fun _ _ _ q => q) dX3_init_17 dX3_init_19 (pc' := 22) rfl sk_43 (by decide) sn_43 (by decide) s (by decide) (by omega) (by omega) fl_3_15 sk_41 (Or.inr ⟨rfl, rfl, rfl⟩) rfl (m' := 44) rfl (b' := 672) rfl ?_
  clear K
  intro g2 K
  refine y_row (Lx := Lx) hc K (ty := .int) (n := 336) dX3_init_22 dX3_init_23 rfl (fun _ _ _ q => q) dX3_init_26 dX3_init_28 (pc' := 31) rfl sk_44 (by decide) sn_44 (by decide) s (by decide) (by omega) (by omega) fl_3_18 sk_41 (Or.inr ⟨rfl, rfl, rfl⟩) rfl (m' := 45) rfl (b' := 1008) rfl ?_
  clear K
  intro g3 K
  refine z_gen hc dX3_init_31 rfl ⟨rfl, ?_⟩
  exact y_post (by decide) K (by rw [m1]; rfl) (by rw [m2]; rfl) (hq _ K)
theorem j_X5 {E : PvEnv} {Lx dd : Nat} {h : Hp} {Q : Int → Hp → Prop} (hE : HM E Lx) (hd0 : dd ≠ 0) (hn : h (-3) 0 = 21) (hq : ∀ g : Hp, Mk h g 20 21 26 2849 (up (up (up (up (up (h 20) 0 21) 1 22) 2 23) 3 24) 4 25) (fun _ _ => 0) → Q 0 g) : wpM E (dd + 1) mX5_init [(2, 20)] h Q := by
  have hc := wpM_mono E dd
  obtain ⟨s, s3, s4⟩ := sl_h (M := mX5_init) (h := h) (by decide) hE
  have m1 : mMc mX5_init = 5 := rfl
  have m2 : mMs mX5_init = 2849 := rfl
  show WpC (setLim E mX5_init h) dd mX5_init (wpM E dd) (postM mX5_init h Q) 0 [(2, 20)] [] h
  rw [m1, hn] at s3
  rw [m2] at s4
  generalize setLim E mX5_init h = F at *
  refine y_obj hc dX5_init_0 dX5_init_1 (M' := mX9_init) rfl (by decide) hd0 (by decide) ?_
  have K := Mk.rf hn (by decide : (0 : Int) ≤ 20) (by decide) (fun _ _ => 0)
  refine y_row (Lx := Lx) hc K (ty := .int) (n := 337) dX5_init_4 dX5_init_5 rfl (fun _ _ _ q => q) dX5_init_8 dX5_init_10 (pc' := 13) rfl sk_21 (by decide) sn_21 (by decide) s (by decide) (by omega) (by omega) fl_5_9 sk_20 (Or.inr ⟨rfl, rfl, rfl⟩) rfl (m' := 22) rfl (b' := 337) rfl ?_
  clear K
  intro g1 K
  refine y_row (Lx := Lx) hc K (ty := .int) (n := 960) dX5_init_13 dX5_init_14 rfl (fun _ _ _ q => q) dX5_init_17 dX5_init_19 (pc' := 22) rfl sk_22 (by decide) sn_22 (by decide) s (by decide) (by omega) (by omega) fl_5_15 sk_20 (Or.inr ⟨rfl, rfl, rfl⟩) rfl (m' := 23) rfl (b' := 1297) rfl ?_
  clear K
  intro g2 K
  refine y_row (Lx := Lx) hc K (ty := .int) (n := 960) dX5_init_22 dX5_init_23 rfl (fun _ _ _ q => q) dX5_init_26 dX5_init_28 (pc' := 31) rfl sk_23 (by decide) sn_23 (by decide) s (by decide) (by omega) (by omega) fl_5_18 sk_20 (Or.inr ⟨rfl, rfl, rfl⟩) rfl (m' := 24) rfl (b' := 2257) rfl ?_
  clear K
  intro g3 K
  refine y_row (Lx := Lx) hc K (ty := .int) (n := 336) dX5_init_31 dX5_init_32 rfl (fun _ _ _ q => q) dX5_init_35 dX5_init_37 (pc' := 40) rfl sk_24 (by decide) sn_24 (by decide) s (by decide) (by omega) (by omega) fl_5_21 sk_20 (Or.inr ⟨rfl, rfl, rfl⟩) rfl (m' := 25) rfl (b' := 2593) rfl ?_
  clear K
  intro g4 K
  refine y_row (Lx := Lx) hc K (ty := .int) (n := 256) dX5_init_40 dX5_init_41 rfl (fun _ _ _ q => q) dX5_init_44 dX5_init_46 (pc' := 49) rfl sk_25 (by decide) sn_25 (by decide) s (by decide) (by omega) (by omega) fl_5_24 sk_20 (Or.inr ⟨rfl, rfl, rfl⟩) rfl (m' := 26) rfl (b' := 2849) rfl ?_
  clear K
  intro g5 K
  refine z_gen hc dX5_init_49 rfl ⟨rfl, ?_⟩
  exact y_post (by decide) K (by rw [m1]; rfl) (by rw [m2]; rfl) (hq _ K)
theorem j_X6 {E : PvEnv} {Lx dd : Nat} {h : Hp} {Q : Int → Hp → Prop} (hE : HM E Lx) (hd0 : dd ≠ 0) (hn : h (-3) 0 = 46) (hq : ∀ g : Hp, Mk h g 45 46 48 672 (up (up (up (h 45) 0 46) 1 47) 2 1) (fun _ _ => 0) → Q 0 g) : wpM E (dd + 1) mX6_init [(2, 45)] h Q := by
  have hc := wpM_mono E dd
  obtain ⟨s, s3, s4⟩ := sl_h (M := mX6_init) (h := h) (by decide) hE
  have m1 : mMc mX6_init = 2 := rfl
  have m2 : mMs mX6_init = 672 := rfl
  show WpC (setLim E mX6_init h) dd mX6_init (wpM E dd) (postM mX6_init h Q) 0 [(2, 45)] [] h
  rw [m1, hn] at s3
  rw [m2] at s4
  generalize setLim E mX6_init h = F at *
  refine y_obj hc dX6_init_0 dX6_init_1 (M' := mX9_init) rfl (by decide) hd0 (by decide) ?_
  have K := Mk.rf hn (by decide : (0 : Int) ≤ 45) (by decide) (fun _ _ => 0)
  refine y_row (Lx := Lx) hc K (ty := .long) (n := 336) dX6_init_4 dX6_init_5 rfl (fun _ _ _ q => q) dX6_init_8 dX6_init_10 (pc' := 13) rfl sk_46 (by decide) sn_46 (by decide) s (by decide) (by omega) (by omega) fl_6_9 sk_45 (Or.inl rfl) rfl (m' := 47) rfl (b' := 336) rfl ?_
  clear K
  intro g1 K
  refine y_row (Lx := Lx) hc K (ty := .long) (n := 336) dX6_init_13 dX6_init_14 rfl (fun _ _ _ q => q) dX6_init_17 dX6_init_19 (pc' := 22) rfl sk_47 (by decide) sn_47 (by decide) s (by decide) (by omega) (by omega) fl_6_15 sk_45 (Or.inl rfl) rfl (m' := 48) rfl (b' := 672) rfl ?_
  clear K
  intro g2 K
  refine y_set (Lx := Lx) hc K (t := 1) (v := 1) dX6_init_22 dX6_init_23 rfl (fun _ _ _ q => q) dX6_init_24 (pc' := 27) rfl s fl_6_18 (by decide) sk_45 ?_
  clear K
  intro g3 K
  refine z_gen hc dX6_init_27 rfl ⟨rfl, ?_⟩
  exact y_post (by decide) K (by rw [m1]; rfl) (by rw [m2]; rfl) (hq _ K)
theorem j_X4_7 {E : PvEnv} {Lx dd : Nat} {h : Hp} {Q : Int → Hp → Prop} (hE : HM E Lx) (hn : h (-3) 0 = 8) (hq : ∀ g : Hp, Mk h g 7 8 9 40 (up (up (up (up (up (up (h 7) 5 8) 0 0) 1 1) 2 0) 3 (-1)) 4 (-1)) (fun _ _ => 0) → Q 0 g) : wpM E (dd + 2) mX4_init [(2, 7)] h Q := by
  have hc := wpM_mono E (dd + 1)
  obtain ⟨s, s3, s4⟩ := sl_h (M := mX4_init) (h := h) (by decide) hE
  have m1 : mMc mX4_init = 1 := rfl
  have m2 : mMs mX4_init = 40 := rfl
  show WpC (setLim E mX4_init h) (dd + 1) mX4_init (wpM E (dd + 1)) (postM mX4_init h Q) 0 [(2, 7)] [] h
  rw [m1, hn] at s3
  rw [m2] at s4
  generalize setLim E mX4_init h = F at *
  refine y_obj hc dX4_init_0 dX4_init_1 (M' := mX9_init) rfl (by decide) (by omega) (by decide) ?_
  have K := Mk.rf hn (by decide : (0 : Int) ≤ 7) (by decide) (fun _ _ => 0)
  refine y_row (Lx := Lx) hc K (ty := .int) (n := 40) dX4_init_4 dX4_init_5 rfl (fun _ _ _ q => q) dX4_init_7 dX4_init_9 (pc' := 12) rfl sk_8 (by decide) sn_8 (by decide) s (by decide) (by omega) (by omega) fl_4_9 sk_7 (Or.inr ⟨rfl, rfl, rfl⟩) rfl (m' := 9) rfl (b' := 40) rfl ?_
  clear K
  intro g1 K
  have hP : ∀ kk, EP Lx 7 7 kk = refT 7 kk := EP_o (by decide)
  refine W_switch (E := EP Lx 7) (Lx := Lx) (Q := postM mX4_init h Q) (EP_still (by decide)) rfl s.1 hE.1 (by rw [K.1.2.1]; decide) (EP_refs K.2.2.2.1 [(7, 5, 8)] (by decide) ?_) (fun _ _ _ _ _ q => q) ?_
  · intro q hq'
    simp only [List.mem_cons, List.not_mem_nil, or_false] at hq'
    subst hq'
    rfl
  rw [b_X4_init_e7_12 hP]
  show Ws (EP Lx 7) dd mX4_clear (fun _ h1 => postM mX4_init h Q 0 h1) 0 [(2, 7)] [] g1
  rw [b_X4_clear_e7_0 hP]
  have K' := ((((K.set 0 0).set 1 1).set 2 0).set 3 (-1)).set 4 (-1)
  exact y_post (by decide) K' (by rw [m1]; rfl) (by rw [m2]; rfl) (hq _ K')
theorem j_X4_9 {E : PvEnv} {Lx dd : Nat} {h : Hp} {Q : Int → Hp → Prop} (hE : HM E Lx) (hn : h (-3) 0 = 10) (hq : ∀ g : Hp, Mk h g 9 10 11 40 (up (up (up (up (up (up (h 9) 5 10) 0 0) 1 1) 2 0) 3 (-1)) 4 (-1)) (fun _ _ => 0) → Q 0 g) : wpM E (dd + 2) mX4_init [(2, 9)] h Q := by
  have hc := wpM_mono E (dd + 1)
  obtain ⟨s, s3, s4⟩ := sl_h (M := mX4_init) (h := h) (by decide) hE
  have m1 : mMc mX4_init = 1 := rfl
  have m2 : mMs mX4_init = 40 := rfl
  show WpC (setLim E mX4_init h) (dd + 1) mX4_init (wpM E (dd + 1)) (postM mX4_init h Q) 0 [(2, 9)] [] h
  rw [m1, hn] at s3
  rw [m2] at s4
  generalize setLim E mX4_init h = F at *
  refine y_obj hc dX4_init_0 dX4_init_1 (M' := mX9_init) rfl (by decide) (by omega) (by decide) ?_
  have K := Mk.rf hn (by decide : (0 : Int) ≤ 9) (by decide) (fun _ _ => 0)
  refine y_row (Lx := Lx) hc K (ty := .int) (n := 40) dX4_init_4 dX4_init_5 rfl (fun _ _ _ q => q) dX4_init_7 dX4_init_9 (pc' := 12) rfl sk_10 (by decide) sn_10 (by decide) s (by decide) (by omega) (by omega) fl_4_9 sk_9 (Or.inr ⟨rfl, rfl, rfl⟩) rfl (m' := 11) rfl (b' := 40) rfl ?_
  clear K
  intro g1 K
  have hP : ∀ kk, EP Lx 9 9 kk = refT 9 kk := EP_o (by decide)
  refine W_switch (E := EP Lx 9) (Lx := Lx) (Q := postM mX4_init h Q) (EP_still (by decide)) rfl s.1 hE.1 (by rw [K.1.2.1]; decide) (EP_refs K.2.2.2.1 [(9, 5, 10)] (by decide) ?_) (fun _ _ _ _ _ q => q) ?_
  · intro q hq'
    simp only [List.mem_cons, List.not_mem_nil, or_false] at hq'
    subst hq'
    rfl
  rw [b_X4_init_e9_12 hP]
  show Ws (EP Lx 9) dd mX4_clear (fun _ h1 => postM mX4_init h Q 0 h1) 0 [(2, 9)] [] g1
  rw [b_X4_clear_e9_0 hP]
  have K' := ((((K.set 0 0).set 1 1).set 2 0).set 3 (-1)).set 4 (-1)
  exact y_post (by decide) K' (by rw [m1]; rfl) (by rw [m2]; rfl) (hq _ K')
theorem y_rowG {E : PvEnv} {d : Nat} {M : MRec} {cal : PCal} {Q : Int → Hp → Prop} {pc : Nat} {L : List PV} {h g : Hp} {o c m b : Int} {F : Int → Int} {R : Hp} {Lx : Nat} (hc : MonoC cal) (K : Mk h g o c m b F R) {ty : ArrayType} {idx ci f fin p2 pc' : Nat} {n m' b' : Int} (d0 : decode (mC M) pc = .ok (.aload_n 0, 1)) (e1 : ∀ (S : List PV) (h : Hp), WpC E d M cal Q p2 ((2, o) :: L) ((0, n) :: S) h → WpC E d M cal Q (pc + 1) ((2, o) :: L) S h) (d2 : decode (mC M) p2 = .ok (.newarray ty, 2)) (d3 : decode (mC M) (p2 + 2) = .ok (.putfield idx, 3)) (hp : p2 + 2 + 3 = pc') (hs : shK m = atyK ty) (h13 : atyK ty ≤ 13) (hn : shN m = n) (hn0 : 0 ≤ n) (hE : HM E Lx) (hM : mMc M ≠ 0) (h1 : m + 1 ≤ E (-3) 1) (h2 : h (-3) 1 + b + n ≤ E (-3) 2) (hf : fldT (mO M) idx = some (0, ci, f, 2, fin)) (ho : shK o = ci) (hfin : fin = 0 ∨ (fin = 1 ∧ (mY M).name = "<init>" ∧ ci = mO M)) (hR : R m = fun _ => 0) (hm : m + 1 = m') (hb : b + n = b') (hx : ∀ g' : Hp, Mk h g' o c m' b' (up F f m) R → WpC E d M cal Q pc' ((2, o) :: L) [] g') : WpC E d M cal Q pc ((2, o) :: L) [] g := by
  have K' := K.row hR f n
  rw [hm, hb] at K'
  have hx' := hx _ K'
  obtain ⟨⟨k1, k2, k3⟩, ⟨k4, k5, k6⟩, k7, k8, k9⟩ := K
  subst hp
  refine z_gen hc d0 rfl ?_
  show WpC E d M cal Q (pc + 1) ((2, o) :: L) [(2, o)] g
  refine e1 _ _ ?_
  refine z_newa hc (ty := ty) d2 k2 hs h13 hn hn0 hE.2 hM h1 (by omega) ?_
  exact z_putR hc d3 hf ho (hE.1.2 o _ k4) hfin (by omega) hx'
theorem j_X7_1 {E : PvEnv} {Lx dd : Nat} {h : Hp} {Q : Int → Hp → Prop} (hE : HM E Lx) (hd0 : dd ≠ 0) (hn : h (-3) 0 = 2) (hq : ∀ g : Hp, Mk h g 1 2 4 246 (up (up (h 1) 0 2) 1 3) (hrow (fun _ _ => 0) 2 (flr (fun _ => 0) 6 (-1))) → Q 0 (hst g (-3) 1 (h (-3) 1 + mMs mX7_init))) : wpM E (dd + 1) mX7_init [(2, 1), (0, 6)] h Q := by
  have hc := wpM_mono E dd
  obtain ⟨s, s3, s4⟩ := sl_h (M := mX7_init) (h := h) (by decide) hE
  have m1 : mMc mX7_init = 2 := rfl
  have m2 : mMs mX7_init = 246 := rfl
  show WpC (setLim E mX7_init h) dd mX7_init (wpM E dd) (postM mX7_init h Q) 0 [(2, 1), (0, 6), (9, 0)] [] h
  rw [m1, hn] at s3
  rw [m2] at s4
  generalize setLim E mX7_init h = F at *
  refine y_obj hc dX7_init_0 dX7_init_1 (M' := mX9_init) rfl (by decide) hd0 (by decide) ?_
  have K := Mk.rf hn (by decide : (0 : Int) ≤ 1) (by decide) (fun _ _ => 0)
  refine y_row (Lx := Lx) hc K (ty := .int) (n := 6) dX7_init_4 dX7_init_5 rfl (fun _ _ _ q => q) dX7_init_6 dX7_init_8 (pc' := 11) rfl sk_2 (by decide) sn_2 (by decide) s (by decide) (by omega) (by omega) fl_7_9 sk_1 (Or.inr ⟨rfl, rfl, rfl⟩) rfl (m' := 3) rfl (b' := 6) rfl ?_
  clear K
  intro g1 K
  refine y_rowG (Lx := Lx) hc K (ty := .int) (n := 240) dX7_init_11 (p2 := 16) (fun S g q => ?_) dX7_init_16 dX7_init_18 (pc' := 21) rfl sk_3 (by decide) sn_3 (by decide) s (by decide) (by omega) (by omega) fl_7_15 sk_1 (Or.inr ⟨rfl, rfl, rfl⟩) rfl (m' := 4) rfl (b' := 246) rfl ?_
  · refine z_gen hc dX7_init_12 rfl ?_
    show WpC F dd mX7_init (wpM E dd) (postM mX7_init h Q) 13 [(2, 1), (0, 6), (9, 0)] ((0, 6) :: S) g
    refine z_gen hc dX7_init_13 rfl ?_
    show WpC F dd mX7_init (wpM E dd) (postM mX7_init h Q) 15 [(2, 1), (0, 6), (9, 0)] ((0, 40) :: (0, 6) :: S) g
    refine z_gen hc dX7_init_15 rfl ?_
    exact q
  clear K
  intro g2 K
  have hP : ∀ kk, EP Lx 1 1 kk = refT 1 kk := EP_o (by decide)
  refine W_switch (E := EP Lx 1) (Lx := Lx) (Q := postM mX7_init h Q) (EP_still (by decide)) rfl s.1 hE.1 (by rw [K.1.2.1]; decide) (EP_refs K.2.2.2.1 [(1, 0, 2), (1, 1, 3)] (by decide) ?_) (fun _ _ _ _ _ q => q) ?_
  · intro q hq'
    simp only [List.mem_cons, List.not_mem_nil, or_false] at hq'
    rcases hq' with rfl | rfl
    all_goals rfl
  rw [b_X7_init_e1_21 hP]
  have l := flr_loop (P := fun i g => Ws (EP Lx 1) dd mX7_init (postM mX7_init h Q) 23 [(2, 1), (0, 6), (0, i)] [] g) 2 (-1) 6 (fun kk g hk => by
    show Ws (EP Lx 1) dd mX7_init (postM mX7_init h Q) 23 [(2, 1), (0, 6), (0, (kk : Int))] [] g = Ws (EP Lx 1) dd mX7_init (postM mX7_init h Q) 23 [(2, 1), (0, 6), (0, (kk : Int) + 1)] [] (hst g 2 kk (-1))
    rw [b_X7_init_e1_23 hP, if_pos (by omega), and_tl (by omega), w32_of (by omega) (by omega)]) g2
  refine l.mpr ?_
  show Ws (EP Lx 1) dd mX7_init (postM mX7_init h Q) 23 [(2, 1), (0, 6), (0, ((6 : Nat) : Int))] [] _
  rw [b_X7_init_e1_23 hP, if_neg (by decide)]
  have e : g2 2 = fun _ => 0 := K.2.2.1 2 (by decide) (by decide)
  rw [e]
  have K' := K.re (r := 2) (by decide) (by decide) (flr (fun _ => 0) ((6 : Nat) : Int) (-1))
  have q1 := K'.1
  unfold postM
  rw [if_neg (by decide : ¬ mMc mX7_init = 0), m1, m2] at *
  exact ⟨⟨by omega, by omega⟩, hq _ K'⟩
theorem j_X7_4 {E : PvEnv} {Lx dd : Nat} {h : Hp} {Q : Int → Hp → Prop} (hE : HM E Lx) (hd0 : dd ≠ 0) (hn : h (-3) 0 = 5) (hq : ∀ g : Hp, Mk h g 4 5 7 164 (up (up (h 4) 0 5) 1 6) (hrow (fun _ _ => 0) 5 (flr (fun _ => 0) 4 (-1))) → Q 0 (hst g (-3) 1 (h (-3) 1 + mMs mX7_init))) : wpM E (dd + 1) mX7_init [(2, 4), (0, 4)] h Q := by
  have hc := wpM_mono E dd
  obtain ⟨s, s3, s4⟩ := sl_h (M := mX7_init) (h := h) (by decide) hE
  have m1 : mMc mX7_init = 2 := rfl
  have m2 : mMs mX7_init = 246 := rfl
  show WpC (setLim E mX7_init h) dd mX7_init (wpM E dd) (postM mX7_init h Q) 0 [(2, 4), (0, 4), (9, 0)] [] h
  rw [m1, hn] at s3
  rw [m2] at s4
  generalize setLim E mX7_init h = F at *
  refine y_obj hc dX7_init_0 dX7_init_1 (M' := mX9_init) rfl (by decide) hd0 (by decide) ?_
  have K := Mk.rf hn (by decide : (0 : Int) ≤ 4) (by decide) (fun _ _ => 0)
  refine y_row (Lx := Lx) hc K (ty := .int) (n := 4) dX7_init_4 dX7_init_5 rfl (fun _ _ _ q => q) dX7_init_6 dX7_init_8 (pc' := 11) rfl sk_5 (by decide) sn_5 (by decide) s (by decide) (by omega) (by omega) fl_7_9 sk_4 (Or.inr ⟨rfl, rfl, rfl⟩) rfl (m' := 6) rfl (b' := 4) rfl ?_
  clear K
  intro g1 K
  refine y_rowG (Lx := Lx) hc K (ty := .int) (n := 160) dX7_init_11 (p2 := 16) (fun S g q => ?_) dX7_init_16 dX7_init_18 (pc' := 21) rfl sk_6 (by decide) sn_6 (by decide) s (by decide) (by omega) (by omega) fl_7_15 sk_4 (Or.inr ⟨rfl, rfl, rfl⟩) rfl (m' := 7) rfl (b' := 164) rfl ?_
  · refine z_gen hc dX7_init_12 rfl ?_
    show WpC F dd mX7_init (wpM E dd) (postM mX7_init h Q) 13 [(2, 4), (0, 4), (9, 0)] ((0, 4) :: S) g
    refine z_gen hc dX7_init_13 rfl ?_
    show WpC F dd mX7_init (wpM E dd) (postM mX7_init h Q) 15 [(2, 4), (0, 4), (9, 0)] ((0, 40) :: (0, 4) :: S) g
    refine z_gen hc dX7_init_15 rfl ?_
    exact q
  clear K
  intro g2 K
  have hP : ∀ kk, EP Lx 4 4 kk = refT 4 kk := EP_o (by decide)
  refine W_switch (E := EP Lx 4) (Lx := Lx) (Q := postM mX7_init h Q) (EP_still (by decide)) rfl s.1 hE.1 (by rw [K.1.2.1]; decide) (EP_refs K.2.2.2.1 [(4, 0, 5), (4, 1, 6)] (by decide) ?_) (fun _ _ _ _ _ q => q) ?_
  · intro q hq'
    simp only [List.mem_cons, List.not_mem_nil, or_false] at hq'
    rcases hq' with rfl | rfl
    all_goals rfl
  rw [b_X7_init_e4_21 hP]
  have l := flr_loop (P := fun i g => Ws (EP Lx 4) dd mX7_init (postM mX7_init h Q) 23 [(2, 4), (0, 4), (0, i)] [] g) 5 (-1) 4 (fun kk g hk => by
    show Ws (EP Lx 4) dd mX7_init (postM mX7_init h Q) 23 [(2, 4), (0, 4), (0, (kk : Int))] [] g = Ws (EP Lx 4) dd mX7_init (postM mX7_init h Q) 23 [(2, 4), (0, 4), (0, (kk : Int) + 1)] [] (hst g 5 kk (-1))
    rw [b_X7_init_e4_23 hP, if_pos (by omega), and_tl (by omega), w32_of (by omega) (by omega)]) g2
  refine l.mpr ?_
  show Ws (EP Lx 4) dd mX7_init (postM mX7_init h Q) 23 [(2, 4), (0, 4), (0, ((4 : Nat) : Int))] [] _
  rw [b_X7_init_e4_23 hP, if_neg (by decide)]
  have e : g2 5 = fun _ => 0 := K.2.2.1 5 (by decide) (by decide)
  rw [e]
  have K' := K.re (r := 5) (by decide) (by decide) (flr (fun _ => 0) ((4 : Nat) : Int) (-1))
  have q1 := K'.1
  unfold postM
  rw [if_neg (by decide : ¬ mMc mX7_init = 0), m1, m2] at *
  exact ⟨⟨by omega, by omega⟩, hq _ K'⟩
