/-! constructors: the layout -/
theorem dX5_init_0 : decode cX5_init 0 = .ok (.aload_n 0, 1) := by decide +kernel
theorem dX5_init_1 : decode cX5_init 1 = .ok (.invokespecial 3, 3) := by decide +kernel
theorem dX5_init_4 : decode cX5_init 4 = .ok (.aload_n 0, 1) := by decide +kernel
theorem dX5_init_5 : decode cX5_init 5 = .ok (.sipush 337, 3) := by decide +kernel
theorem dX5_init_8 : decode cX5_init 8 = .ok (.newarray .int, 2) := by decide +kernel
theorem dX5_init_10 : decode cX5_init 10 = .ok (.putfield 9, 3) := by decide +kernel
theorem dX5_init_13 : decode cX5_init 13 = .ok (.aload_n 0, 1) := by decide +kernel
theorem dX5_init_14 : decode cX5_init 14 = .ok (.sipush 960, 3) := by decide +kernel
theorem dX5_init_17 : decode cX5_init 17 = .ok (.newarray .int, 2) := by decide +kernel
theorem dX5_init_19 : decode cX5_init 19 = .ok (.putfield 15, 3) := by decide +kernel
theorem dX5_init_22 : decode cX5_init 22 = .ok (.aload_n 0, 1) := by decide +kernel
theorem dX5_init_23 : decode cX5_init 23 = .ok (.sipush 960, 3) := by decide +kernel
theorem dX5_init_26 : decode cX5_init 26 = .ok (.newarray .int, 2) := by decide +kernel
theorem dX5_init_28 : decode cX5_init 28 = .ok (.putfield 18, 3) := by decide +kernel
theorem dX5_init_31 : decode cX5_init 31 = .ok (.aload_n 0, 1) := by decide +kernel
theorem dX5_init_32 : decode cX5_init 32 = .ok (.sipush 336, 3) := by decide +kernel
theorem dX5_init_35 : decode cX5_init 35 = .ok (.newarray .int, 2) := by decide +kernel
theorem dX5_init_37 : decode cX5_init 37 = .ok (.putfield 21, 3) := by decide +kernel
theorem dX5_init_40 : decode cX5_init 40 = .ok (.aload_n 0, 1) := by decide +kernel
theorem dX5_init_41 : decode cX5_init 41 = .ok (.sipush 256, 3) := by decide +kernel
theorem dX5_init_44 : decode cX5_init 44 = .ok (.newarray .int, 2) := by decide +kernel
theorem dX5_init_46 : decode cX5_init 46 = .ok (.putfield 24, 3) := by decide +kernel
theorem dX5_init_49 : decode cX5_init 49 = .ok (.return_, 1) := by decide +kernel
theorem i_X5 {E : PvEnv} {d : Nat} {h : Hp} {Q : Int → Hp → Prop} (hE : ∀ a f : Int, 0 ≤ a → E a f = -7) (hE0 : E (-3) 0 = -7) (hn : h (-3) 0 = 21) (hq : ∀ h' : Hp, h' (-3) 0 = 26 → h' (-3) 1 = h (-3) 1 + 2849 → h' 21 = (fun _ => 0) → h' 22 = (fun _ => 0) → h' 23 = (fun _ => 0) → h' 24 = (fun _ => 0) → h' 25 = (fun _ => 0) → h' 20 = (up (up (up (up (up (h 20) 0 21) 1 22) 2 23) 3 24) 4 25) → (∀ a : Int, a ≠ -3 → a ≠ 20 → a ≠ 21 → a ≠ 22 → a ≠ 23 → a ≠ 24 → a ≠ 25 → h' a = h a) → Q 0 h') : wpM E (d + 2) mX5_init [(2, 20)] h Q := by
  have hc := wpM_mono E (d + 1)
  obtain ⟨s1, s2, s3, s4⟩ := sl_e (M := mX5_init) (h := h) (by decide) hE hE0
  have m1 : mMc mX5_init = 5 := rfl
  have m2 : mMs mX5_init = 2849 := rfl
  show WpC (setLim E mX5_init h) (d + 1) mX5_init (wpM E (d + 1)) (postM mX5_init h Q) 0 [(2, 20)] [] h
  rw [m1] at s3
  rw [m2] at s4
  generalize setLim E mX5_init h = F at *
  refine z_gen hc dX5_init_0 rfl ?_
  show WpC F (d + 1) mX5_init (wpM E (d + 1)) (postM mX5_init h Q) 1 [(2, 20)] [(2, 20)] h
  refine z_obj hc dX5_init_1 (M' := mX9_init) rfl (by decide) (by omega) (by decide) ?_
  refine z_row hc (ty := .int) dX5_init_4 dX5_init_5 dX5_init_8 dX5_init_10 (n := 337) (by decide) hn (by decide) sk_21 (by decide) sn_21 (by decide) s1 s2 (by decide) (by omega) (by omega) fl_5_9 sk_20 (by decide) (Or.inr ⟨rfl, rfl, rfl⟩) ?_
  obtain ⟨h1, e1⟩ : ∃ h1 : Hp, h1 = mkr h 20 ((0 : Nat) : Int) 21 337 := ⟨_, rfl⟩
  rw [← e1]
  have a1 : h1 (-3) 0 = 22 := by rw [e1, mkr_0 (by decide) hn]; rfl
  have b1' : h1 (-3) 1 = h (-3) 1 + 337 := by rw [e1, mkr_1 (by decide) rfl]
  refine z_row hc (ty := .int) dX5_init_13 dX5_init_14 dX5_init_17 dX5_init_19 (n := 960) (by decide) a1 (by decide) sk_22 (by decide) sn_22 (by decide) s1 s2 (by decide) (by omega) (by omega) fl_5_15 sk_20 (by decide) (Or.inr ⟨rfl, rfl, rfl⟩) ?_
  obtain ⟨h2, e2⟩ : ∃ h2 : Hp, h2 = mkr h1 20 ((1 : Nat) : Int) 22 960 := ⟨_, rfl⟩
  rw [← e2]
  have a2 : h2 (-3) 0 = 23 := by rw [e2, mkr_0 (by decide) a1]; rfl
  have b2' : h2 (-3) 1 = h (-3) 1 + 1297 := by rw [e2, mkr_1 (by decide) b1']; omega
  refine z_row hc (ty := .int) dX5_init_22 dX5_init_23 dX5_init_26 dX5_init_28 (n := 960) (by decide) a2 (by decide) sk_23 (by decide) sn_23 (by decide) s1 s2 (by decide) (by omega) (by omega) fl_5_18 sk_20 (by decide) (Or.inr ⟨rfl, rfl, rfl⟩) ?_
  obtain ⟨h3, e3⟩ : ∃ h3 : Hp, h3 = mkr h2 20 ((2 : Nat) : Int) 23 960 := ⟨_, rfl⟩
  rw [← e3]
  have a3 : h3 (-3) 0 = 24 := by rw [e3, mkr_0 (by decide) a2]; rfl
  have b3' : h3 (-3) 1 = h (-3) 1 + 2257 := by rw [e3, mkr_1 (by decide) b2']; omega
  refine z_row hc (ty := .int) dX5_init_31 dX5_init_32 dX5_init_35 dX5_init_37 (n := 336) (by decide) a3 (by decide) sk_24 (by decide) sn_24 (by decide) s1 s2 (by decide) (by omega) (by omega) fl_5_21 sk_20 (by decide) (Or.inr ⟨rfl, rfl, rfl⟩) ?_
  obtain ⟨h4, e4⟩ : ∃ h4 : Hp, h4 = mkr h3 20 ((3 : Nat) : Int) 24 336 := ⟨_, rfl⟩
  rw [← e4]
  have a4 : h4 (-3) 0 = 25 := by rw [e4, mkr_0 (by decide) a3]; rfl
  have b4' : h4 (-3) 1 = h (-3) 1 + 2593 := by rw [e4, mkr_1 (by decide) b3']; omega
  refine z_row hc (ty := .int) dX5_init_40 dX5_init_41 dX5_init_44 dX5_init_46 (n := 256) (by decide) a4 (by decide) sk_25 (by decide) sn_25 (by decide) s1 s2 (by decide) (by omega) (by omega) fl_5_24 sk_20 (by decide) (Or.inr ⟨rfl, rfl, rfl⟩) ?_
  obtain ⟨h5, e5⟩ : ∃ h5 : Hp, h5 = mkr h4 20 ((4 : Nat) : Int) 25 256 := ⟨_, rfl⟩
  rw [← e5]
  have a5 : h5 (-3) 0 = 26 := by rw [e5, mkr_0 (by decide) a4]; rfl
  have b5' : h5 (-3) 1 = h (-3) 1 + 2849 := by rw [e5, mkr_1 (by decide) b4']; omega
  refine z_gen hc dX5_init_49 rfl ?_
  refine ⟨rfl, ?_⟩
  unfold postM
  rw [if_neg (show ¬ mMc mX5_init = 0 by decide), m1, m2]
  refine ⟨⟨by rw [a5, hn]; rfl, by rw [b5']; exact Int.le_refl _⟩, hq _ ?_ ?_ ?_ ?_ ?_ ?_ ?_ ?_ ?_⟩
  · rw [hst_o _ _ _ (by decide), a5]
  · rw [hst_s]; rfl
  · rw [hst_off _ (by decide), e5, mkr_n a4 (by decide) (by decide) (by decide), e4, mkr_n a3 (by decide) (by decide) (by decide), e3, mkr_n a2 (by decide) (by decide) (by decide), e2, mkr_n a1 (by decide) (by decide) (by decide), e1, mkr_a hn (by decide) (by decide)]
  · rw [hst_off _ (by decide), e5, mkr_n a4 (by decide) (by decide) (by decide), e4, mkr_n a3 (by decide) (by decide) (by decide), e3, mkr_n a2 (by decide) (by decide) (by decide), e2, mkr_a a1 (by decide) (by decide)]
  · rw [hst_off _ (by decide), e5, mkr_n a4 (by decide) (by decide) (by decide), e4, mkr_n a3 (by decide) (by decide) (by decide), e3, mkr_a a2 (by decide) (by decide)]
  · rw [hst_off _ (by decide), e5, mkr_n a4 (by decide) (by decide) (by decide), e4, mkr_a a3 (by decide) (by decide)]
  · rw [hst_off _ (by decide), e5, mkr_a a4 (by decide) (by decide)]
  · rw [hst_off _ (by decide), e5, mkr_o a4 (by decide) (by decide), e4, mkr_o a3 (by decide) (by decide), e3, mkr_o a2 (by decide) (by decide), e2, mkr_o a1 (by decide) (by decide), e1, mkr_o hn (by decide) (by decide)]
    rfl
  · intro a g g0 g1 g2 g3 g4 g5
    rw [hst_off _ g, e5, mkr_n a4 g g0 g5, e4, mkr_n a3 g g0 g4, e3, mkr_n a2 g g0 g3, e2, mkr_n a1 g g0 g2, e1, mkr_n hn g g0 g1]
