/-! constructors: shares -/
theorem dX6_init_0 : decode cX6_init 0 = .ok (.aload_n 0, 1) := by decide +kernel
theorem dX6_init_1 : decode cX6_init 1 = .ok (.invokespecial 3, 3) := by decide +kernel
theorem dX6_init_4 : decode cX6_init 4 = .ok (.aload_n 0, 1) := by decide +kernel
theorem dX6_init_5 : decode cX6_init 5 = .ok (.sipush 336, 3) := by decide +kernel
theorem dX6_init_8 : decode cX6_init 8 = .ok (.newarray .long, 2) := by decide +kernel
theorem dX6_init_10 : decode cX6_init 10 = .ok (.putfield 9, 3) := by decide +kernel
theorem dX6_init_13 : decode cX6_init 13 = .ok (.aload_n 0, 1) := by decide +kernel
theorem dX6_init_14 : decode cX6_init 14 = .ok (.sipush 336, 3) := by decide +kernel
theorem dX6_init_17 : decode cX6_init 17 = .ok (.newarray .long, 2) := by decide +kernel
theorem dX6_init_19 : decode cX6_init 19 = .ok (.putfield 15, 3) := by decide +kernel
theorem dX6_init_22 : decode cX6_init 22 = .ok (.aload_n 0, 1) := by decide +kernel
theorem dX6_init_23 : decode cX6_init 23 = .ok (.lconst 1, 1) := by decide +kernel
theorem dX6_init_24 : decode cX6_init 24 = .ok (.putfield 18, 3) := by decide +kernel
theorem dX6_init_27 : decode cX6_init 27 = .ok (.return_, 1) := by decide +kernel

theorem hw_0 (h : Hp) (f : Int → Int) (n : Int) : hnew h f n (-3) 0 = h (-3) 0 + 1 := if_pos ⟨rfl, rfl⟩
theorem hw_1 (h : Hp) (f : Int → Int) (n : Int) : hnew h f n (-3) 1 = h (-3) 1 + n := (if_neg (fun q => absurd q.2 (by decide))).trans (if_pos ⟨rfl, rfl⟩)
theorem hw_s {h : Hp} {a : Int} (ha : h (-3) 0 = a) (h0 : 0 ≤ a) (f : Int → Int) (n : Int) : hnew h f n a = f := by
  funext i
  unfold hnew
  rw [if_neg (fun q => by omega), if_neg (fun q => by omega), if_pos ha.symm]
theorem hw_n {h : Hp} {a b : Int} (ha : h (-3) 0 = a) (hb : b ≠ a) (h0 : b ≠ -3) (f : Int → Int) (n : Int) : hnew h f n b = h b := by
  funext i
  unfold hnew
  rw [if_neg (fun q => h0 q.1), if_neg (fun q => h0 q.1), if_neg (fun q => hb (q.trans ha))]
theorem sl_e {E : PvEnv} {M : MRec} {h : Hp} (hM : mMc M ≠ 0) (hE : ∀ a f : Int, 0 ≤ a → E a f = -7) (h0 : E (-3) 0 = -7) : (∀ a f : Int, 0 ≤ a → setLim E M h a f = -7) ∧ setLim E M h (-3) 0 = -7 ∧ setLim E M h (-3) 1 = h (-3) 0 + mMc M ∧ setLim E M h (-3) 2 = h (-3) 1 + mMs M := by
  unfold setLim
  rw [if_neg hM]
  refine ⟨fun a f ha => ?_, ?_, if_pos ⟨rfl, rfl⟩, ?_⟩
  · show (if a = -3 ∧ f = 1 then _ else if a = -3 ∧ f = 2 then _ else E a f) = -7
    rw [if_neg (fun q => by omega), if_neg (fun q => by omega)]
    exact hE a f ha
  · show (if (-3 : Int) = -3 ∧ (0 : Int) = 1 then _ else if (-3 : Int) = -3 ∧ (0 : Int) = 2 then _ else E (-3) 0) = -7
    rw [if_neg (fun q => absurd q.2 (by decide)), if_neg (fun q => absurd q.2 (by decide))]
    exact h0
  · exact (if_neg (fun q => absurd q.2 (by decide))).trans (if_pos ⟨rfl, rfl⟩)
theorem i_X6 {E : PvEnv} {d : Nat} {h : Hp} {Q : Int → Hp → Prop} (hE : ∀ a f : Int, 0 ≤ a → E a f = -7) (hE0 : E (-3) 0 = -7) (hn : h (-3) 0 = 46) (hq : ∀ h' : Hp, h' (-3) 0 = 48 → h' (-3) 1 = h (-3) 1 + 672 → h' 46 = (fun _ => 0) → h' 47 = (fun _ => 0) → h' 45 = up (up (up (h 45) 0 46) 1 47) 2 1 → (∀ a : Int, a ≠ -3 → a ≠ 45 → a ≠ 46 → a ≠ 47 → h' a = h a) → Q 0 h') : wpM E (d + 2) mX6_init [(2, 45)] h Q := by
  have hc := wpM_mono E (d + 1)
  obtain ⟨s1, s2, s3, s4⟩ := sl_e (M := mX6_init) (h := h) (by decide) hE hE0
  have m1 : mMc mX6_init = 2 := rfl
  have m2 : mMs mX6_init = 672 := rfl
  show WpC (setLim E mX6_init h) (d + 1) mX6_init (wpM E (d + 1)) (postM mX6_init h Q) 0 [(2, 45)] [] h
  rw [m1] at s3
  rw [m2] at s4
  generalize setLim E mX6_init h = F at *
  refine z_gen hc dX6_init_0 rfl ?_
  show WpC F (d + 1) mX6_init (wpM E (d + 1)) (postM mX6_init h Q) 1 [(2, 45)] [(2, 45)] h
  refine z_obj hc dX6_init_1 (M' := mX9_init) rfl (by decide) (by omega) (by decide) ?_
  refine z_gen hc dX6_init_4 rfl ?_
  show WpC F (d + 1) mX6_init (wpM E (d + 1)) (postM mX6_init h Q) 5 [(2, 45)] [(2, 45)] h
  refine z_gen hc dX6_init_5 rfl ?_
  show WpC F (d + 1) mX6_init (wpM E (d + 1)) (postM mX6_init h Q) 8 [(2, 45)] [(0, 336), (2, 45)] h
  refine z_newa hc (ty := .long) dX6_init_8 (a := 46) hn sk_46 (by decide) sn_46 (by decide) s2 (by decide) (by omega) (by omega) ?_
  obtain ⟨h1, e1⟩ : ∃ h1 : Hp, h1 = hnew h (fun _ => 0) 336 := ⟨_, rfl⟩
  rw [← e1]
  have a1 : h1 (-3) 0 = 47 := by rw [e1, hw_0, hn]; rfl
  have b1 : h1 (-3) 1 = h (-3) 1 + 336 := by rw [e1, hw_1]
  refine z_putR hc dX6_init_10 fl_6_9 sk_45 (s1 45 _ (by decide)) (Or.inl rfl) (by decide) ?_
  obtain ⟨h2, e2⟩ : ∃ h2 : Hp, h2 = hst h1 45 0 46 := ⟨_, rfl⟩
  have x2 : ∀ a : Int, a ≠ 45 → h2 a = h1 a := fun a ha => by rw [e2, hst_off _ ha]
  have y2 : h2 45 = up (h1 45) 0 46 := by rw [e2, hst_row, hrow_s]
  refine z_gen hc dX6_init_13 rfl ?_
  show WpC F (d + 1) mX6_init (wpM E (d + 1)) (postM mX6_init h Q) 14 [(2, 45)] [(2, 45)] (hst h1 45 0 46)
  rw [← e2]
  refine z_gen hc dX6_init_14 rfl ?_
  show WpC F (d + 1) mX6_init (wpM E (d + 1)) (postM mX6_init h Q) 17 [(2, 45)] [(0, 336), (2, 45)] h2
  refine z_newa hc (ty := .long) dX6_init_17 (a := 47) (by rw [x2 _ (by decide), a1]) sk_47 (by decide) sn_47 (by decide) s2 (by decide) (by omega) (by rw [x2 _ (by decide)]; omega) ?_
  obtain ⟨h3, e3⟩ : ∃ h3 : Hp, h3 = hnew h2 (fun _ => 0) 336 := ⟨_, rfl⟩
  rw [← e3]
  refine z_putR hc dX6_init_19 fl_6_15 sk_45 (s1 45 _ (by decide)) (Or.inl rfl) (by decide) ?_
  refine z_gen hc dX6_init_22 rfl ?_
  show WpC F (d + 1) mX6_init (wpM E (d + 1)) (postM mX6_init h Q) 23 [(2, 45)] [(2, 45)] (hst h3 45 1 47)
  refine z_gen hc dX6_init_23 rfl ?_
  show WpC F (d + 1) mX6_init (wpM E (d + 1)) (postM mX6_init h Q) 24 [(2, 45)] [(1, 1), (2, 45)] (hst h3 45 1 47)
  refine z_put hc dX6_init_24 fl_6_18 (by decide) sk_45 (s1 45 _ (by decide)) ?_
  refine z_gen hc dX6_init_27 rfl ?_
  refine ⟨rfl, ?_⟩
  have n2 : h2 (-3) 0 = 47 := by rw [x2 _ (by decide), a1]
  have a3 : h3 (-3) 0 = 48 := by rw [e3, hw_0, n2]; rfl
  have b3 : h3 (-3) 1 = h (-3) 1 + 672 := by rw [e3, hw_1, x2 _ (by decide), b1]; omega
  obtain ⟨h5, e5⟩ : ∃ h5 : Hp, h5 = hst (hst h3 45 1 47) 45 2 1 := ⟨_, rfl⟩
  have x5 : ∀ a : Int, a ≠ 45 → h5 a = h3 a := fun a ha => by rw [e5, hst_off _ ha, hst_off _ ha]
  have y5 : h5 45 = up (up (h3 45) 1 47) 2 1 := by rw [e5, hst_row, hrow_s, hst_row, hrow_s]
  show postM mX6_init h Q 0 (hst (hst h3 45 1 47) 45 2 1)
  rw [← e5]
  unfold postM
  rw [if_neg (show ¬ mMc mX6_init = 0 by decide), m1, m2]
  refine ⟨⟨by rw [x5 _ (by decide), a3, hn]; rfl, by rw [x5 _ (by decide), b3]; exact Int.le_refl _⟩, hq _ ?_ ?_ ?_ ?_ ?_ ?_⟩
  · rw [hst_o _ _ _ (by decide), x5 _ (by decide), a3]
  · rw [hst_s]; rfl
  · rw [hst_off _ (by decide), x5 _ (by decide), e3, hw_n n2 (by decide) (by decide), x2 _ (by decide), e1, hw_s hn (by decide)]
  · rw [hst_off _ (by decide), x5 _ (by decide), e3, hw_s n2 (by decide)]
  · rw [hst_off _ (by decide), y5, e3, hw_n n2 (by decide) (by decide), y2, e1, hw_n hn (by decide) (by decide)]
  · intro a g1 g2 g3 g4
    rw [hst_off _ g1, x5 _ g2, e3, hw_n n2 g4 g1, x2 _ g2, e1, hw_n hn g3 g1]
