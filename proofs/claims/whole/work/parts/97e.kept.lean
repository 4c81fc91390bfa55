/-! constructors: what was kept -/
theorem dX3_init_0 : decode cX3_init 0 = .ok (.aload_n 0, 1) := by decide +kernel
theorem dX3_init_1 : decode cX3_init 1 = .ok (.invokespecial 3, 3) := by decide +kernel
theorem dX3_init_4 : decode cX3_init 4 = .ok (.aload_n 0, 1) := by decide +kernel
theorem dX3_init_5 : decode cX3_init 5 = .ok (.sipush 336, 3) := by decide +kernel
theorem dX3_init_8 : decode cX3_init 8 = .ok (.newarray .int, 2) := by decide +kernel
theorem dX3_init_10 : decode cX3_init 10 = .ok (.putfield 9, 3) := by decide +kernel
theorem dX3_init_13 : decode cX3_init 13 = .ok (.aload_n 0, 1) := by decide +kernel
theorem dX3_init_14 : decode cX3_init 14 = .ok (.sipush 336, 3) := by decide +kernel
theorem dX3_init_17 : decode cX3_init 17 = .ok (.newarray .int, 2) := by decide +kernel
theorem dX3_init_19 : decode cX3_init 19 = .ok (.putfield 15, 3) := by decide +kernel
theorem dX3_init_22 : decode cX3_init 22 = .ok (.aload_n 0, 1) := by decide +kernel
theorem dX3_init_23 : decode cX3_init 23 = .ok (.sipush 336, 3) := by decide +kernel
theorem dX3_init_26 : decode cX3_init 26 = .ok (.newarray .int, 2) := by decide +kernel
theorem dX3_init_28 : decode cX3_init 28 = .ok (.putfield 18, 3) := by decide +kernel
theorem dX3_init_31 : decode cX3_init 31 = .ok (.return_, 1) := by decide +kernel

theorem z_row {E : PvEnv} {d : Nat} {M : MRec} {cal : PCal} {Q : Int → Hp → Prop} {pc : Nat} {L : List PV} {h : Hp} (hc : MonoC cal) {k : Int} {ty : ArrayType} {idx ci f fin : Nat} {o n a : Int} (d0 : decode (mC M) pc = .ok (.aload_n 0, 1)) (d1 : decode (mC M) (pc + 1) = .ok (.sipush k, 3)) (d2 : decode (mC M) (pc + 4) = .ok (.newarray ty, 2)) (d3 : decode (mC M) (pc + 6) = .ok (.putfield idx, 3)) (hk : (k + 32768) % 65536 - 32768 = n) (ha : h (-3) 0 = a) (h0 : 0 ≤ a) (hs : shK a = atyK ty) (h13 : atyK ty ≤ 13) (hn : shN a = n) (hn0 : 0 ≤ n) (hE : ∀ a f : Int, 0 ≤ a → E a f = -7) (hE0 : E (-3) 0 = -7) (hM : mMc M ≠ 0) (h1 : a + 1 ≤ E (-3) 1) (h2 : h (-3) 1 + n ≤ E (-3) 2) (hf : fldT (mO M) idx = some (0, ci, f, 2, fin)) (ho : shK o = ci) (ho0 : 0 ≤ o) (hfin : fin = 0 ∨ (fin = 1 ∧ (mY M).name = "<init>" ∧ ci = mO M)) (hx : WpC E d M cal Q (pc + 9) ((2, o) :: L) [] (mkr h o f a n)) : WpC E d M cal Q pc ((2, o) :: L) [] h := by
  refine z_gen hc d0 rfl ?_
  show WpC E d M cal Q (pc + 1) ((2, o) :: L) [(2, o)] h
  refine z_gen hc d1 rfl ?_
  subst hk
  show WpC E d M cal Q (pc + 1 + 3) ((2, o) :: L) [(0, (k + 32768) % 65536 - 32768), (2, o)] h
  refine z_newa hc (ty := ty) d2 ha hs h13 hn hn0 hE0 hM h1 h2 ?_
  exact z_putR hc d3 hf ho (hE o _ ho0) hfin (by omega) hx

theorem i_X3 {E : PvEnv} {d : Nat} {h : Hp} {Q : Int → Hp → Prop} {o : Int} (o0 : 0 ≤ o) (ko : shK o = 3) (k1 : shK (o + 1) = 11 ∧ shN (o + 1) = 336) (k2 : shK (o + 2) = 11 ∧ shN (o + 2) = 336) (k3 : shK (o + 3) = 11 ∧ shN (o + 3) = 336) (hE : ∀ a f : Int, 0 ≤ a → E a f = -7) (hE0 : E (-3) 0 = -7) (hn : h (-3) 0 = o + 1) (hq : ∀ h' : Hp, h' (-3) 0 = o + 4 → h' (-3) 1 = h (-3) 1 + 1008 → h' (o + 1) = (fun _ => 0) → h' (o + 2) = (fun _ => 0) → h' (o + 3) = (fun _ => 0) → h' o = up (up (up (h o) 0 (o + 1)) 1 (o + 2)) 2 (o + 3) → (∀ a : Int, a ≠ -3 → a ≠ o → a ≠ o + 1 → a ≠ o + 2 → a ≠ o + 3 → h' a = h a) → Q 0 h') : wpM E (d + 2) mX3_init [(2, o)] h Q := by
  have hc := wpM_mono E (d + 1)
  obtain ⟨s1, s2, s3, s4⟩ := sl_e (M := mX3_init) (h := h) (by decide) hE hE0
  have m1 : mMc mX3_init = 3 := rfl
  have m2 : mMs mX3_init = 1008 := rfl
  show WpC (setLim E mX3_init h) (d + 1) mX3_init (wpM E (d + 1)) (postM mX3_init h Q) 0 [(2, o)] [] h
  rw [m1] at s3
  rw [m2] at s4
  generalize setLim E mX3_init h = F at *
  refine z_gen hc dX3_init_0 rfl ?_
  show WpC F (d + 1) mX3_init (wpM E (d + 1)) (postM mX3_init h Q) 1 [(2, o)] [(2, o)] h
  refine z_obj hc dX3_init_1 (M' := mX9_init) rfl (by decide) (by omega) (by omega) ?_
  refine z_row hc (ty := .int) dX3_init_4 dX3_init_5 dX3_init_8 dX3_init_10 (n := 336) (by decide) hn (by omega) k1.1 (by decide) k1.2 (by decide) s1 s2 (by decide) (by omega) (by omega) fl_3_9 ko o0 (Or.inr ⟨rfl, rfl, rfl⟩) ?_
  obtain ⟨h1, e1⟩ : ∃ h1 : Hp, h1 = mkr h o ((0 : Nat) : Int) (o + 1) 336 := ⟨_, rfl⟩
  rw [← e1]
  have a1 : h1 (-3) 0 = o + 2 := by rw [e1, mkr_0 o0 hn]; omega
  have b1 : h1 (-3) 1 = h (-3) 1 + 336 := by rw [e1, mkr_1 o0 rfl]
  refine z_row hc (ty := .int) dX3_init_13 dX3_init_14 dX3_init_17 dX3_init_19 (n := 336) (by decide) a1 (by omega) k2.1 (by decide) k2.2 (by decide) s1 s2 (by decide) (by omega) (by omega) fl_3_15 ko o0 (Or.inr ⟨rfl, rfl, rfl⟩) ?_
  obtain ⟨h2, e2⟩ : ∃ h2 : Hp, h2 = mkr h1 o ((1 : Nat) : Int) (o + 2) 336 := ⟨_, rfl⟩
  rw [← e2]
  have a2 : h2 (-3) 0 = o + 3 := by rw [e2, mkr_0 o0 a1]; omega
  have b2' : h2 (-3) 1 = h (-3) 1 + 672 := by rw [e2, mkr_1 o0 b1]; omega
  refine z_row hc (ty := .int) dX3_init_22 dX3_init_23 dX3_init_26 dX3_init_28 (n := 336) (by decide) a2 (by omega) k3.1 (by decide) k3.2 (by decide) s1 s2 (by decide) (by omega) (by omega) fl_3_18 ko o0 (Or.inr ⟨rfl, rfl, rfl⟩) ?_
  obtain ⟨h3, e3⟩ : ∃ h3 : Hp, h3 = mkr h2 o ((2 : Nat) : Int) (o + 3) 336 := ⟨_, rfl⟩
  rw [← e3]
  have a3 : h3 (-3) 0 = o + 4 := by rw [e3, mkr_0 o0 a2]; omega
  have b3 : h3 (-3) 1 = h (-3) 1 + 1008 := by rw [e3, mkr_1 o0 b2']; omega
  refine z_gen hc dX3_init_31 rfl ?_
  refine ⟨rfl, ?_⟩
  unfold postM
  rw [if_neg (show ¬ mMc mX3_init = 0 by decide), m1, m2]
  refine ⟨⟨by rw [a3, hn]; omega, by rw [b3]; exact Int.le_refl _⟩, hq _ ?_ ?_ ?_ ?_ ?_ ?_ ?_⟩
  · rw [hst_o _ _ _ (by decide), a3]
  · rw [hst_s]; rfl
  · rw [hst_off _ (by omega), e3, mkr_n a2 (by omega) (by omega) (by omega), e2, mkr_n a1 (by omega) (by omega) (by omega), e1, mkr_a hn (by omega) (by omega)]
  · rw [hst_off _ (by omega), e3, mkr_n a2 (by omega) (by omega) (by omega), e2, mkr_a a1 (by omega) (by omega)]
  · rw [hst_off _ (by omega), e3, mkr_a a2 (by omega) (by omega)]
  · rw [hst_off _ (by omega), e3, mkr_o a2 o0 (by omega), e2, mkr_o a1 o0 (by omega), e1, mkr_o hn o0 (by omega)]
    rfl
  · intro a g1 g2 g3 g4 g5
    rw [hst_off _ g1, e3, mkr_n a2 g1 g2 g5, e2, mkr_n a1 g1 g2 g4, e1, mkr_n hn g1 g2 g3]
