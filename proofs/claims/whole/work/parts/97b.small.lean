/-! constructors: the small ones -/
theorem dX2_init_0 : decode cX2_init 0 = .ok (.aload_n 0, 1) := by decide +kernel
theorem dX2_init_1 : decode cX2_init 1 = .ok (.invokespecial 1, 3) := by decide +kernel
theorem dX2_init_4 : decode cX2_init 4 = .ok (.aload_n 0, 1) := by decide +kernel
theorem dX2_init_5 : decode cX2_init 5 = .ok (.lconst 1, 1) := by decide +kernel
theorem dX2_init_6 : decode cX2_init 6 = .ok (.putfield 7, 3) := by decide +kernel
theorem dX2_init_9 : decode cX2_init 9 = .ok (.return_, 1) := by decide +kernel

theorem z_obj {E : PvEnv} {d : Nat} {M : MRec} {cal : PCal} {Q : Int → Hp → Prop} {pc : Nat} {L S : List PV} {h : Hp} (hc : MonoC cal) {a : Int} {idx : Nat} {M' : MRec} (hd : decode (mC M) pc = .ok (.invokespecial idx, 3)) (ht : calT (mO M) idx = some (6, M')) (hw : wgt S + 12 ≤ mRl M) (h0 : d ≠ 0) (ha : a ≠ -1) (hx : WpC E d M cal Q (pc + 3) L S h) : WpC E d M cal Q pc L ((2, a) :: S) h := z_gen hc hd rfl (by
  show exCall E d M cal 4 idx pc L ((2, a) :: S) h (WpC E d M cal Q)
  unfold exCall
  rw [ht]
  exact ⟨⟨rfl, hw, h0, ha⟩, hx⟩)
theorem z_put {E : PvEnv} {d : Nat} {M : MRec} {cal : PCal} {Q : Int → Hp → Prop} {pc : Nat} {L S : List PV} {h : Hp} (hc : MonoC cal) {a v : Int} {idx ci f ty : Nat} (hd : decode (mC M) pc = .ok (.putfield idx, 3)) (hf : fldT (mO M) idx = some (0, ci, f, ty, 0)) (hy : ty ≤ 1) (ha : shK a = ci) (hE : E a f = -7) (hx : WpC E d M cal Q (pc + 3) L S (hst h a f v)) : WpC E d M cal Q pc L ((ty, v) :: (2, a) :: S) h := z_gen hc hd rfl (by
  show exPut E M idx pc L ((ty, v) :: (2, a) :: S) h (WpC E d M cal Q)
  unfold exPut
  rw [hf]
  exact ⟨⟨ha, (if_neg (by omega)).symm, fun z => by omega, hE, Or.inl rfl, fun z => by omega⟩, hx⟩)
theorem i_X2 {E : PvEnv} {d : Nat} {h : Hp} {Q : Int → Hp → Prop} (hE : ∀ a f : Int, 0 ≤ a → E a f = -7) (hq : Q 0 (hst h 48 1 1)) : wpM E (d + 2) mX2_init [(2, 48)] h Q := by
  have hc := wpM_mono E (d + 1)
  show WpC (setLim E mX2_init h) (d + 1) mX2_init (wpM E (d + 1)) (postM mX2_init h Q) 0 [(2, 48)] [] h
  rw [show setLim E mX2_init h = E from if_pos rfl]
  refine z_gen hc dX2_init_0 rfl ?_
  show WpC E (d + 1) mX2_init (wpM E (d + 1)) (postM mX2_init h Q) 1 [(2, 48)] [(2, 48)] h
  refine z_obj hc dX2_init_1 (M' := mX9_init) rfl (by decide) (by omega) (by decide) ?_
  refine z_gen hc dX2_init_4 rfl ?_
  show WpC E (d + 1) mX2_init (wpM E (d + 1)) (postM mX2_init h Q) 5 [(2, 48)] [(2, 48)] h
  refine z_gen hc dX2_init_5 rfl ?_
  show WpC E (d + 1) mX2_init (wpM E (d + 1)) (postM mX2_init h Q) 6 [(2, 48)] [(1, 1), (2, 48)] h
  refine z_put hc dX2_init_6 (ci := 2) (f := 1) (by decide +kernel) (by decide) sk_48 (hE 48 1 (by decide)) ?_
  refine z_gen hc dX2_init_9 rfl ?_
  refine ⟨rfl, ?_⟩
  unfold postM
  rw [if_pos (show mMc mX2_init = 0 from rfl)]
  exact ⟨⟨rfl, rfl⟩, hq⟩
