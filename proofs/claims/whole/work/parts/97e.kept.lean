/-! constructors: what was kept -/
theorem dX3_init_0 : decode cX3_init 0 = .ok (.aload_n 0, 1) := by decide +kernel
theorem dX3_init_1 : decode cX3_init 1 = .ok (.invokespecial 3, 3) := by decide +kernel
theorem dX3_init_4 : decode cX3_init 4 = .ok (.aload_n 0, 1) := by decide +kernel
theorem dX3_init_5 : decode cX3_init 5 = .ok (.sipush 336, 3) := by decide +kernel
theorem dX3_init_8 : decode cX3_init 8 = .ok (.newarray .int, 2) := by decide +kernel
theorem dX3_init_10 : decode cX3_init 10 = .ok (.putfield 9, 3) := by decide +kernel
theorem dX3_init_13 : decode cX3_init 13 = .ok (.aload_n 0, 1) := by decide +kernel
theorem dX3_init_14 : decode cX3_init 14 = .ok (.sipush 336, 3) := by decide +kernel
theorem dX3_init_17 : decode cX3_init 17 = .ok (.newarray .int, 2) := by decide +kernel
theorem dX3_init_19 : decode cX3_init 19 = .ok (.putfield 15, 3) := by decide +kernel
theorem dX3_init_22 : decode cX3_init 22 = .ok (.aload_n 0, 1) := by decide +kernel
theorem dX3_init_23 : decode cX3_init 23 = .ok (.sipush 336, 3) := by decide +kernel
theorem dX3_init_26 : decode cX3_init 26 = .ok (.newarray .int, 2) := by decide +kernel
theorem dX3_init_28 : decode cX3_init 28 = .ok (.putfield 18, 3) := by decide +kernel
theorem dX3_init_31 : decode cX3_init 31 = .ok (.return_, 1) := by decide +kernel

theorem z_row {E : PvEnv} {d : Nat} {M : MRec} {cal : PCal} {Q : Int → Hp → Prop} {pc : Nat} {L : List PV} {h : Hp} (hc : MonoC cal) {k : Int} {ty : ArrayType} {idx ci f fin : Nat} {o n a : Int} (d0 : decode (mC M) pc = .ok (.aload_n 0, 1)) (d1 : decode (mC M) (pc + 1) = .ok (.sipush k, 3)) (d2 : decode (mC M) (pc + 4) = .ok (.newarray ty, 2)) (d3 : decode (mC M) (pc + 6) = .ok (.putfield idx, 3)) (hk : (k + 32768) % 65536 - 32768 = n) (ha : h (-3) 0 = a) (h0 : 0 ≤ a) (hs : shK a = atyK ty) (h13 : atyK ty ≤ 13) (hn : shN a = n) (hn0 : 0 ≤ n) (hE : ∀ a f : Int, 0 ≤ a → E a f = -7) (hE0 : E (-3) 0 = -7) (hM : mMc M ≠ 0) (h1 : a + 1 ≤ E (-3) 1) (h2 : h (-3) 1 + n ≤ E (-3) 2) (hf : fldT (mO M) idx = some (0, ci, f, 2, fin)) (ho : shK o = ci) (ho0 : 0 ≤ o) (hfin : fin = 0 ∨ (fin = 1 ∧ (mY M).name = "<init>" ∧ ci = mO M)) (hx : WpC E d M cal Q (pc + 9) ((2, o) :: L) [] (mkr h o f a n)) : WpC E d M cal Q pc ((2, o) :: L) [] h := by
  refine z_gen hc d0 rfl ?_
  show WpC E d M cal Q (pc + 1) ((2, o) :: L) [(2, o)] h
  refine z_gen hc d1 rfl ?_
  subst hk
  show WpC E d M cal Q (pc + 1 + 3) ((2, o) :: L) [(0, (k + 32768) % 65536 - 32768), (2, o)] h
  refine z_newa hc (ty := ty) d2 ha hs h13 hn hn0 hE0 hM h1 h2 ?_
  exact z_putR hc d3 hf ho (hE o _ ho0) hfin (by omega) hx
