/-! constructors: heap mode, an instruction at a time -/
theorem z_gen {E : PvEnv} {d : Nat} {M : MRec} {cal : PCal} {Q : Int → Hp → Prop} {pc : Nat} {L S : List PV} {h : Hp} (hc : MonoC cal) {i : Instr} {len : Nat} (hd : decode (mC M) pc = .ok (i, len)) (hl : lenOK i len = true) (hx : ex1 E d M cal Q i len pc L S h (WpC E d M cal Q)) : WpC E d M cal Q pc L S h := WpC_fold hc (by
  unfold exI
  rw [hd]
  dsimp only
  rw [if_pos hl]
  exact hx)
/-- a made row -/
theorem z_newa {E : PvEnv} {d : Nat} {M : MRec} {cal : PCal} {Q : Int → Hp → Prop} {pc : Nat} {L S : List PV} {h : Hp} (hc : MonoC cal) {ty : ArrayType} (hd : decode (mC M) pc = .ok (.newarray ty, 2)) {n a : Int} (ha : h (-3) 0 = a) (hk : shK a = atyK ty) (h13 : atyK ty ≤ 13) (hn : shN a = n) (h0 : 0 ≤ n) (hE : E (-3) 0 = -7) (hM : mMc M ≠ 0) (h1 : a + 1 ≤ E (-3) 1) (h2 : h (-3) 1 + n ≤ E (-3) 2) (hx : WpC E d M cal Q (pc + 2) L ((2, a) :: S) (hnew h (fun _ => 0) n)) : WpC E d M cal Q pc L ((0, n) :: S) h := z_gen hc hd rfl (by
  subst ha
  exact ⟨⟨hk, h13, hn, h0, hE, hM, h1, h2⟩, hx⟩)
theorem z_putR {E : PvEnv} {d : Nat} {M : MRec} {cal : PCal} {Q : Int → Hp → Prop} {pc : Nat} {L S : List PV} {h : Hp} (hc : MonoC cal) {a v : Int} {idx ci f fin : Nat} (hd : decode (mC M) pc = .ok (.putfield idx, 3)) (hf : fldT (mO M) idx = some (0, ci, f, 2, fin)) (ha : shK a = ci) (hE : E a f = -7) (hfin : fin = 0 ∨ (fin = 1 ∧ (mY M).name = "<init>" ∧ ci = mO M)) (hv : v ≠ -2) (hx : WpC E d M cal Q (pc + 3) L S (hst h a f v)) : WpC E d M cal Q pc L ((2, v) :: (2, a) :: S) h := z_gen hc hd rfl (by
  show exPut E M idx pc L ((2, v) :: (2, a) :: S) h (WpC E d M cal Q)
  unfold exPut
  rw [hf]
  refine ⟨⟨ha, rfl, fun z => absurd z (by decide), hE, ?_, fun _ => hv⟩, hx⟩
  rcases hfin with z | ⟨z1, z2, z3⟩
  · exact Or.inl z
  · exact Or.inr ⟨z1, z2, z3, rfl⟩)
