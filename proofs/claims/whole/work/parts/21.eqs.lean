/-! equations of the still mode: an instruction, an equation -/
section EQS
variable {E : PvEnv} {d : Nat} {M : MRec} {Q : Int → Hp → Prop} {pc : Nat} {L S : List PV} {h : Hp}
theorem x_gen {i : Instr} {len : Nat} (hd : decode (mC M) pc = .ok (i, len)) (hl : lenOK i len = true) {R : Prop} (hx : ex1 E d M (wpS E d) Q i len pc L S h (Ws E d M Q) = R) : Ws E d M Q pc L S h = R := by
  rw [Ws_eq]
  unfold exI
  rw [hd]
  dsimp only
  rw [if_pos hl]
  exact hx
theorem and_tl {A B : Prop} (h : A) : (A ∧ B) = B := propext ⟨fun x => x.2, fun x => ⟨h, x⟩⟩
theorem x_goto {off : Int} {tgt : Nat} (hd : decode (mC M) pc = .ok (.goto off, 3)) (h0 : 0 ≤ (pc : Int) + off) (ht : tgtOf pc off = tgt) : Ws E d M Q pc L S h = Ws E d M Q tgt L S h := x_gen hd rfl (by subst ht; exact and_tl h0)
theorem x_if {c : Bool} {P : Prop} [Decidable P] {off : Int} {tgt : Nat} (h0 : 0 ≤ (pc : Int) + off) (ht : tgtOf pc off = tgt) (hc : (c = true) = P) {S' : List PV} : pif c pc off L S' h (Ws E d M Q) = (if P then Ws E d M Q tgt L S' h else Ws E d M Q (pc + 3) L S' h) := by
  subst ht
  unfold pif
  rw [and_tl h0]
  subst hc
  split <;> rfl
theorem ite_sw {P R A B : Prop} [Decidable P] [Decidable R] (h : R ↔ ¬ P) : (if P then A else B) = (if R then B else A) := by
  by_cases p : P
  · rw [if_pos p, if_neg (fun r => h.mp r p)]
  · rw [if_neg p, if_pos (h.mpr p)]
theorem x_icmp_eq {a b off : Int} {tgt : Nat} (hd : decode (mC M) pc = .ok (.if_icmp .eq off, 3)) (h0 : 0 ≤ (pc : Int) + off) (ht : tgtOf pc off = tgt) : Ws E d M Q pc L ((0, b) :: (0, a) :: S) h = (if a = b then Ws E d M Q tgt L S h else Ws E d M Q (pc + 3) L S h) := x_gen hd rfl (x_if h0 ht decide_eq_true_eq)
theorem x_icmp_ne {a b off : Int} {tgt : Nat} (hd : decode (mC M) pc = .ok (.if_icmp .ne off, 3)) (h0 : 0 ≤ (pc : Int) + off) (ht : tgtOf pc off = tgt) : Ws E d M Q pc L ((0, b) :: (0, a) :: S) h = (if a = b then Ws E d M Q (pc + 3) L S h else Ws E d M Q tgt L S h) := x_gen hd rfl (by
  show pif (decide (¬ a = b)) pc off L S h (Ws E d M Q) = _
  rw [x_if (P := ¬ a = b) h0 ht decide_eq_true_eq]
  exact ite_sw Decidable.not_not.symm)
theorem x_icmp_lt {a b off : Int} {tgt : Nat} (hd : decode (mC M) pc = .ok (.if_icmp .lt off, 3)) (h0 : 0 ≤ (pc : Int) + off) (ht : tgtOf pc off = tgt) : Ws E d M Q pc L ((0, b) :: (0, a) :: S) h = (if a < b then Ws E d M Q tgt L S h else Ws E d M Q (pc + 3) L S h) := x_gen hd rfl (x_if h0 ht decide_eq_true_eq)
theorem x_icmp_ge {a b off : Int} {tgt : Nat} (hd : decode (mC M) pc = .ok (.if_icmp .ge off, 3)) (h0 : 0 ≤ (pc : Int) + off) (ht : tgtOf pc off = tgt) : Ws E d M Q pc L ((0, b) :: (0, a) :: S) h = (if a < b then Ws E d M Q (pc + 3) L S h else Ws E d M Q tgt L S h) := x_gen hd rfl (by
  show pif (decide (b ≤ a)) pc off L S h (Ws E d M Q) = _
  rw [x_if (P := b ≤ a) h0 ht decide_eq_true_eq]
  exact ite_sw (by omega))
theorem x_icmp_gt {a b off : Int} {tgt : Nat} (hd : decode (mC M) pc = .ok (.if_icmp .gt off, 3)) (h0 : 0 ≤ (pc : Int) + off) (ht : tgtOf pc off = tgt) : Ws E d M Q pc L ((0, b) :: (0, a) :: S) h = (if b < a then Ws E d M Q tgt L S h else Ws E d M Q (pc + 3) L S h) := x_gen hd rfl (x_if h0 ht decide_eq_true_eq)
theorem x_icmp_le {a b off : Int} {tgt : Nat} (hd : decode (mC M) pc = .ok (.if_icmp .le off, 3)) (h0 : 0 ≤ (pc : Int) + off) (ht : tgtOf pc off = tgt) : Ws E d M Q pc L ((0, b) :: (0, a) :: S) h = (if b < a then Ws E d M Q (pc + 3) L S h else Ws E d M Q tgt L S h) := x_gen hd rfl (by
  show pif (decide (a ≤ b)) pc off L S h (Ws E d M Q) = _
  rw [x_if (P := a ≤ b) h0 ht decide_eq_true_eq]
  exact ite_sw (by omega))
theorem x_if_eq {a off : Int} {tgt : Nat} (hd : decode (mC M) pc = .ok (.ifCond .eq off, 3)) (h0 : 0 ≤ (pc : Int) + off) (ht : tgtOf pc off = tgt) : Ws E d M Q pc L ((0, a) :: S) h = (if a = 0 then Ws E d M Q tgt L S h else Ws E d M Q (pc + 3) L S h) := x_gen hd rfl (x_if h0 ht decide_eq_true_eq)
theorem x_if_ne {a off : Int} {tgt : Nat} (hd : decode (mC M) pc = .ok (.ifCond .ne off, 3)) (h0 : 0 ≤ (pc : Int) + off) (ht : tgtOf pc off = tgt) : Ws E d M Q pc L ((0, a) :: S) h = (if a = 0 then Ws E d M Q (pc + 3) L S h else Ws E d M Q tgt L S h) := x_gen hd rfl (by
  show pif (decide (¬ a = 0)) pc off L S h (Ws E d M Q) = _
  rw [x_if (P := ¬ a = 0) h0 ht decide_eq_true_eq]
  exact ite_sw Decidable.not_not.symm)
theorem x_if_lt {a off : Int} {tgt : Nat} (hd : decode (mC M) pc = .ok (.ifCond .lt off, 3)) (h0 : 0 ≤ (pc : Int) + off) (ht : tgtOf pc off = tgt) : Ws E d M Q pc L ((0, a) :: S) h = (if a < 0 then Ws E d M Q tgt L S h else Ws E d M Q (pc + 3) L S h) := x_gen hd rfl (x_if h0 ht decide_eq_true_eq)
theorem x_if_ge {a off : Int} {tgt : Nat} (hd : decode (mC M) pc = .ok (.ifCond .ge off, 3)) (h0 : 0 ≤ (pc : Int) + off) (ht : tgtOf pc off = tgt) : Ws E d M Q pc L ((0, a) :: S) h = (if a < 0 then Ws E d M Q (pc + 3) L S h else Ws E d M Q tgt L S h) := x_gen hd rfl (by
  show pif (decide (0 ≤ a)) pc off L S h (Ws E d M Q) = _
  rw [x_if (P := 0 ≤ a) h0 ht decide_eq_true_eq]
  exact ite_sw (by omega))
theorem x_if_gt {a off : Int} {tgt : Nat} (hd : decode (mC M) pc = .ok (.ifCond .gt off, 3)) (h0 : 0 ≤ (pc : Int) + off) (ht : tgtOf pc off = tgt) : Ws E d M Q pc L ((0, a) :: S) h = (if 0 < a then Ws E d M Q tgt L S h else Ws E d M Q (pc + 3) L S h) := x_gen hd rfl (x_if h0 ht decide_eq_true_eq)
theorem x_if_le {a off : Int} {tgt : Nat} (hd : decode (mC M) pc = .ok (.ifCond .le off, 3)) (h0 : 0 ≤ (pc : Int) + off) (ht : tgtOf pc off = tgt) : Ws E d M Q pc L ((0, a) :: S) h = (if 0 < a then Ws E d M Q (pc + 3) L S h else Ws E d M Q tgt L S h) := x_gen hd rfl (by
  show pif (decide (a ≤ 0)) pc off L S h (Ws E d M Q) = _
  rw [x_if (P := a ≤ 0) h0 ht decide_eq_true_eq]
  exact ite_sw (by omega))
theorem x_idivL {a b : Int} (hd : decode (mC M) pc = .ok (.idiv, 1)) (hb : b ≠ 0) : Ws E d M Q pc L ((0, b) :: (0, a) :: S) h = Ws E d M Q (pc + 1) L ((0, w32 (a.tdiv b)) :: S) h := x_gen hd rfl (and_tl hb)
theorem x_iremL {a b : Int} (hd : decode (mC M) pc = .ok (.irem, 1)) (hb : b ≠ 0) : Ws E d M Q pc L ((0, b) :: (0, a) :: S) h = Ws E d M Q (pc + 1) L ((0, a.tmod b) :: S) h := x_gen hd rfl (and_tl hb)
theorem x_get {a : Int} {idx ns ci f ty fin : Nat} (hd : decode (mC M) pc = .ok (.getfield idx, 3)) (hf : fldT (mO M) idx = some (ns, ci, f, ty, fin)) (ha : shK a = ci) (ht : ty ≠ 2) : Ws E d M Q pc L ((2, a) :: S) h = Ws E d M Q (pc + 3) L ((ftg ty, h a f) :: S) h := x_gen hd rfl (by
  show exGet E M idx pc L ((2, a) :: S) h (Ws E d M Q) = _
  unfold exGet
  rw [hf]
  show (shK a = ci ∧ Ws E d M Q (pc + 3) L ((if ty = 3 then 0 else ty, if ty = 2 ∧ E a f ≠ -7 then E a f else h a f) :: S) h) = _
  have e : (if ty = 2 ∧ E a f ≠ -7 then E a f else h a f) = h a f := if_neg (fun z => ht z.1)
  rw [and_tl ha, e]
  rfl)
theorem x_getR {a v : Int} {idx ns ci f fin : Nat} (hd : decode (mC M) pc = .ok (.getfield idx, 3)) (hf : fldT (mO M) idx = some (ns, ci, f, 2, fin)) (ha : shK a = ci) (hE : E a f = v) (hv : v ≠ -7) : Ws E d M Q pc L ((2, a) :: S) h = Ws E d M Q (pc + 3) L ((2, v) :: S) h := x_gen hd rfl (by
  show exGet E M idx pc L ((2, a) :: S) h (Ws E d M Q) = _
  unfold exGet
  rw [hf]
  show (shK a = ci ∧ Ws E d M Q (pc + 3) L ((if (2 : Nat) = 3 then 0 else 2, if (2 : Nat) = 2 ∧ E a f ≠ -7 then E a f else h a f) :: S) h) = _
  have e : (if (2 : Nat) = 2 ∧ E a f ≠ -7 then E a f else h a f) = v := by rw [hE]; exact if_pos ⟨rfl, hv⟩
  rw [and_tl ha, e]
  rfl)
/-- a reference that isn't known -/
theorem x_getH {a : Int} {idx ns ci f fin : Nat} (hd : decode (mC M) pc = .ok (.getfield idx, 3)) (hf : fldT (mO M) idx = some (ns, ci, f, 2, fin)) (ha : shK a = ci) (hE : E a f = -7) : Ws E d M Q pc L ((2, a) :: S) h = Ws E d M Q (pc + 3) L ((2, h a f) :: S) h := x_gen hd rfl (by
  show exGet E M idx pc L ((2, a) :: S) h (Ws E d M Q) = _
  unfold exGet
  rw [hf]
  show (shK a = ci ∧ Ws E d M Q (pc + 3) L ((if (2 : Nat) = 3 then 0 else 2, if (2 : Nat) = 2 ∧ E a f ≠ -7 then E a f else h a f) :: S) h) = _
  have e : (if (2 : Nat) = 2 ∧ E a f ≠ -7 then E a f else h a f) = h a f := if_neg (fun z => z.2 hE)
  rw [and_tl ha, e]
  rfl)
theorem x_put {a v : Int} {idx ns ci f ty fin : Nat} (hd : decode (mC M) pc = .ok (.putfield idx, 3)) (hf : fldT (mO M) idx = some (ns, ci, f, ty, fin)) (ha : shK a = ci) (ht : ty ≤ 1) (hE : E a f = -7) (hfin : fin = 0) : Ws E d M Q pc L ((ty, v) :: (2, a) :: S) h = Ws E d M Q (pc + 3) L S (hst h a f v) := x_gen hd rfl (by
  show exPut E M idx pc L ((ty, v) :: (2, a) :: S) h (Ws E d M Q) = _
  unfold exPut
  rw [hf]
  exact and_tl ⟨ha, by rw [if_neg (by omega)], fun z => by omega, hE, Or.inl hfin, fun z => by omega⟩)
theorem x_putZ {a v : Int} {idx ns ci f fin : Nat} (hd : decode (mC M) pc = .ok (.putfield idx, 3)) (hf : fldT (mO M) idx = some (ns, ci, f, 3, fin)) (ha : shK a = ci) (hb : isBit v) (hE : E a f = -7) (hfin : fin = 0) : Ws E d M Q pc L ((0, v) :: (2, a) :: S) h = Ws E d M Q (pc + 3) L S (hst h a f v) := x_gen hd rfl (by
  show exPut E M idx pc L ((0, v) :: (2, a) :: S) h (Ws E d M Q) = _
  unfold exPut
  rw [hf]
  exact and_tl ⟨ha, rfl, fun _ => hb, hE, Or.inl hfin, fun z => absurd z (by decide)⟩)
theorem x_putH {a v : Int} {idx ns ci f fin : Nat} (hd : decode (mC M) pc = .ok (.putfield idx, 3)) (hf : fldT (mO M) idx = some (ns, ci, f, 2, fin)) (ha : shK a = ci) (hE : E a f = -7) (hfin : fin = 0) : Ws E d M Q pc L ((2, v) :: (2, a) :: S) h = (v ≠ -2 ∧ Ws E d M Q (pc + 3) L S (hst h a f v)) := x_gen hd rfl (by
  show exPut E M idx pc L ((2, v) :: (2, a) :: S) h (Ws E d M Q) = _
  unfold exPut
  rw [hf]
  exact propext ⟨fun x => ⟨x.1.2.2.2.2.2 rfl, x.2⟩, fun x => ⟨⟨ha, rfl, fun z => absurd z (by decide), hE, Or.inl hfin, fun _ => x.1⟩, x.2⟩⟩)
theorem x_ld {kd t : Nat} {i : Instr} (hi : ∀ k, ex1 E d M (wpS E d) Q i 1 pc L S h k = exLd E kd t pc L S h k) (hd : decode (mC M) pc = .ok (i, 1)) (hl : lenOK i 1 = true) {S' : List PV} {r j n : Int} (hS : S = (0, j) :: (2, r) :: S') (hk : shK r = kd) (hn : arlen E r = n) : Ws E d M Q pc L S h = ((0 ≤ j ∧ j < n) ∧ Ws E d M Q (pc + 1) L ((t, h r j) :: S') h) := x_gen hd hl (by
  rw [hi]
  subst hS
  unfold exLd rowOK
  subst hn
  exact propext ⟨fun x => ⟨x.1.2, x.2⟩, fun x => ⟨⟨hk, x.1⟩, x.2⟩⟩)
theorem x_iald {r j n : Int} (hd : decode (mC M) pc = .ok (.iaload, 1)) (hk : shK r = 11) (hn : arlen E r = n) : Ws E d M Q pc L ((0, j) :: (2, r) :: S) h = ((0 ≤ j ∧ j < n) ∧ Ws E d M Q (pc + 1) L ((0, h r j) :: S) h) := x_ld (fun _ => rfl) hd rfl rfl hk hn
theorem x_lald {r j n : Int} (hd : decode (mC M) pc = .ok (.laload, 1)) (hk : shK r = 12) (hn : arlen E r = n) : Ws E d M Q pc L ((0, j) :: (2, r) :: S) h = ((0 ≤ j ∧ j < n) ∧ Ws E d M Q (pc + 1) L ((1, h r j) :: S) h) := x_ld (fun _ => rfl) hd rfl rfl hk hn
theorem x_bald {r j n : Int} (hd : decode (mC M) pc = .ok (.baload, 1)) (hk : shK r = 13) (hn : arlen E r = n) : Ws E d M Q pc L ((0, j) :: (2, r) :: S) h = ((0 ≤ j ∧ j < n) ∧ Ws E d M Q (pc + 1) L ((0, h r j) :: S) h) := x_ld (fun _ => rfl) hd rfl rfl hk hn
theorem x_iast {r j v n : Int} (hd : decode (mC M) pc = .ok (.iastore, 1)) (hk : shK r = 11) (h0 : 0 ≤ r) (hn : arlen E r = n) : Ws E d M Q pc L ((0, v) :: (0, j) :: (2, r) :: S) h = ((0 ≤ j ∧ j < n) ∧ Ws E d M Q (pc + 1) L S (hst h r j v)) := x_gen hd rfl (by
  show exSt E 11 0 pc L ((0, v) :: (0, j) :: (2, r) :: S) h (Ws E d M Q) = _
  unfold exSt rowOK
  subst hn
  exact propext ⟨fun x => ⟨x.1.1.2, x.2⟩, fun x => ⟨⟨⟨hk, x.1⟩, rfl, h0, fun z => absurd z (by decide)⟩, x.2⟩⟩)
theorem x_last {r j v n : Int} (hd : decode (mC M) pc = .ok (.lastore, 1)) (hk : shK r = 12) (h0 : 0 ≤ r) (hn : arlen E r = n) : Ws E d M Q pc L ((1, v) :: (0, j) :: (2, r) :: S) h = ((0 ≤ j ∧ j < n) ∧ Ws E d M Q (pc + 1) L S (hst h r j v)) := x_gen hd rfl (by
  show exSt E 12 1 pc L ((1, v) :: (0, j) :: (2, r) :: S) h (Ws E d M Q) = _
  unfold exSt rowOK
  subst hn
  exact propext ⟨fun x => ⟨x.1.1.2, x.2⟩, fun x => ⟨⟨⟨hk, x.1⟩, rfl, h0, fun z => absurd z (by decide)⟩, x.2⟩⟩)
theorem x_bast {r j v n : Int} (hd : decode (mC M) pc = .ok (.bastore, 1)) (hk : shK r = 13) (h0 : 0 ≤ r) (hn : arlen E r = n) : Ws E d M Q pc L ((0, v) :: (0, j) :: (2, r) :: S) h = ((isBit v ∧ 0 ≤ j ∧ j < n) ∧ Ws E d M Q (pc + 1) L S (hst h r j v)) := x_gen hd rfl (by
  show exSt E 13 0 pc L ((0, v) :: (0, j) :: (2, r) :: S) h (Ws E d M Q) = _
  unfold exSt rowOK
  subst hn
  exact propext ⟨fun x => ⟨⟨x.1.2.2.2 rfl, x.1.1.2⟩, x.2⟩, fun x => ⟨⟨⟨hk, x.1.2⟩, rfl, h0, fun _ => x.1.1⟩, x.2⟩⟩)
theorem x_len {r n : Int} (hd : decode (mC M) pc = .ok (.arraylength, 1)) (hk : 11 ≤ shK r ∧ shK r ≤ 13) (hn : arlen E r = n) : Ws E d M Q pc L ((2, r) :: S) h = Ws E d M Q (pc + 1) L ((0, n) :: S) h := x_gen hd rfl (by
  show exLen E pc L ((2, r) :: S) h (Ws E d M Q) = _
  unfold exLen
  subst hn
  exact propext ⟨fun x => x.2.2, fun x => ⟨hk.1, hk.2, x⟩⟩)
theorem x_ireti {v : Int} (hd : decode (mC M) pc = .ok (.ireturn, 1)) (hr : mT M = some .int) : Ws E d M Q pc L [(0, v)] h = Q v h := x_gen hd rfl (and_tl ⟨rfl, by rw [hr]; rfl, fun z => by rw [hr] at z; cases z⟩)
theorem x_iretz {v : Int} (hd : decode (mC M) pc = .ok (.ireturn, 1)) (hr : mT M = some .boolean) (hv : isBit v) : Ws E d M Q pc L [(0, v)] h = Q v h := x_gen hd rfl (and_tl ⟨rfl, by rw [hr]; rfl, fun _ => hv⟩)
theorem x_iretZ {v : Int} (hd : decode (mC M) pc = .ok (.ireturn, 1)) (hr : mT M = some .boolean) : Ws E d M Q pc L [(0, v)] h = (isBit v ∧ Q v h) := x_gen hd rfl (propext ⟨fun x => ⟨x.1.2.2 hr, x.2⟩, fun x => ⟨⟨rfl, by rw [hr]; rfl, fun _ => x.1⟩, x.2⟩⟩)
theorem x_lret {v : Int} (hd : decode (mC M) pc = .ok (.lreturn, 1)) (hr : mT M = some .long) : Ws E d M Q pc L [(1, v)] h = Q v h := x_gen hd rfl (and_tl ⟨rfl, by rw [hr]; rfl, fun z => by rw [hr] at z; cases z⟩)
theorem x_aret {v : Int} {s : String} (hd : decode (mC M) pc = .ok (.areturn, 1)) (hr : mT M = some (.object s)) : Ws E d M Q pc L [(2, v)] h = Q v h := x_gen hd rfl (and_tl ⟨rfl, by rw [hr]; rfl, fun z => by rw [hr] at z; cases z⟩)
theorem x_vret (hd : decode (mC M) pc = .ok (.return_, 1)) (hr : mT M = none) : Ws E d M Q pc L [] h = Q 0 h := x_gen hd rfl (and_tl hr)
theorem exCall_eq {kind idx kd : Nat} {M' : MRec} (hc : calT (mO M) idx = some (kd, M')) (hkd : kd ≤ 5) (k : PKont) : exCall E d M (wpS E d) kind idx pc L S h k = (exArgs E M M' kd kind (S.take (mA M').length).reverse (S.drop (mA M').length) h ∧ wpS E d M' ((S.take (mA M').length).reverse) h (fun r h' => k (pc + 3) L (ppushR (rtg (mT M')) r (S.drop (mA M').length)) h')) := by
  unfold exCall
  rw [hc]
  dsimp only
  rw [if_neg (by omega), if_neg (by omega), if_neg (by omega), if_neg (by omega)]
theorem x_call {i : Instr} {kind idx kd : Nat} {M' : MRec} {As rest : List PV} (hi : ∀ k, ex1 E d M (wpS E d) Q i 3 pc L S h k = exCall E d M (wpS E d) kind idx pc L S h k) (hd : decode (mC M) pc = .ok (i, 3)) (hl : lenOK i 3 = true) (hc : calT (mO M) idx = some (kd, M')) (hkd : kd ≤ 5) (hA : (S.take (mA M').length).reverse = As) (hr : S.drop (mA M').length = rest) (ha : exArgs E M M' kd kind As rest h) : Ws E d M Q pc L S h = wpS E d M' As h (fun r h' => Ws E d M Q (pc + 3) L (ppushR (rtg (mT M')) r rest) h') := x_gen hd hl (by
  rw [hi, exCall_eq hc hkd, hA, hr]
  exact and_tl ha)
/-- a call, its words by their values -/
theorem x_cs {idx kd : Nat} {M' : MRec} {As rest : List PV} (hd : decode (mC M) pc = .ok (.invokestatic idx, 3)) (hc : calT (mO M) idx = some (kd, M')) (hkd : kd ≤ 1) (hA : (S.take (mA M').length).reverse = As) (hr : S.drop (mA M').length = rest) (ht : As.map (fun v => v.1) = mA M') (hw : wgt rest ≤ 8) (hm : mRl M' + mX M' + 19 ≤ mRl M ∧ awd (mA M') ≤ mX M') (hz : mMc M' = 0) (hz2 : mMs M' = 0) : Ws E d M Q pc L S h = wpS E d M' As h (fun r h' => Ws E d M Q (pc + 3) L (ppushR (rtg (mT M')) r rest) h') :=
  x_call (kind := 0) (fun _ => rfl) hd rfl hc (by omega) hA hr ⟨by omega, ht, hw, hm, fun _ => hz2, fun z => absurd hz z, by
    match As with
    | [] => rfl
    | _ :: _ => exact Or.inl rfl⟩
theorem x_cv {idx kd : Nat} {M' : MRec} {As rest : List PV} {r0 : Int} (hd : decode (mC M) pc = .ok (.invokevirtual idx, 3)) (hc : calT (mO M) idx = some (kd, M')) (hkd : kd = 2 ∨ kd = 3) (hA : (S.take (mA M').length).reverse = (2, r0) :: As) (hr : S.drop (mA M').length = rest) (ht : 2 :: As.map (fun v => v.1) = mA M') (hw : wgt rest ≤ 8) (hm : mRl M' + mX M' + 19 ≤ mRl M ∧ awd (mA M') ≤ mX M') (hz : mMc M' = 0) (hz2 : mMs M' = 0) (hk : shK r0 = mO M') : Ws E d M Q pc L S h = wpS E d M' ((2, r0) :: As) h (fun r h' => Ws E d M Q (pc + 3) L (ppushR (rtg (mT M')) r rest) h') :=
  x_call (kind := 2) (fun _ => rfl) hd rfl hc (by omega) hA hr ⟨by omega, ht, hw, hm, fun _ => hz2, fun z => absurd hz z, Or.inr hk⟩
theorem x_max {a b : Int} {idx : Nat} {M' : MRec} {e : Nat} (hd : decode (mC M) pc = .ok (.invokestatic idx, 3)) (hc : calT (mO M) idx = some (9, M')) (hw : wgt S + 13 ≤ mRl M) (he : d = e + 1) : Ws E d M Q pc L ((0, b) :: (0, a) :: S) h = Ws E d M Q (pc + 3) L ((0, if a < b then b else a) :: S) h := x_gen hd rfl (by
  show exCall E d M (wpS E d) 0 idx pc L ((0, b) :: (0, a) :: S) h (Ws E d M Q) = _
  unfold exCall
  rw [hc]
  exact and_tl ⟨rfl, hw, by omega⟩)
theorem x_min {a b : Int} {idx : Nat} {M' : MRec} {e : Nat} (hd : decode (mC M) pc = .ok (.invokestatic idx, 3)) (hc : calT (mO M) idx = some (10, M')) (hw : wgt S + 13 ≤ mRl M) (he : d = e + 1) : Ws E d M Q pc L ((0, b) :: (0, a) :: S) h = Ws E d M Q (pc + 3) L ((0, if b < a then b else a) :: S) h := x_gen hd rfl (by
  show exCall E d M (wpS E d) 0 idx pc L ((0, b) :: (0, a) :: S) h (Ws E d M Q) = _
  unfold exCall
  rw [hc]
  exact and_tl ⟨rfl, hw, by omega⟩)
theorem x_copy {a a0 n dp sp : Int} {idx : Nat} {M' : MRec} {e : Nat} (hd : decode (mC M) pc = .ok (.invokestatic idx, 3)) (hc : calT (mO M) idx = some (8, M')) (hw : wgt S + 18 ≤ mRl M) (he : d = e + 1) (hk : shK a = 11 ∧ shK a0 = 11 ∧ 0 ≤ a ∧ 0 ≤ a0) {n0 n1 : Int} (hn0 : shN a0 = n0) (hn1 : shN a = n1) : Ws E d M Q pc L ((0, n) :: (0, dp) :: (2, a) :: (0, sp) :: (2, a0) :: S) h = ((0 ≤ n ∧ 0 ≤ sp ∧ 0 ≤ dp ∧ sp + n ≤ n0 ∧ dp + n ≤ n1) ∧ Ws E d M Q (pc + 3) L S (hcpy h a0 sp a dp n)) := x_gen hd rfl (by
  show exCall E d M (wpS E d) 0 idx pc L ((0, n) :: (0, dp) :: (2, a) :: (0, sp) :: (2, a0) :: S) h (Ws E d M Q) = _
  unfold exCall
  rw [hc]
  subst hn0
  subst hn1
  exact propext ⟨fun x => ⟨x.1.2.2, x.2⟩, fun x => ⟨⟨⟨rfl, hw, by omega⟩, hk, x.1⟩, x.2⟩⟩)
theorem x_tab {df lo hi : Int} {offs : Array Int} {len : Nat} {x : Int} (hd : decode (mC M) pc = .ok (.tableswitch df lo hi offs, len)) : Ws E d M Q pc L ((0, x) :: S) h = (match swTab df lo hi offs x with | some off => 0 ≤ (pc : Int) + off ∧ Ws E d M Q (tgtOf pc off) L S h | none => False) := x_gen hd rfl rfl
theorem x_look {df : Int} {prs : Array (Int × Int)} {len : Nat} {x : Int} (hd : decode (mC M) pc = .ok (.lookupswitch df prs, len)) (ha : ascP prs.toList = true) : Ws E d M Q pc L ((0, x) :: S) h = (0 ≤ (pc : Int) + swLook prs.toList df x ∧ Ws E d M Q (tgtOf pc (swLook prs.toList df x)) L S h) := x_gen hd rfl (and_tl ha)
theorem wpS_in {As : List PV} {d : Nat} : wpS E (d + 1) M As h Q = Ws E d M Q 0 (initL (mX M) As) [] h := rfl
theorem x_iconst {k v : Int} (hd : decode (mC M) pc = .ok (.iconst k, 1)) (hv : w32 k = v) : Ws E d M Q pc L S h = Ws E d M Q (pc + 1) L ((0, v) :: S) h := x_gen hd rfl (by
  subst hv
  rfl)
theorem x_bipush {k v : Int} (hd : decode (mC M) pc = .ok (.bipush k, 2)) (hv : w8 k = v) : Ws E d M Q pc L S h = Ws E d M Q (pc + 2) L ((0, v) :: S) h := x_gen hd rfl (by
  subst hv
  rfl)
theorem x_sipush {k v : Int} (hd : decode (mC M) pc = .ok (.sipush k, 3)) (hv : (k + 32768) % 65536 - 32768 = v) : Ws E d M Q pc L S h = Ws E d M Q (pc + 3) L ((0, v) :: S) h := x_gen hd rfl (by
  subst hv
  rfl)
theorem x_lconst {k : Fin 2} {v : Int} (hd : decode (mC M) pc = .ok (.lconst k, 1)) (hv : (k.val : Int) = v) : Ws E d M Q pc L S h = Ws E d M Q (pc + 1) L ((1, v) :: S) h := x_gen hd rfl (by
  subst hv
  rfl)
theorem x_ldc {k : Nat} {v : Int} (hd : decode (mC M) pc = .ok (.ldc k, 2)) (hv : ldcT (mO M) k = some v) : Ws E d M Q pc L S h = Ws E d M Q (pc + 2) L ((0, v) :: S) h := x_gen hd rfl (by
  show (match (match ldcT (mO M) k with | some v => ppush L S (0, v) | none => none) with | some q => Ws E d M Q (pc + 2) q.1 q.2 h | none => False) = _
  rw [hv]
  rfl)
theorem x_ldc2 {k : Nat} {v : Int} (hd : decode (mC M) pc = .ok (.ldc2_w k, 3)) (hv : ldc2T (mO M) k = some v) : Ws E d M Q pc L S h = Ws E d M Q (pc + 3) L ((1, v) :: S) h := x_gen hd rfl (by
  show (match (match ldc2T (mO M) k with | some v => ppush L S (1, v) | none => none) with | some q => Ws E d M Q (pc + 3) q.1 q.2 h | none => False) = _
  rw [hv]
  rfl)
theorem x_iload {k : Nat} {v : Int} (hd : decode (mC M) pc = .ok (.iload k, 2)) (hv : pld L k 0 = some v) : Ws E d M Q pc L S h = Ws E d M Q (pc + 2) L ((0, v) :: S) h := x_gen hd rfl (by
  show (match pldS L S k 0 with | some q => Ws E d M Q (pc + 2) q.1 q.2 h | none => False) = _
  unfold pldS
  rw [hv])
theorem x_iload_n {k : Fin 4} {v : Int} (hd : decode (mC M) pc = .ok (.iload_n k, 1)) (hv : pld L k.val 0 = some v) : Ws E d M Q pc L S h = Ws E d M Q (pc + 1) L ((0, v) :: S) h := x_gen hd rfl (by
  show (match pldS L S k.val 0 with | some q => Ws E d M Q (pc + 1) q.1 q.2 h | none => False) = _
  unfold pldS
  rw [hv])
theorem x_lload {k : Nat} {v : Int} (hd : decode (mC M) pc = .ok (.lload k, 2)) (hv : pld L k 1 = some v) : Ws E d M Q pc L S h = Ws E d M Q (pc + 2) L ((1, v) :: S) h := x_gen hd rfl (by
  show (match pldS L S k 1 with | some q => Ws E d M Q (pc + 2) q.1 q.2 h | none => False) = _
  unfold pldS
  rw [hv])
theorem x_lload_n {k : Fin 4} {v : Int} (hd : decode (mC M) pc = .ok (.lload_n k, 1)) (hv : pld L k.val 1 = some v) : Ws E d M Q pc L S h = Ws E d M Q (pc + 1) L ((1, v) :: S) h := x_gen hd rfl (by
  show (match pldS L S k.val 1 with | some q => Ws E d M Q (pc + 1) q.1 q.2 h | none => False) = _
  unfold pldS
  rw [hv])
theorem x_aload {k : Nat} {v : Int} (hd : decode (mC M) pc = .ok (.aload k, 2)) (hv : pld L k 2 = some v) : Ws E d M Q pc L S h = Ws E d M Q (pc + 2) L ((2, v) :: S) h := x_gen hd rfl (by
  show (match pldS L S k 2 with | some q => Ws E d M Q (pc + 2) q.1 q.2 h | none => False) = _
  unfold pldS
  rw [hv])
theorem x_aload_n {k : Fin 4} {v : Int} (hd : decode (mC M) pc = .ok (.aload_n k, 1)) (hv : pld L k.val 2 = some v) : Ws E d M Q pc L S h = Ws E d M Q (pc + 1) L ((2, v) :: S) h := x_gen hd rfl (by
  show (match pldS L S k.val 2 with | some q => Ws E d M Q (pc + 1) q.1 q.2 h | none => False) = _
  unfold pldS
  rw [hv])
theorem x_istore {k : Nat} {v : Int} {L' : List PV} (hd : decode (mC M) pc = .ok (.istore k, 2)) (hv : pst1 L k (0, v) = some L') : Ws E d M Q pc L ((0, v) :: S) h = Ws E d M Q (pc + 2) L' S h := x_gen hd rfl (by
  show (match pstI 0 L ((0, v) :: S) k with | some q => Ws E d M Q (pc + 2) q.1 q.2 h | none => False) = _
  unfold pstI
  dsimp only
  rw [if_pos rfl, hv])
theorem x_istore_n {k : Fin 4} {v : Int} {L' : List PV} (hd : decode (mC M) pc = .ok (.istore_n k, 1)) (hv : pst1 L k.val (0, v) = some L') : Ws E d M Q pc L ((0, v) :: S) h = Ws E d M Q (pc + 1) L' S h := x_gen hd rfl (by
  show (match pstI 0 L ((0, v) :: S) k.val with | some q => Ws E d M Q (pc + 1) q.1 q.2 h | none => False) = _
  unfold pstI
  dsimp only
  rw [if_pos rfl, hv])
theorem x_astore {k : Nat} {v : Int} {L' : List PV} (hd : decode (mC M) pc = .ok (.astore k, 2)) (hv : pst1 L k (2, v) = some L') : Ws E d M Q pc L ((2, v) :: S) h = Ws E d M Q (pc + 2) L' S h := x_gen hd rfl (by
  show (match pstI 2 L ((2, v) :: S) k with | some q => Ws E d M Q (pc + 2) q.1 q.2 h | none => False) = _
  unfold pstI
  dsimp only
  rw [if_pos rfl, hv])
theorem x_astore_n {k : Fin 4} {v : Int} {L' : List PV} (hd : decode (mC M) pc = .ok (.astore_n k, 1)) (hv : pst1 L k.val (2, v) = some L') : Ws E d M Q pc L ((2, v) :: S) h = Ws E d M Q (pc + 1) L' S h := x_gen hd rfl (by
  show (match pstI 2 L ((2, v) :: S) k.val with | some q => Ws E d M Q (pc + 1) q.1 q.2 h | none => False) = _
  unfold pstI
  dsimp only
  rw [if_pos rfl, hv])
theorem x_lstore {k : Nat} {v : Int} {L' : List PV} (hd : decode (mC M) pc = .ok (.lstore k, 2)) (hv : pst2 L k (1, v) = some L') : Ws E d M Q pc L ((1, v) :: S) h = Ws E d M Q (pc + 2) L' S h := x_gen hd rfl (by
  show (match pstL L ((1, v) :: S) k with | some q => Ws E d M Q (pc + 2) q.1 q.2 h | none => False) = _
  have e : pstL L ((1, v) :: S) k = some (L', S) := by
    show (match pst2 L k (1, v) with | some L' => some (L', S) | none => none) = _
    rw [hv]
  rw [e])
theorem x_lstore_n {k : Fin 4} {v : Int} {L' : List PV} (hd : decode (mC M) pc = .ok (.lstore_n k, 1)) (hv : pst2 L k.val (1, v) = some L') : Ws E d M Q pc L ((1, v) :: S) h = Ws E d M Q (pc + 1) L' S h := x_gen hd rfl (by
  show (match pstL L ((1, v) :: S) k.val with | some q => Ws E d M Q (pc + 1) q.1 q.2 h | none => False) = _
  have e : pstL L ((1, v) :: S) k.val = some (L', S) := by
    show (match pst2 L k.val (1, v) with | some L' => some (L', S) | none => none) = _
    rw [hv]
  rw [e])
theorem x_iinc {k : Nat} {j v : Int} {L' : List PV} (hd : decode (mC M) pc = .ok (.iinc k j, 3)) (hv : pld L k 0 = some v) (hp : pst1 L k (0, w32 (v + j)) = some L') : Ws E d M Q pc L S h = Ws E d M Q (pc + 3) L' S h := x_gen hd rfl (by
  show (match (match pld L k 0 with | some v => (match pst1 L k (0, w32 (v + j)) with | some L' => some (L', S) | none => none) | none => none) with | some q => Ws E d M Q (pc + 3) q.1 q.2 h | none => False) = _
  rw [hv]
  dsimp only
  rw [hp])
theorem x_iadd {a b : Int} (hd : decode (mC M) pc = .ok (.iadd, 1)) : Ws E d M Q pc L ((0, b) :: (0, a) :: S) h = Ws E d M Q (pc + 1) L ((0, w32 (a + b)) :: S) h := x_gen hd rfl (by
  rfl)
theorem x_isub {a b : Int} (hd : decode (mC M) pc = .ok (.isub, 1)) : Ws E d M Q pc L ((0, b) :: (0, a) :: S) h = Ws E d M Q (pc + 1) L ((0, w32 (a - b)) :: S) h := x_gen hd rfl (by
  rfl)
theorem x_imul {a b : Int} (hd : decode (mC M) pc = .ok (.imul, 1)) : Ws E d M Q pc L ((0, b) :: (0, a) :: S) h = Ws E d M Q (pc + 1) L ((0, w32 (a * b)) :: S) h := x_gen hd rfl (by
  rfl)
theorem x_iand {a b : Int} (hd : decode (mC M) pc = .ok (.iand, 1)) : Ws E d M Q pc L ((0, b) :: (0, a) :: S) h = Ws E d M Q (pc + 1) L ((0, i32op (fun x y => x &&& y) a b) :: S) h := x_gen hd rfl (by
  rfl)
theorem x_ior {a b : Int} (hd : decode (mC M) pc = .ok (.ior, 1)) : Ws E d M Q pc L ((0, b) :: (0, a) :: S) h = Ws E d M Q (pc + 1) L ((0, i32op (fun x y => x ||| y) a b) :: S) h := x_gen hd rfl (by
  rfl)
theorem x_ixor {a b : Int} (hd : decode (mC M) pc = .ok (.ixor, 1)) : Ws E d M Q pc L ((0, b) :: (0, a) :: S) h = Ws E d M Q (pc + 1) L ((0, i32op (fun x y => x ^^^ y) a b) :: S) h := x_gen hd rfl (by
  rfl)
theorem x_ishl {a b : Int} (hd : decode (mC M) pc = .ok (.ishl, 1)) : Ws E d M Q pc L ((0, b) :: (0, a) :: S) h = Ws E d M Q (pc + 1) L ((0, i32op (fun x y => x <<< (y &&& 31)) a b) :: S) h := x_gen hd rfl (by
  rfl)
theorem x_ishr {a b : Int} (hd : decode (mC M) pc = .ok (.ishr, 1)) : Ws E d M Q pc L ((0, b) :: (0, a) :: S) h = Ws E d M Q (pc + 1) L ((0, i32op (fun x y => x >>> (y &&& 31)) a b) :: S) h := x_gen hd rfl (by
  rfl)
theorem x_ladd {a b : Int} (hd : decode (mC M) pc = .ok (.ladd, 1)) : Ws E d M Q pc L ((1, b) :: (1, a) :: S) h = Ws E d M Q (pc + 1) L ((1, w64 (a + b)) :: S) h := x_gen hd rfl (by
  rfl)
theorem x_lsub {a b : Int} (hd : decode (mC M) pc = .ok (.lsub, 1)) : Ws E d M Q pc L ((1, b) :: (1, a) :: S) h = Ws E d M Q (pc + 1) L ((1, w64 (a - b)) :: S) h := x_gen hd rfl (by
  rfl)
theorem x_lmul {a b : Int} (hd : decode (mC M) pc = .ok (.lmul, 1)) : Ws E d M Q pc L ((1, b) :: (1, a) :: S) h = Ws E d M Q (pc + 1) L ((1, w64 (a * b)) :: S) h := x_gen hd rfl (by
  rfl)
theorem x_lcmp {a b : Int} (hd : decode (mC M) pc = .ok (.lcmp, 1)) : Ws E d M Q pc L ((1, b) :: (1, a) :: S) h = Ws E d M Q (pc + 1) L ((0, lcmpI a b) :: S) h := x_gen hd rfl (by
  rfl)
theorem x_i2l {a : Int} (hd : decode (mC M) pc = .ok (.i2l, 1)) : Ws E d M Q pc L ((0, a) :: S) h = Ws E d M Q (pc + 1) L ((1, a) :: S) h := x_gen hd rfl (by
  rfl)
theorem x_l2i {a : Int} (hd : decode (mC M) pc = .ok (.l2i, 1)) : Ws E d M Q pc L ((1, a) :: S) h = Ws E d M Q (pc + 1) L ((0, w32 a) :: S) h := x_gen hd rfl (by
  rfl)
theorem x_i2b {a : Int} (hd : decode (mC M) pc = .ok (.i2b, 1)) : Ws E d M Q pc L ((0, a) :: S) h = Ws E d M Q (pc + 1) L ((0, w8 a) :: S) h := x_gen hd rfl (by
  rfl)
theorem x_dup {t : Nat} {a : Int} (hd : decode (mC M) pc = .ok (.dup, 1)) (ht : t = 0 ∨ t = 2) : Ws E d M Q pc L ((t, a) :: S) h = Ws E d M Q (pc + 1) L ((t, a) :: (t, a) :: S) h := x_gen hd rfl (by
  show (match pdup L ((t, a) :: S) with | some q => Ws E d M Q (pc + 1) q.1 q.2 h | none => False) = _
  unfold pdup
  dsimp only
  rw [if_pos ht])
theorem x_dup2 {t u : Nat} {a b : Int} (hd : decode (mC M) pc = .ok (.dup2, 1)) (ht : (t = 0 ∨ t = 2) ∧ (u = 0 ∨ u = 2)) : Ws E d M Q pc L ((t, a) :: (u, b) :: S) h = Ws E d M Q (pc + 1) L ((t, a) :: (u, b) :: (t, a) :: (u, b) :: S) h := x_gen hd rfl (by
  show (match pdup2 L ((t, a) :: (u, b) :: S) with | some q => Ws E d M Q (pc + 1) q.1 q.2 h | none => False) = _
  unfold pdup2
  dsimp only
  rw [if_pos ht])
theorem x_pop {t : Nat} {a : Int} (hd : decode (mC M) pc = .ok (.pop, 1)) (ht : t = 0 ∨ t = 2) : Ws E d M Q pc L ((t, a) :: S) h = Ws E d M Q (pc + 1) L S h := x_gen hd rfl (by
  show (match pdrop L ((t, a) :: S) with | some q => Ws E d M Q (pc + 1) q.1 q.2 h | none => False) = _
  unfold pdrop
  dsimp only
  rw [if_pos ht])
theorem x_idiv {a b : Int} (hd : decode (mC M) pc = .ok (.idiv, 1)) : Ws E d M Q pc L ((0, b) :: (0, a) :: S) h = (b ≠ 0 ∧ Ws E d M Q (pc + 1) L ((0, w32 (a.tdiv b)) :: S) h) := x_gen hd rfl rfl
theorem x_idivN {a b : Int} (hd : decode (mC M) pc = .ok (.idiv, 1)) (hb : b ≠ 0) : Ws E d M Q pc L ((0, b) :: (0, a) :: S) h = Ws E d M Q (pc + 1) L ((0, w32 (a.tdiv b)) :: S) h := x_gen hd rfl (and_tl hb)
theorem x_irem {a b : Int} (hd : decode (mC M) pc = .ok (.irem, 1)) : Ws E d M Q pc L ((0, b) :: (0, a) :: S) h = (b ≠ 0 ∧ Ws E d M Q (pc + 1) L ((0, a.tmod b) :: S) h) := x_gen hd rfl rfl
theorem x_iremN {a b : Int} (hd : decode (mC M) pc = .ok (.irem, 1)) (hb : b ≠ 0) : Ws E d M Q pc L ((0, b) :: (0, a) :: S) h = Ws E d M Q (pc + 1) L ((0, a.tmod b) :: S) h := x_gen hd rfl (and_tl hb)
theorem x_ldiv {a b : Int} (hd : decode (mC M) pc = .ok (.ldiv, 1)) : Ws E d M Q pc L ((1, b) :: (1, a) :: S) h = (b ≠ 0 ∧ Ws E d M Q (pc + 1) L ((1, w64 (a.tdiv b)) :: S) h) := x_gen hd rfl rfl
theorem x_ldivN {a b : Int} (hd : decode (mC M) pc = .ok (.ldiv, 1)) (hb : b ≠ 0) : Ws E d M Q pc L ((1, b) :: (1, a) :: S) h = Ws E d M Q (pc + 1) L ((1, w64 (a.tdiv b)) :: S) h := x_gen hd rfl (and_tl hb)
theorem x_lrem {a b : Int} (hd : decode (mC M) pc = .ok (.lrem, 1)) : Ws E d M Q pc L ((1, b) :: (1, a) :: S) h = (b ≠ 0 ∧ Ws E d M Q (pc + 1) L ((1, a.tmod b) :: S) h) := x_gen hd rfl rfl
theorem x_lremN {a b : Int} (hd : decode (mC M) pc = .ok (.lrem, 1)) (hb : b ≠ 0) : Ws E d M Q pc L ((1, b) :: (1, a) :: S) h = Ws E d M Q (pc + 1) L ((1, a.tmod b) :: S) h := x_gen hd rfl (and_tl hb)
theorem and_c {c A B : Prop} (h : A = B) : (c ∧ A) = (c ∧ B) := congrArg (And c) h
theorem ite_c {P : Prop} [Decidable P] {A A' B B' : Prop} (h1 : A = A') (h2 : B = B') : (if P then A else B) = (if P then A' else B') := by rw [h1, h2]
theorem call_c {M' : MRec} {As : List PV} {F G : Int → Hp → Prop} (hh : ∀ r h', F r h' = G r h') : wpS E d M' As h F = wpS E d M' As h G := congrArg _ (funext fun r => funext fun h' => hh r h')
end EQS
