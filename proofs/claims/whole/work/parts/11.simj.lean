/-! stores, with the heap's size -/
section STORES
variable {p : Program} {l : Launch} {e : Env} {R : Room} {s : State} {m : MethodId} {args : Array Value} {below : List Frame} {meth : Method} {c : Code} {H : Heap} {locs : List Loc} {cells slots : Nat} {Q : State → Prop} {cc : ByteArray} {pc : Nat} {ls : Array Slot} {rest : List Value} {D : va_G} {cl : List vw_C} {A : Nat → Prop} {a : Nat} {tys : List (ClassId × FieldType)} {ws : va_W} {H0 : Heap}
theorem ws_iast (hexec : p.tables.exec = Jvm.exec) (hb : c.code = cc) (hK : va_K D cl tys s) (hP : va_P D cl ws H) (hD : va_D A ws) (hS : va_S A H0 H locs) (q0 t0 : Nat) {cA : ClassId} {n : Nat} {f : Nat → Int32} (ha : ws[q0]? = some (a, .inl (cA, n, .inl f))) (ht : tys[t0]? = some (cA, .int)) {i : Int32} {x : Int32} (hin : vp_in i n) (hdg : decode cc pc = .ok (.iastore, 1))
    (kk : ∀ (H1 : Heap) (locs1 : List Loc), va_P D cl (ws.set q0 (a, .inl (cA, n, .inl (upd f i.toNatClampNeg x)))) H1 → H1.size = H.size → va_S A H0 H1 locs1 → W p l e R s m args below meth c H1 locs1 cells slots Q (F0 m (pc + 1) ls rest)) : W p l e R s m args below meth c H locs cells slots Q (F0 m pc ls (.int x :: .int i :: .ref a :: rest)) := by
  refine W.iast hexec hb (hP q0 _ ha) ((hK.2 t0 _ ht).1 n (fun j => .int (f j))) (fun q => by cases q) (by show ¬ (i < 0 ∨ (arrV _ _ _).slots.size ≤ _); rw [arrV_size]; exact hin) rfl rfl hdg fun H1 e1 z oq => ?_
  refine kk H1 _ (hP.set hD ha ?_ oq) z (hS.put z oq (hD.2 q0 _ ha))
  show H1[a]? = some (vp_cell _ _)
  rw [e1]
  rw [vp_cell_i, vp_cell_i, arrV_store]
  congr 2
  funext q
  by_cases hq : q = i.toNatClampNeg
  · subst hq
    simp [updV, upd]
    try rfl
  · simp [updV, upd, hq]
theorem ws_last (hexec : p.tables.exec = Jvm.exec) (hb : c.code = cc) (hK : va_K D cl tys s) (hP : va_P D cl ws H) (hD : va_D A ws) (hS : va_S A H0 H locs) (q0 t0 : Nat) {cA : ClassId} {n : Nat} {f : Nat → Int64} (ha : ws[q0]? = some (a, .inl (cA, n, .inr (.inl f)))) (ht : tys[t0]? = some (cA, .long)) {i : Int32} {x : Int64} (hin : vp_in i n) (hdg : decode cc pc = .ok (.lastore, 1))
    (kk : ∀ (H1 : Heap) (locs1 : List Loc), va_P D cl (ws.set q0 (a, .inl (cA, n, .inr (.inl (vp_updL f i.toNatClampNeg x))))) H1 → H1.size = H.size → va_S A H0 H1 locs1 → W p l e R s m args below meth c H1 locs1 cells slots Q (F0 m (pc + 1) ls rest)) : W p l e R s m args below meth c H locs cells slots Q (F0 m pc ls (.long x :: .int i :: .ref a :: rest)) := by
  refine W.last hexec hb (hP q0 _ ha) ((hK.2 t0 _ ht).1 n (fun j => .long (f j))) (fun q => by cases q) (by show ¬ (i < 0 ∨ (arrV _ _ _).slots.size ≤ _); rw [arrV_size]; exact hin) rfl rfl hdg fun H1 e1 z oq => ?_
  refine kk H1 _ (hP.set hD ha ?_ oq) z (hS.put z oq (hD.2 q0 _ ha))
  show H1[a]? = some (vp_cell _ _)
  rw [e1]
  rw [vp_cell_l, vp_cell_l, arrV_store]
  congr 2
  funext q
  by_cases hq : q = i.toNatClampNeg
  · subst hq
    simp [updV, vp_updL]
    try rfl
  · simp [updV, vp_updL, hq]
theorem ws_zast (hexec : p.tables.exec = Jvm.exec) (hb : c.code = cc) (hK : va_K D cl tys s) (hP : va_P D cl ws H) (hD : va_D A ws) (hS : va_S A H0 H locs) (q0 t0 : Nat) {cA : ClassId} {n : Nat} {f : Nat → Int32} (ha : ws[q0]? = some (a, .inl (cA, n, .inl f))) (ht : tys[t0]? = some (cA, .boolean)) {i : Int32} {x : Int32} (hin : vp_in i n) (hdg : decode cc pc = .ok (.bastore, 1))
    (kk : ∀ (H1 : Heap) (locs1 : List Loc), va_P D cl (ws.set q0 (a, .inl (cA, n, .inl (upd f i.toNatClampNeg (vp_nar .boolean x))))) H1 → H1.size = H.size → va_S A H0 H1 locs1 → W p l e R s m args below meth c H1 locs1 cells slots Q (F0 m (pc + 1) ls rest)) : W p l e R s m args below meth c H locs cells slots Q (F0 m pc ls (.int x :: .int i :: .ref a :: rest)) := by
  refine W.zast hexec hb (hP q0 _ ha) ((hK.2 t0 _ ht).1 n (fun j => .int (f j))) (fun q => by cases q) (by show ¬ (i < 0 ∨ (arrV _ _ _).slots.size ≤ _); rw [arrV_size]; exact hin) rfl rfl hdg fun H1 e1 z oq => ?_
  refine kk H1 _ (hP.set hD ha ?_ oq) z (hS.put z oq (hD.2 q0 _ ha))
  show H1[a]? = some (vp_cell _ _)
  rw [e1]
  rw [vp_cell_i, vp_cell_i, arrV_store]
  congr 2
  funext q
  by_cases hq : q = i.toNatClampNeg
  · subst hq
    simp [updV, upd, vp_nar]
    try rfl
  · simp [updV, upd, vp_nar, hq]
theorem ws_put (hexec : p.tables.exec = Jvm.exec) (hb : c.code = cc) {own ref C : String} {T : u_T} {N ci index : Nat} {Ts : List Cond} (hts : ∀ w ∈ Ts, w.before args s = true) (hin : ∀ w ∈ u_ws C T N, w ∈ Ts) (ty0 : Nat → FieldType) (hty : ∀ k, k < N → parseFieldDescriptor (T k).2.2.1 = some (ty0 k)) (hnm : ∀ a, a < N → ∀ b, b < N → a ≠ b → (T a).2.1 ≠ (T b).2.1) (hown : s.vm.findClass own = some m.cls) (hK : va_K D cl tys s) (hP : va_P D cl ws H) (hD : va_D A ws) (hS0 : va_S A H0 H locs) (q0 : Nat) {fs : List Value} (he : ws[q0]? = some (a, .inr (ci, fs))) (hc : cl[ci]? = some (C, T, N)) (k : Nat) (hk : k < N) (hlink : (Cond.fieldLink own index ref (T k).2.1 (T k).2.2.1).before args s = true) (hsame : ∀ x, s.fieldFound? (T k).1 (T k).2.1 (T k).2.2.1 = some x → s.fieldFound? ref (T k).2.1 (T k).2.2.1 = some x) (hfin : (T k).2.2.2 = false) {ty : FieldType} {v : Value} (hd : parseFieldDescriptor (T k).2.2.1 = some ty) (hn : narrow ty v = v) (hfit : fits ty v = true) (hl : k < fs.length)
    (hdg : decode cc pc = .ok (.putfield index, 3)) (kk : ∀ (H1 : Heap) (locs1 : List Loc), va_P D cl (ws.set q0 (a, .inr (ci, fs.set k v))) H1 → H1.size = H.size → va_S A H0 H1 locs1 → W p l e R s m args below meth c H1 locs1 cells slots Q (F0 m (pc + 3) ls rest)) : W p l e R s m args below meth c H locs cells slots Q (F0 m pc ls (v :: .ref a :: rest)) := by
  have hap := va_apart (own := own) hts hin ty0 hty hnm hK hc
  obtain ⟨r, h1, cell, q1, q2, q3, q4⟩ := hP q0 _ he
  have hr : r = (C, T, N) := Option.some.inj (h1.symm.trans hc)
  subst hr
  obtain ⟨hS, hfc, kC, hkC, hkind⟩ := hK.1 ci _ hc
  obtain ⟨cf, kf, fi, f, hi, hsl⟩ := hS k hk
  have hlay := hts _ (hin _ (u_in_lay hk))
  unfold u_lay at hlay
  rw [if_neg (by rw [hfin]; decide)] at hlay
  have hst := (u_facts hfc hkC (u_lays hts hin hk) hi).1
  have h6 := u_store hfc hkC hkind hlay hi hd hn hfit
  refine W.putK hexec hb (f := f) ⟨hown, hlink, ⟨_, _, _, hsame _ hi⟩, hst⟩ (by rw [q2]; exact h6) q1 q3 (by rw [hsl]; exact k2_hasslot (q4 k hk)) rfl rfl hdg fun H' e1 e2 e3 => ?_
  rw [hsl] at e1 ⊢
  exact kk H' _ (hP.set hD he ⟨_, hc, t_OB.to (V := updV (vp_V fs) k v) ⟨_, e1, q2, q3, t_set q4 hap hk v⟩ (fun j _ => vp_updV_set hl v j)⟩ e3) e2 (hS0.put e2 e3 (hD.2 q0 _ he))
theorem ws_putN (hexec : p.tables.exec = Jvm.exec) (hb : c.code = cc) {own ref C host : String} {T : u_T} {N ci index : Nat} {Ts : List Cond} (hts : ∀ w ∈ Ts, w.before args s = true) (hin : ∀ w ∈ u_ws C T N, w ∈ Ts) (ty0 : Nat → FieldType) (hty : ∀ k, k < N → parseFieldDescriptor (T k).2.2.1 = some (ty0 k)) (hnm : ∀ a, a < N → ∀ b, b < N → a ≠ b → (T a).2.1 ≠ (T b).2.1) (hown : s.vm.findClass own = some m.cls) (hK : va_K D cl tys s) (hP : va_P D cl ws H) (hD : va_D A ws) (hS0 : va_S A H0 H locs) (q0 : Nat) {fs : List Value} (he : ws[q0]? = some (a, .inr (ci, fs))) (hc : cl[ci]? = some (C, T, N)) (k : Nat) (hk : k < N) (hlink : (Cond.fieldLinkNest own index ref (T k).2.1 (T k).2.2.1 host).before args s = true) (hsame : ∀ x, s.fieldFound? (T k).1 (T k).2.1 (T k).2.2.1 = some x → s.fieldFound? ref (T k).2.1 (T k).2.2.1 = some x) (hfin : (T k).2.2.2 = false) {ty : FieldType} {v : Value} (hd : parseFieldDescriptor (T k).2.2.1 = some ty) (hn : narrow ty v = v) (hfit : fits ty v = true) (hl : k < fs.length)
    (hdg : decode cc pc = .ok (.putfield index, 3)) (kk : ∀ (H1 : Heap) (locs1 : List Loc), va_P D cl (ws.set q0 (a, .inr (ci, fs.set k v))) H1 → H1.size = H.size → va_S A H0 H1 locs1 → W p l e R s m args below meth c H1 locs1 cells slots Q (F0 m (pc + 3) ls rest)) : W p l e R s m args below meth c H locs cells slots Q (F0 m pc ls (v :: .ref a :: rest)) := by
  have hap := va_apart (own := own) hts hin ty0 hty hnm hK hc
  obtain ⟨r, h1, cell, q1, q2, q3, q4⟩ := hP q0 _ he
  have hr : r = (C, T, N) := Option.some.inj (h1.symm.trans hc)
  subst hr
  obtain ⟨hS, hfc, kC, hkC, hkind⟩ := hK.1 ci _ hc
  obtain ⟨cf, kf, fi, f, hi, hsl⟩ := hS k hk
  have hlay := hts _ (hin _ (u_in_lay hk))
  unfold u_lay at hlay
  rw [if_neg (by rw [hfin]; decide)] at hlay
  have hst := (u_facts hfc hkC (u_lays hts hin hk) hi).1
  have h6 := u_store hfc hkC hkind hlay hi hd hn hfit
  refine va_WputK hexec hb (f := f) hown hlink (hsame _ hi) hst (by rw [q2]; exact h6) q1 q3 (by rw [hsl]; exact k2_hasslot (q4 k hk)) rfl rfl hdg fun H' e1 e2 e3 => ?_
  rw [hsl] at e1 ⊢
  exact kk H' _ (hP.set hD he ⟨_, hc, t_OB.to (V := updV (vp_V fs) k v) ⟨_, e1, q2, q3, t_set q4 hap hk v⟩ (fun j _ => vp_updV_set hl v j)⟩ e3) e2 (hS0.put e2 e3 (hD.2 q0 _ he))
theorem ws_putF (hexec : p.tables.exec = Jvm.exec) (hb : c.code = cc) {own ref C : String} {T : u_T} {N ci index : Nat} {Ts : List Cond} (hts : ∀ w ∈ Ts, w.before args s = true) (hin : ∀ w ∈ u_ws C T N, w ∈ Ts) (ty0 : Nat → FieldType) (hty : ∀ k, k < N → parseFieldDescriptor (T k).2.2.1 = some (ty0 k)) (hnm : ∀ a, a < N → ∀ b, b < N → a ≠ b → (T a).2.1 ≠ (T b).2.1) (hown : s.vm.findClass own = some m.cls) (hK : va_K D cl tys s) (hP : va_P D cl ws H) (hD : va_D A ws) (hS0 : va_S A H0 H locs) (q0 : Nat) {fs : List Value} (he : ws[q0]? = some (a, .inr (ci, fs))) (hc : cl[ci]? = some (C, T, N)) (k : Nat) (hk : k < N) (hlink : (Cond.fieldLink own index ref (T k).2.1 (T k).2.2.1).before args s = true) (hsame : ∀ x, s.fieldFound? (T k).1 (T k).2.1 (T k).2.2.1 = some x → s.fieldFound? ref (T k).2.1 (T k).2.2.1 = some x) (hfin : (T k).2.2.2 = true) (hin2 : meth.name = "<init>") (hdecl : (T k).1 = own) {ty : FieldType} {v : Value} (hd : parseFieldDescriptor (T k).2.2.1 = some ty) (hn : narrow ty v = v) (hfit : fits ty v = true) (hl : k < fs.length)
    (hdg : decode cc pc = .ok (.putfield index, 3)) (kk : ∀ (H1 : Heap) (locs1 : List Loc), va_P D cl (ws.set q0 (a, .inr (ci, fs.set k v))) H1 → H1.size = H.size → va_S A H0 H1 locs1 → W p l e R s m args below meth c H1 locs1 cells slots Q (F0 m (pc + 3) ls rest)) : W p l e R s m args below meth c H locs cells slots Q (F0 m pc ls (v :: .ref a :: rest)) := by
  have hap := va_apart (own := own) hts hin ty0 hty hnm hK hc
  obtain ⟨r, h1, cell, q1, q2, q3, q4⟩ := hP q0 _ he
  have hr : r = (C, T, N) := Option.some.inj (h1.symm.trans hc)
  subst hr
  obtain ⟨hS, hfc, kC, hkC, hkind⟩ := hK.1 ci _ hc
  obtain ⟨cf, kf, fi, f, hi, hsl⟩ := hS k hk
  have hlay := hts _ (hin _ (u_in_lay hk))
  unfold u_lay at hlay
  rw [if_pos hfin] at hlay
  have hst := (u_facts hfc hkC (u_lays hts hin hk) hi).1
  have hcf : m.cls = cf := by
    obtain ⟨_, _, c', _, _, _, -, -, hf', -, -, -, hown2, -⟩ := Cond.laysFinal_spec hlay
    have e1 : c' = cf := by have := hi.symm.trans hf'; simp at this; exact this.1.symm
    rw [hdecl] at hown2
    rw [← e1]; exact Option.some.inj (hown.symm.trans hown2)
  have h6 := u_fits hfc hkC hkind (Or.inr hlay) hi hd hn hfit
  refine W.putFinK hexec hb hown hlink (hsame _ hi) hst hcf hin2 (by rw [q2]; exact h6) q1 q3 (by rw [hsl]; exact k2_hasslot (q4 k hk)) rfl rfl hdg fun H' e1 e2 e3 => ?_
  rw [hsl] at e1 ⊢
  exact kk H' _ (hP.set hD he ⟨_, hc, t_OB.to (V := updV (vp_V fs) k v) ⟨_, e1, q2, q3, t_set q4 hap hk v⟩ (fun j _ => vp_updV_set hl v j)⟩ e3) e2 (hS0.put e2 e3 (hD.2 q0 _ he))
end STORES
section SIMJ
variable {p : Program} {l : Launch} {e : Env} {R : Room} {s : State} {m : MethodId} {args : Array Value} {below : List Frame} {meth : Method} {c : Code} {Zf : State → Prop} {M : MRec} {B sb Lx : Nat} {xs : Nat → Int32} {D : va_G} {cI cJ cZ : ClassId} {d : Nat} {n0 b0 : Int}
theorem tgt_eq {pc : Nat} {off : Int} (h : 0 ≤ (pc : Int) + off) : (pc : Int) + off = ((tgtOf pc off : Nat) : Int) := by unfold tgtOf; omega
theorem sj_goto (C : Cx p R s m args meth c M B sb Lx xs D cI cJ cZ d) {pc : Nat} {L S : List PV} {h : Hp} {off : Int} (hd : decode (mC M) pc = .ok (.goto off, 3)) (hk : pjump pc off L S h (SimP p l e R s m args below meth c Zf M B sb Lx xs D cI cJ cZ n0 b0)) : SimP p l e R s m args below meth c Zf M B sb Lx xs D cI cJ cZ n0 b0 pc L S h := by
  obtain ⟨hx, hb, -⟩ := C
  intro H locs cells slots ls hH hS hL hO hc hsc
  exact lv_goto hx hb hd (tgt_eq hk.1) (hk.2 H locs cells slots ls hH hS hL hO hc hsc)
/-- a jump under a condition: the target is needed on one way alone -/
theorem W.unless {p : Program} {l : Launch} {e : Env} {R : Room} {s : State} {m : MethodId} {args : Array Value} {below : List Frame} {meth : Method} {c : Code} {H : Heap} {locs : List Loc} {cells slots : Nat} {Q : State → Prop} {g : JFrame} {A : Prop} (h : ∀ T : State, T.heap = H → Stand p l e R s m args below meth c T locs cells slots → A) (k : A → W p l e R s m args below meth c H locs cells slots Q g) : W p l e R s m args below meth c H locs cells slots Q g := fun T hT X => k (h T hT X) T hT X
theorem sj_icmp (C : Cx p R s m args meth c M B sb Lx xs D cI cJ cZ d) {pc : Nat} {L S : List PV} {h : Hp} {cd : ClassFile.Cond} {off : Int} {a b : Int} (h0 : 0 ≤ (pc : Int) + off) (hd : decode (mC M) pc = .ok (.if_icmp cd off, 3)) (hk : if cmpI cd a b = true then SimP p l e R s m args below meth c Zf M B sb Lx xs D cI cJ cZ n0 b0 (tgtOf pc off) L S h else SimP p l e R s m args below meth c Zf M B sb Lx xs D cI cJ cZ n0 b0 (pc + 3) L S h) : SimP p l e R s m args below meth c Zf M B sb Lx xs D cI cJ cZ n0 b0 pc L ((0, b) :: (0, a) :: S) h := by
  obtain ⟨hx, hb, -⟩ := C
  intro H locs cells slots ls hH hS hL hO hc hsc
  have hb1 : in32 b := hO _ List.mem_cons_self
  have ha1 : in32 a := hO _ (List.mem_cons_of_mem _ List.mem_cons_self)
  have hO2 : ∀ u ∈ S, okv (h (-3) 0) u := fun u hu => hO u (List.mem_cons_of_mem _ (List.mem_cons_of_mem _ hu))
  cases cd with
  | eq =>
    have hk : if decide (a = b) = true then SimP p l e R s m args below meth c Zf M B sb Lx xs D cI cJ cZ n0 b0 (tgtOf pc off) L S h else SimP p l e R s m args below meth c Zf M B sb Lx xs D cI cJ cZ n0 b0 (pc + 3) L S h := hk
    simp only [decide_eq_true_eq] at hk
    refine lv_icmp_eq hx hb hd (tgt_eq h0) (fun q => ?_) (fun q => ?_)
    · rw [if_pos ((o_eq ha1 hb1).mp q)] at hk; exact hk H locs cells slots ls hH hS hL hO2 hc hsc
    · rw [if_neg (fun z => q ((o_eq ha1 hb1).mpr z))] at hk; exact hk H locs cells slots ls hH hS hL hO2 hc hsc
  | ne =>
    have hk : if decide (a ≠ b) = true then SimP p l e R s m args below meth c Zf M B sb Lx xs D cI cJ cZ n0 b0 (tgtOf pc off) L S h else SimP p l e R s m args below meth c Zf M B sb Lx xs D cI cJ cZ n0 b0 (pc + 3) L S h := hk
    simp only [decide_eq_true_eq] at hk
    refine lv_icmp_ne hx hb hd (tgt_eq h0) (fun q => ?_) (fun q => ?_)
    · rw [if_pos (fun z => q ((o_eq ha1 hb1).mpr z))] at hk; exact hk H locs cells slots ls hH hS hL hO2 hc hsc
    · rw [if_neg (fun z => z ((o_eq ha1 hb1).mp q))] at hk; exact hk H locs cells slots ls hH hS hL hO2 hc hsc
  | lt =>
    have hk : if decide (a < b) = true then SimP p l e R s m args below meth c Zf M B sb Lx xs D cI cJ cZ n0 b0 (tgtOf pc off) L S h else SimP p l e R s m args below meth c Zf M B sb Lx xs D cI cJ cZ n0 b0 (pc + 3) L S h := hk
    simp only [decide_eq_true_eq] at hk
    refine lv_icmp_lt hx hb hd (tgt_eq h0) (fun q => ?_) (fun q => ?_)
    · rw [if_pos ((o_lt ha1 hb1).mp q)] at hk; exact hk H locs cells slots ls hH hS hL hO2 hc hsc
    · rw [if_neg (fun z => q ((o_lt ha1 hb1).mpr z))] at hk; exact hk H locs cells slots ls hH hS hL hO2 hc hsc
  | ge =>
    have hk : if decide (b ≤ a) = true then SimP p l e R s m args below meth c Zf M B sb Lx xs D cI cJ cZ n0 b0 (tgtOf pc off) L S h else SimP p l e R s m args below meth c Zf M B sb Lx xs D cI cJ cZ n0 b0 (pc + 3) L S h := hk
    simp only [decide_eq_true_eq] at hk
    refine lv_icmp_ge hx hb hd (tgt_eq h0) (fun q => ?_) (fun q => ?_)
    · rw [if_pos ((o_le hb1 ha1).mp q)] at hk; exact hk H locs cells slots ls hH hS hL hO2 hc hsc
    · rw [if_neg (fun z => q ((o_le hb1 ha1).mpr z))] at hk; exact hk H locs cells slots ls hH hS hL hO2 hc hsc
  | gt =>
    have hk : if decide (b < a) = true then SimP p l e R s m args below meth c Zf M B sb Lx xs D cI cJ cZ n0 b0 (tgtOf pc off) L S h else SimP p l e R s m args below meth c Zf M B sb Lx xs D cI cJ cZ n0 b0 (pc + 3) L S h := hk
    simp only [decide_eq_true_eq] at hk
    refine lv_icmp_gt hx hb hd (tgt_eq h0) (fun q => ?_) (fun q => ?_)
    · rw [if_pos ((o_lt hb1 ha1).mp q)] at hk; exact hk H locs cells slots ls hH hS hL hO2 hc hsc
    · rw [if_neg (fun z => q ((o_lt hb1 ha1).mpr z))] at hk; exact hk H locs cells slots ls hH hS hL hO2 hc hsc
  | le =>
    have hk : if decide (a ≤ b) = true then SimP p l e R s m args below meth c Zf M B sb Lx xs D cI cJ cZ n0 b0 (tgtOf pc off) L S h else SimP p l e R s m args below meth c Zf M B sb Lx xs D cI cJ cZ n0 b0 (pc + 3) L S h := hk
    simp only [decide_eq_true_eq] at hk
    refine lv_icmp_le hx hb hd (tgt_eq h0) (fun q => ?_) (fun q => ?_)
    · rw [if_pos ((o_le ha1 hb1).mp q)] at hk; exact hk H locs cells slots ls hH hS hL hO2 hc hsc
    · rw [if_neg (fun z => q ((o_le ha1 hb1).mpr z))] at hk; exact hk H locs cells slots ls hH hS hL hO2 hc hsc
theorem sj_if (C : Cx p R s m args meth c M B sb Lx xs D cI cJ cZ d) {pc : Nat} {L S : List PV} {h : Hp} {cd : ClassFile.Cond} {off : Int} {a : Int} (h0 : 0 ≤ (pc : Int) + off) (hd : decode (mC M) pc = .ok (.ifCond cd off, 3)) (hk : if cmpI cd a 0 = true then SimP p l e R s m args below meth c Zf M B sb Lx xs D cI cJ cZ n0 b0 (tgtOf pc off) L S h else SimP p l e R s m args below meth c Zf M B sb Lx xs D cI cJ cZ n0 b0 (pc + 3) L S h) : SimP p l e R s m args below meth c Zf M B sb Lx xs D cI cJ cZ n0 b0 pc L ((0, a) :: S) h := by
  obtain ⟨hx, hb, -⟩ := C
  intro H locs cells slots ls hH hS hL hO hc hsc
  have ha1 : in32 a := hO _ List.mem_cons_self
  have hb1 : in32 0 := by unfold in32; decide
  have hO2 : ∀ u ∈ S, okv (h (-3) 0) u := fun u hu => hO u (List.mem_cons_of_mem _ hu)
  cases cd with
  | eq =>
    have hk : if decide (a = 0) = true then SimP p l e R s m args below meth c Zf M B sb Lx xs D cI cJ cZ n0 b0 (tgtOf pc off) L S h else SimP p l e R s m args below meth c Zf M B sb Lx xs D cI cJ cZ n0 b0 (pc + 3) L S h := hk
    simp only [decide_eq_true_eq] at hk
    refine lv_if_eq hx hb hd (tgt_eq h0) (fun q => ?_) (fun q => ?_)
    · rw [if_pos ((o_eq ha1 hb1).mp q)] at hk; exact hk H locs cells slots ls hH hS hL hO2 hc hsc
    · rw [if_neg (fun z => q ((o_eq ha1 hb1).mpr z))] at hk; exact hk H locs cells slots ls hH hS hL hO2 hc hsc
  | ne =>
    have hk : if decide (a ≠ 0) = true then SimP p l e R s m args below meth c Zf M B sb Lx xs D cI cJ cZ n0 b0 (tgtOf pc off) L S h else SimP p l e R s m args below meth c Zf M B sb Lx xs D cI cJ cZ n0 b0 (pc + 3) L S h := hk
    simp only [decide_eq_true_eq] at hk
    refine lv_if_ne hx hb hd (tgt_eq h0) (fun q => ?_) (fun q => ?_)
    · rw [if_pos (fun z => q ((o_eq ha1 hb1).mpr z))] at hk; exact hk H locs cells slots ls hH hS hL hO2 hc hsc
    · rw [if_neg (fun z => z ((o_eq ha1 hb1).mp q))] at hk; exact hk H locs cells slots ls hH hS hL hO2 hc hsc
  | lt =>
    have hk : if decide (a < 0) = true then SimP p l e R s m args below meth c Zf M B sb Lx xs D cI cJ cZ n0 b0 (tgtOf pc off) L S h else SimP p l e R s m args below meth c Zf M B sb Lx xs D cI cJ cZ n0 b0 (pc + 3) L S h := hk
    simp only [decide_eq_true_eq] at hk
    refine lv_if_lt hx hb hd (tgt_eq h0) (fun q => ?_) (fun q => ?_)
    · rw [if_pos ((o_lt ha1 hb1).mp q)] at hk; exact hk H locs cells slots ls hH hS hL hO2 hc hsc
    · rw [if_neg (fun z => q ((o_lt ha1 hb1).mpr z))] at hk; exact hk H locs cells slots ls hH hS hL hO2 hc hsc
  | ge =>
    have hk : if decide (0 ≤ a) = true then SimP p l e R s m args below meth c Zf M B sb Lx xs D cI cJ cZ n0 b0 (tgtOf pc off) L S h else SimP p l e R s m args below meth c Zf M B sb Lx xs D cI cJ cZ n0 b0 (pc + 3) L S h := hk
    simp only [decide_eq_true_eq] at hk
    refine lv_if_ge hx hb hd (tgt_eq h0) (fun q => ?_) (fun q => ?_)
    · rw [if_pos ((o_le hb1 ha1).mp q)] at hk; exact hk H locs cells slots ls hH hS hL hO2 hc hsc
    · rw [if_neg (fun z => q ((o_le hb1 ha1).mpr z))] at hk; exact hk H locs cells slots ls hH hS hL hO2 hc hsc
  | gt =>
    have hk : if decide (0 < a) = true then SimP p l e R s m args below meth c Zf M B sb Lx xs D cI cJ cZ n0 b0 (tgtOf pc off) L S h else SimP p l e R s m args below meth c Zf M B sb Lx xs D cI cJ cZ n0 b0 (pc + 3) L S h := hk
    simp only [decide_eq_true_eq] at hk
    refine lv_if_gt hx hb hd (tgt_eq h0) (fun q => ?_) (fun q => ?_)
    · rw [if_pos ((o_lt hb1 ha1).mp q)] at hk; exact hk H locs cells slots ls hH hS hL hO2 hc hsc
    · rw [if_neg (fun z => q ((o_lt hb1 ha1).mpr z))] at hk; exact hk H locs cells slots ls hH hS hL hO2 hc hsc
  | le =>
    have hk : if decide (a ≤ 0) = true then SimP p l e R s m args below meth c Zf M B sb Lx xs D cI cJ cZ n0 b0 (tgtOf pc off) L S h else SimP p l e R s m args below meth c Zf M B sb Lx xs D cI cJ cZ n0 b0 (pc + 3) L S h := hk
    simp only [decide_eq_true_eq] at hk
    refine lv_if_le hx hb hd (tgt_eq h0) (fun q => ?_) (fun q => ?_)
    · rw [if_pos ((o_le ha1 hb1).mp q)] at hk; exact hk H locs cells slots ls hH hS hL hO2 hc hsc
    · rw [if_neg (fun z => q ((o_le ha1 hb1).mpr z))] at hk; exact hk H locs cells slots ls hH hS hL hO2 hc hsc
theorem sj_idiv (C : Cx p R s m args meth c M B sb Lx xs D cI cJ cZ d) {pc : Nat} {L S : List PV} {h : Hp} {a b : Int} (hd : decode (mC M) pc = .ok (.idiv, 1)) (hne : b ≠ 0) (hk : SimP p l e R s m args below meth c Zf M B sb Lx xs D cI cJ cZ n0 b0 (pc + 1) L ((0, w32 (a.tdiv b)) :: S) h) : SimP p l e R s m args below meth c Zf M B sb Lx xs D cI cJ cZ n0 b0 pc L ((0, b) :: (0, a) :: S) h := by
  obtain ⟨hx, hb, -⟩ := C
  intro H locs cells slots ls hH hS hL hO hc hsc
  have hb1 : in32 b := hO _ List.mem_cons_self
  have ha1 : in32 a := hO _ (List.mem_cons_of_mem _ List.mem_cons_self)
  have hO2 : ∀ u ∈ S, okv (h (-3) 0) u := fun u hu => hO u (List.mem_cons_of_mem _ (List.mem_cons_of_mem _ hu))
  have K := hk H locs cells slots ls hH hS hL (okS_cons (show in32 (w32 (a.tdiv b)) from w32_in _) hO2) hc hsc
  simp only [List.map_cons] at K ⊢
  rw [vl0, ← o_div ha1 hb1] at K
  exact lv_idiv hx hb hd (o_ne0 hb1 hne) K
theorem sj_irem (C : Cx p R s m args meth c M B sb Lx xs D cI cJ cZ d) {pc : Nat} {L S : List PV} {h : Hp} {a b : Int} (hd : decode (mC M) pc = .ok (.irem, 1)) (hne : b ≠ 0) (hk : SimP p l e R s m args below meth c Zf M B sb Lx xs D cI cJ cZ n0 b0 (pc + 1) L ((0, a.tmod b) :: S) h) : SimP p l e R s m args below meth c Zf M B sb Lx xs D cI cJ cZ n0 b0 pc L ((0, b) :: (0, a) :: S) h := by
  obtain ⟨hx, hb, -⟩ := C
  intro H locs cells slots ls hH hS hL hO hc hsc
  have hb1 : in32 b := hO _ List.mem_cons_self
  have ha1 : in32 a := hO _ (List.mem_cons_of_mem _ List.mem_cons_self)
  have hO2 : ∀ u ∈ S, okv (h (-3) 0) u := fun u hu => hO u (List.mem_cons_of_mem _ (List.mem_cons_of_mem _ hu))
  have K := hk H locs cells slots ls hH hS hL (okS_cons (show in32 (a.tmod b) from tmod_in32 ha1 hb1) hO2) hc hsc
  simp only [List.map_cons] at K ⊢
  rw [vl0, ← o_rem ha1 hb1] at K
  exact lv_irem hx hb hd (o_ne0 hb1 hne) K
theorem sj_ldiv (C : Cx p R s m args meth c M B sb Lx xs D cI cJ cZ d) {pc : Nat} {L S : List PV} {h : Hp} {a b : Int} (hd : decode (mC M) pc = .ok (.ldiv, 1)) (hne : b ≠ 0) (hk : SimP p l e R s m args below meth c Zf M B sb Lx xs D cI cJ cZ n0 b0 (pc + 1) L ((1, w64 (a.tdiv b)) :: S) h) : SimP p l e R s m args below meth c Zf M B sb Lx xs D cI cJ cZ n0 b0 pc L ((1, b) :: (1, a) :: S) h := by
  obtain ⟨hx, hb, -⟩ := C
  intro H locs cells slots ls hH hS hL hO hc hsc
  have hb1 : in64 b := hO _ List.mem_cons_self
  have ha1 : in64 a := hO _ (List.mem_cons_of_mem _ List.mem_cons_self)
  have hO2 : ∀ u ∈ S, okv (h (-3) 0) u := fun u hu => hO u (List.mem_cons_of_mem _ (List.mem_cons_of_mem _ hu))
  have K := hk H locs cells slots ls hH hS hL (okS_cons (show in64 (w64 (a.tdiv b)) from w64_in _) hO2) hc hsc
  simp only [List.map_cons] at K ⊢
  rw [vl1, ← p_div ha1 hb1] at K
  exact lv_ldiv hx hb hd (p_ne0 hb1 hne) K
theorem sj_lrem (C : Cx p R s m args meth c M B sb Lx xs D cI cJ cZ d) {pc : Nat} {L S : List PV} {h : Hp} {a b : Int} (hd : decode (mC M) pc = .ok (.lrem, 1)) (hne : b ≠ 0) (hk : SimP p l e R s m args below meth c Zf M B sb Lx xs D cI cJ cZ n0 b0 (pc + 1) L ((1, a.tmod b) :: S) h) : SimP p l e R s m args below meth c Zf M B sb Lx xs D cI cJ cZ n0 b0 pc L ((1, b) :: (1, a) :: S) h := by
  obtain ⟨hx, hb, -⟩ := C
  intro H locs cells slots ls hH hS hL hO hc hsc
  have hb1 : in64 b := hO _ List.mem_cons_self
  have ha1 : in64 a := hO _ (List.mem_cons_of_mem _ List.mem_cons_self)
  have hO2 : ∀ u ∈ S, okv (h (-3) 0) u := fun u hu => hO u (List.mem_cons_of_mem _ (List.mem_cons_of_mem _ hu))
  have K := hk H locs cells slots ls hH hS hL (okS_cons (show in64 (a.tmod b) from tmod_in64 ha1 hb1) hO2) hc hsc
  simp only [List.map_cons] at K ⊢
  rw [vl1, ← p_rem ha1 hb1] at K
  exact lv_lrem hx hb hd (p_ne0 hb1 hne) K
theorem sj_tab (C : Cx p R s m args meth c M B sb Lx xs D cI cJ cZ d) {pc len : Nat} {L S : List PV} {h : Hp} {df lo hi : Int} {offs : Array Int} {x off : Int} (hd : decode (mC M) pc = .ok (.tableswitch df lo hi offs, len)) (hs : swTab df lo hi offs x = some off) (hk : pjump pc off L S h (SimP p l e R s m args below meth c Zf M B sb Lx xs D cI cJ cZ n0 b0)) : SimP p l e R s m args below meth c Zf M B sb Lx xs D cI cJ cZ n0 b0 pc L ((0, x) :: S) h := by
  obtain ⟨hx, hb, -⟩ := C
  intro H locs cells slots ls hH hS hL hO hc hsc
  have ha1 : in32 x := hO _ List.mem_cons_self
  have K := hk.2 H locs cells slots ls hH hS hL (fun u hu => hO u (List.mem_cons_of_mem _ hu)) hc hsc
  unfold swTab at hs
  split at hs
  · rename_i hq
    obtain rfl := Option.some.inj hs
    exact lv_tableOut hx hb hd (by rw [i32_to ha1]; exact hq) (tgt_eq hk.1) K
  · rename_i hq
    exact lv_tableIn hx hb hd (by rw [i32_to ha1]; omega) (by rw [i32_to ha1]; omega) (by rw [i32_to ha1]; exact hs) (tgt_eq hk.1) K
theorem swLook_eq : ∀ (ps : List (Int × Int)) (df x : Int), swLook ps df x = Op.lookupswitch.offset ps df x
  | [], _, _ => rfl
  | (a, o) :: ps, df, x => by
    unfold swLook Op.lookupswitch.offset
    rw [swLook_eq ps df x]
    simp only [beq_iff_eq, eq_comm]
theorem sj_look (C : Cx p R s m args meth c M B sb Lx xs D cI cJ cZ d) {pc len : Nat} {L S : List PV} {h : Hp} {df : Int} {prs : Array (Int × Int)} {x : Int} (hd : decode (mC M) pc = .ok (.lookupswitch df prs, len)) (ha : ascP prs.toList = true) (hk : pjump pc (swLook prs.toList df x) L S h (SimP p l e R s m args below meth c Zf M B sb Lx xs D cI cJ cZ n0 b0)) : SimP p l e R s m args below meth c Zf M B sb Lx xs D cI cJ cZ n0 b0 pc L ((0, x) :: S) h := by
  obtain ⟨hx, hb, -⟩ := C
  intro H locs cells slots ls hH hS hL hO hc hsc
  have ha1 : in32 x := hO _ List.mem_cons_self
  have K := hk.2 H locs cells slots ls hH hS hL (fun u hu => hO u (List.mem_cons_of_mem _ hu)) hc hsc
  exact lv_lookup hx hb hd ha (by rw [i32_to ha1, ← swLook_eq]) (tgt_eq hk.1) K
end SIMJ
