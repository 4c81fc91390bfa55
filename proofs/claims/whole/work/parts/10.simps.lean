/-! one instruction of the picture is one of the machine: locals and stack -/
def tysL (cI cJ cZ : ClassId) : List (ClassId × FieldType) := [(cI, .int), (cJ, .long), (cZ, .boolean)]
def Cx (p : Program) (R : Room) (s : State) (m : MethodId) (args : Array Value) (meth : Method) (c : Code) (M : MRec) (B sb Lx : Nat) (xs : Nat → Int32) (D : va_G) (cI cJ cZ : ClassId) (d : Nat) (n0 : Int) : Prop :=
  p.tables.exec = Jvm.exec ∧ c.code = mC M ∧ c.maxLocals = mX M ∧ s.vm.findClass (RC (mO M)) = some m.cls ∧ (∀ w ∈ gtbl, w.before args s = true) ∧ (∀ w ∈ nestW, va_Nw w s) ∧ va_K D vwCl (tysL cI cJ cZ) s ∧ (va_X sb Lx xs s s.heap ∧ sb < B ∧ (s.heap.size = B + n0.toNat ∧ 0 ≤ n0) ∧ (Lx : Int) < 2147483648) ∧ (d ≤ R.frames ∧ mRl M ≤ R.locals ∧ mMc M ≤ R.cells ∧ mMs M ≤ R.slots) ∧ ((mY M).name = "<init>" → meth.name = "<init>")
def ScrOK (Lx : Nat) (xs : Nat → Int32) (h : Hp) : Prop := ∀ k : Nat, k < Lx → xs k = Int32.ofInt (h (-2) k) ∧ in32 (h (-2) k)
def SimP (p : Program) (l : Launch) (e : Env) (R : Room) (s : State) (m : MethodId) (args : Array Value) (below : List Frame) (meth : Method) (c : Code) (Zf : State → Prop) (M : MRec) (B sb Lx : Nat) (xs : Nat → Int32) (D : va_G) (cI cJ cZ : ClassId) (n0 b0 : Int) (pc : Nat) (L S : List PV) (h : Hp) : Prop :=
  ∀ (H : Heap) (locs : List Loc) (cells slots : Nat) (ls : Array Slot), HRel B sb D cI cJ cZ h H → va_S (fun q => B ≤ q) s.heap H locs → LRel B sb (mX M) (h (-3) 0) L ls → (∀ v ∈ S, okv (h (-3) 0) v) → ((cells : Int) = h (-3) 0 - n0 ∧ (slots : Int) = h (-3) 1 - b0 ∧ cells ≤ R.cells ∧ slots ≤ R.slots) → ScrOK Lx xs h → W p l e R s m args below meth c H locs cells slots Zf (F0 m pc ls (S.map (vl B sb)))
theorem okS_cons {n : Int} {v : PV} {S : List PV} (hv : okv n v) (hS : ∀ u ∈ S, okv n u) : ∀ u ∈ v :: S, okv n u := List.forall_mem_cons.mpr ⟨hv, hS⟩
theorem lv_astoreV {p : Program} {l : Launch} {e : Env} {R : Room} {s : State} {m : MethodId} {args : Array Value} {below : List Frame} {meth : Method} {c : Code} {H : Heap} {locs : List Loc} {cells slots : Nat} {Q : State → Prop} {cc : ByteArray} {pc : Nat} {ls : Array Slot} {rest : List Value} (hexec : p.tables.exec = Jvm.exec) (hb : c.code = cc) {B sb i nL : Nat} {x : Int} {lv lv' : List (Nat × Value)} (hdg : decode cc pc = .ok (.astore i, 2)) (h : lv_has ls nL lv) (hn : i < nL) (hl : (i, vl B sb (2, x)) :: lv.filter (fun q => !(q.1 == i) && !(q.1 + 1 == i && q.2.category == 2)) = lv')
    (kk : ∀ ls' : Array Slot, lv_has ls' nL lv' → W p l e R s m args below meth c H locs cells slots Q (F0 m (pc + 2) ls' rest)) : W p l e R s m args below meth c H locs cells slots Q (F0 m pc ls (vl B sb (2, x) :: rest)) := by
  by_cases hx : x = -1
  · subst hx
    exact lv_astoreN hexec hb hdg h hn hl kk
  · rw [vl2 B sb hx] at hl ⊢
    exact lv_astore hexec hb hdg h hn hl kk
theorem lv_astore_nV {p : Program} {l : Launch} {e : Env} {R : Room} {s : State} {m : MethodId} {args : Array Value} {below : List Frame} {meth : Method} {c : Code} {H : Heap} {locs : List Loc} {cells slots : Nat} {Q : State → Prop} {cc : ByteArray} {pc : Nat} {ls : Array Slot} {rest : List Value} (hexec : p.tables.exec = Jvm.exec) (hb : c.code = cc) {k : Fin 4} {B sb i nL : Nat} {x : Int} {lv lv' : List (Nat × Value)} (hdg : decode cc pc = .ok (.astore_n k, 1)) (hi : (k : Nat) = i) (h : lv_has ls nL lv) (hn : i < nL) (hl : (i, vl B sb (2, x)) :: lv.filter (fun q => !(q.1 == i) && !(q.1 + 1 == i && q.2.category == 2)) = lv')
    (kk : ∀ ls' : Array Slot, lv_has ls' nL lv' → W p l e R s m args below meth c H locs cells slots Q (F0 m (pc + 1) ls' rest)) : W p l e R s m args below meth c H locs cells slots Q (F0 m pc ls (vl B sb (2, x) :: rest)) := by
  by_cases hx : x = -1
  · subst hx
    exact lv_astore_nN hexec hb hdg hi h hn hl kk
  · rw [vl2 B sb hx] at hl ⊢
    exact lv_astore_n hexec hb hdg hi h hn hl kk
theorem pst1_lt {L L' : List PV} {i : Nat} {v : PV} (h : pst1 L i v = some L') : i < L.length := by
  unfold pst1 at h
  split at h
  · assumption
  · cases h
theorem pst2_lt {L L' : List PV} {i : Nat} {v : PV} (h : pst2 L i v = some L') : i + 1 < L.length := by
  unfold pst2 at h
  split at h
  · assumption
  · cases h
theorem pldS_spec {L S : List PV} {i t : Nat} {q : LS2} (h : pldS L S i t = some q) : ∃ x, pld L i t = some x ∧ q = (L, (t, x) :: S) := by
  unfold pldS at h
  cases hp : pld L i t with
  | none => rw [hp] at h; cases h
  | some x => rw [hp] at h; exact ⟨x, rfl, (Option.some.inj h).symm⟩
theorem pstI_spec {t : Nat} {L S : List PV} {i : Nat} {q : LS2} (h : pstI t L S i = some q) : ∃ x S' L', S = (t, x) :: S' ∧ pst1 L i (t, x) = some L' ∧ q = (L', S') := by
  unfold pstI at h
  split at h
  · rename_i t' v S'
    split at h
    · rename_i e
      subst e
      split at h
      · rename_i L' e2
        exact ⟨v, S', L', rfl, e2, (Option.some.inj h).symm⟩
      · cases h
    · cases h
  · cases h
theorem pstL_spec {L S : List PV} {i : Nat} {q : LS2} (h : pstL L S i = some q) : ∃ x S' L', S = (1, x) :: S' ∧ pst2 L i (1, x) = some L' ∧ q = (L', S') := by
  unfold pstL at h
  split at h
  · rename_i v S'
    split at h
    · rename_i L' e2
      exact ⟨v, S', L', rfl, e2, (Option.some.inj h).symm⟩
    · cases h
  · cases h
theorem pop2_spec {t r : Nat} {f : Int → Int → Option Int} {L S : List PV} {q : LS2} (h : pop2 t r f L S = some q) : ∃ a b S' v, S = (t, b) :: (t, a) :: S' ∧ f a b = some v ∧ q = (L, (r, v) :: S') := by
  unfold pop2 at h
  split at h
  · rename_i tb b ta a S'
    split at h
    · rename_i e
      obtain ⟨e1, e2⟩ := e
      subst e1
      subst e2
      split at h
      · rename_i v e3
        exact ⟨a, b, S', v, rfl, e3, (Option.some.inj h).symm⟩
      · cases h
    · cases h
  · cases h
theorem pop1_spec {t r : Nat} {f : Int → Int} {L S : List PV} {q : LS2} (h : pop1 t r f L S = some q) : ∃ a S', S = (t, a) :: S' ∧ q = (L, (r, f a) :: S') := by
  unfold pop1 at h
  split at h
  · rename_i ta a S'
    split at h
    · rename_i e
      subst e
      exact ⟨a, S', rfl, (Option.some.inj h).symm⟩
    · cases h
  · cases h
theorem vl_c1 {B sb : Nat} {n : Int} {v : PV} (hv : okv n v) (h : v.1 = 0 ∨ v.1 = 2) : (vl B sb v).category = 1 := by
  rw [vl_cat hv, if_neg (by omega)]
/-- how large the heap is, by what the machine itself keeps of it -/
theorem W_size {p : Program} {l : Launch} {e : Env} {R : Room} {s : State} {m : MethodId} {args : Array Value} {below : List Frame} {meth : Method} {c : Code} {H : Heap} {locs : List Loc} {cells slots : Nat} {Q : State → Prop} {g : JFrame} {B sb : Nat} {D : va_G} {cI cJ cZ : ClassId} {h : Hp} {n n0 : Int} (g0 : 0 ≤ n) (hz0 : s.heap.size = B + n0.toNat ∧ 0 ≤ n0) (hP : va_P D vwCl (wsH B sb cI cJ cZ n.toNat h) H) (hS : va_S (fun q => B ≤ q) s.heap H locs) (hc : (cells : Int) = n - n0) (k : H.size = B + n.toNat → W p l e R s m args below meth c H locs cells slots Q g) : W p l e R s m args below meth c H locs cells slots Q g := by
  intro T hT X
  refine k ?_ T hT X
  have h1 : T.heap.size ≤ s.heap.size + cells := X.same.2.2.1
  rw [hT] at h1
  have h2 := hS.1
  obtain ⟨z1, z2⟩ := hz0
  by_cases e1 : n = n0
  · subst e1
    omega
  · have h3 : n.toNat - 1 < n.toNat := by omega
    have h4 := (hP _ _ (wsH_at B sb cI cJ cZ h h3)).lt
    dsimp only at h4
    omega
section SIMPS
variable {p : Program} {l : Launch} {e : Env} {R : Room} {s : State} {m : MethodId} {args : Array Value} {below : List Frame} {meth : Method} {c : Code} {Zf : State → Prop} {M : MRec} {B sb Lx : Nat} {xs : Nat → Int32} {D : va_G} {cI cJ cZ : ClassId} {d : Nat} {n0 b0 : Int}

theorem sp_iconst (C : Cx p R s m args meth c M B sb Lx xs D cI cJ cZ d n0) {pc : Nat} {L S : List PV} {h : Hp} {n : Int} (hd : decode (mC M) pc = .ok (.iconst n, 1)) {q : LS2} (hp : ps (mO M) (.iconst n) L S = some q) (hk : SimP p l e R s m args below meth c Zf M B sb Lx xs D cI cJ cZ n0 b0 (pc + 1) q.1 q.2 h) : SimP p l e R s m args below meth c Zf M B sb Lx xs D cI cJ cZ n0 b0 pc L S h := by
  obtain ⟨hx, hb, hml, hown, hts, hnw, hK, hX, hR, hnm⟩ := C
  intro H locs cells slots ls hH hS hL hO hc hsc
  obtain rfl := (Option.some.inj hp).symm
  refine lv_iconst hx hb hd (o_con n) ?_
  exact hk H locs cells slots ls hH hS hL (okS_cons (w32_in n) hO) hc hsc
theorem sp_bipush (C : Cx p R s m args meth c M B sb Lx xs D cI cJ cZ d n0) {pc : Nat} {L S : List PV} {h : Hp} {n : Int} (hd : decode (mC M) pc = .ok (.bipush n, 2)) {q : LS2} (hp : ps (mO M) (.bipush n) L S = some q) (hk : SimP p l e R s m args below meth c Zf M B sb Lx xs D cI cJ cZ n0 b0 (pc + 2) q.1 q.2 h) : SimP p l e R s m args below meth c Zf M B sb Lx xs D cI cJ cZ n0 b0 pc L S h := by
  obtain ⟨hx, hb, hml, hown, hts, hnw, hK, hX, hR, hnm⟩ := C
  intro H locs cells slots ls hH hS hL hO hc hsc
  obtain rfl := (Option.some.inj hp).symm
  refine lv_bipush hx hb hd (o_bip n) ?_
  exact hk H locs cells slots ls hH hS hL (okS_cons (w8_in n) hO) hc hsc
theorem sp_sipush (C : Cx p R s m args meth c M B sb Lx xs D cI cJ cZ d n0) {pc : Nat} {L S : List PV} {h : Hp} {n : Int} (hd : decode (mC M) pc = .ok (.sipush n, 3)) {q : LS2} (hp : ps (mO M) (.sipush n) L S = some q) (hk : SimP p l e R s m args below meth c Zf M B sb Lx xs D cI cJ cZ n0 b0 (pc + 3) q.1 q.2 h) : SimP p l e R s m args below meth c Zf M B sb Lx xs D cI cJ cZ n0 b0 pc L S h := by
  obtain ⟨hx, hb, hml, hown, hts, hnw, hK, hX, hR, hnm⟩ := C
  intro H locs cells slots ls hH hS hL hO hc hsc
  obtain rfl := (Option.some.inj hp).symm
  refine lv_sipush hx hb hd (o_sip n) ?_
  exact hk H locs cells slots ls hH hS hL (okS_cons (sip_in n) hO) hc hsc
theorem sp_lconst (C : Cx p R s m args meth c M B sb Lx xs D cI cJ cZ d n0) {pc : Nat} {L S : List PV} {h : Hp} {n : Fin 2} (hd : decode (mC M) pc = .ok (.lconst n, 1)) {q : LS2} (hp : ps (mO M) (.lconst n) L S = some q) (hk : SimP p l e R s m args below meth c Zf M B sb Lx xs D cI cJ cZ n0 b0 (pc + 1) q.1 q.2 h) : SimP p l e R s m args below meth c Zf M B sb Lx xs D cI cJ cZ n0 b0 pc L S h := by
  obtain ⟨hx, hb, hml, hown, hts, hnw, hK, hX, hR, hnm⟩ := C
  intro H locs cells slots ls hH hS hL hO hc hsc
  obtain rfl := (Option.some.inj hp).symm
  refine lv_lconst (v := Int64.ofInt (n.val : Int)) hx hb hd (by match n with | 0 => rfl | 1 => rfl) ?_
  exact hk H locs cells slots ls hH hS hL (okS_cons (show in64 (n.val : Int) from by have := n.isLt; unfold in64; omega) hO) hc hsc
theorem sp_ldc (C : Cx p R s m args meth c M B sb Lx xs D cI cJ cZ d n0) {pc : Nat} {L S : List PV} {h : Hp} {k : Nat} (hd : decode (mC M) pc = .ok (.ldc k, 2)) {q : LS2} (hp : ps (mO M) (.ldc k) L S = some q) (hk : SimP p l e R s m args below meth c Zf M B sb Lx xs D cI cJ cZ n0 b0 (pc + 2) q.1 q.2 h) : SimP p l e R s m args below meth c Zf M B sb Lx xs D cI cJ cZ n0 b0 pc L S h := by
  obtain ⟨hx, hb, hml, hown, hts, hnw, hK, hX, hR, hnm⟩ := C
  intro H locs cells slots ls hH hS hL hO hc hsc
  have hp : (match ldcT (mO M) k with | some v => ppush L S (0, v) | none => none) = some q := hp
  split at hp
  · rename_i v hv
    obtain rfl := (Option.some.inj hp).symm
    obtain ⟨w1, w2, w3⟩ := ldc_ok hv
    refine lv_ldc (v := Int32.ofInt v) hx hb hown (hts _ w1) hd ?_
    exact hk H locs cells slots ls hH hS hL (okS_cons (show in32 v from ⟨w2, w3⟩) hO) hc hsc
  · cases hp
theorem sp_ldc2 (C : Cx p R s m args meth c M B sb Lx xs D cI cJ cZ d n0) {pc : Nat} {L S : List PV} {h : Hp} {k : Nat} (hd : decode (mC M) pc = .ok (.ldc2_w k, 3)) {q : LS2} (hp : ps (mO M) (.ldc2_w k) L S = some q) (hk : SimP p l e R s m args below meth c Zf M B sb Lx xs D cI cJ cZ n0 b0 (pc + 3) q.1 q.2 h) : SimP p l e R s m args below meth c Zf M B sb Lx xs D cI cJ cZ n0 b0 pc L S h := by
  obtain ⟨hx, hb, hml, hown, hts, hnw, hK, hX, hR, hnm⟩ := C
  intro H locs cells slots ls hH hS hL hO hc hsc
  have hp : (match ldc2T (mO M) k with | some v => ppush L S (1, v) | none => none) = some q := hp
  split at hp
  · rename_i v hv
    obtain rfl := (Option.some.inj hp).symm
    obtain ⟨w1, w2, w3⟩ := ldc2_ok hv
    refine lv_ldc2 (v := Int64.ofInt v) hx hb hown (hts _ w1) hd ?_
    exact hk H locs cells slots ls hH hS hL (okS_cons (show in64 v from ⟨w2, w3⟩) hO) hc hsc
  · cases hp
theorem sp_iload (C : Cx p R s m args meth c M B sb Lx xs D cI cJ cZ d n0) {pc : Nat} {L S : List PV} {h : Hp} {k : Nat} (hd : decode (mC M) pc = .ok (.iload k, 2)) {q : LS2} (hp : ps (mO M) (.iload k) L S = some q) (hk : SimP p l e R s m args below meth c Zf M B sb Lx xs D cI cJ cZ n0 b0 (pc + 2) q.1 q.2 h) : SimP p l e R s m args below meth c Zf M B sb Lx xs D cI cJ cZ n0 b0 pc L S h := by
  obtain ⟨hx, hb, hml, hown, hts, hnw, hK, hX, hR, hnm⟩ := C
  intro H locs cells slots ls hH hS hL hO hc hsc
  obtain ⟨x, h1, rfl⟩ := pldS_spec (i := k) hp
  obtain ⟨g1, g2⟩ := hL.get h1 (by decide)
  refine lv_iload hx hb hd g1 ?_
  exact hk H locs cells slots ls hH hS hL (okS_cons g2 hO) hc hsc
theorem sp_iload_n (C : Cx p R s m args meth c M B sb Lx xs D cI cJ cZ d n0) {pc : Nat} {L S : List PV} {h : Hp} {k : Fin 4} (hd : decode (mC M) pc = .ok (.iload_n k, 1)) {q : LS2} (hp : ps (mO M) (.iload_n k) L S = some q) (hk : SimP p l e R s m args below meth c Zf M B sb Lx xs D cI cJ cZ n0 b0 (pc + 1) q.1 q.2 h) : SimP p l e R s m args below meth c Zf M B sb Lx xs D cI cJ cZ n0 b0 pc L S h := by
  obtain ⟨hx, hb, hml, hown, hts, hnw, hK, hX, hR, hnm⟩ := C
  intro H locs cells slots ls hH hS hL hO hc hsc
  obtain ⟨x, h1, rfl⟩ := pldS_spec (i := k.val) hp
  obtain ⟨g1, g2⟩ := hL.get h1 (by decide)
  refine lv_iload_n hx hb hd rfl g1 ?_
  exact hk H locs cells slots ls hH hS hL (okS_cons g2 hO) hc hsc
theorem sp_lload (C : Cx p R s m args meth c M B sb Lx xs D cI cJ cZ d n0) {pc : Nat} {L S : List PV} {h : Hp} {k : Nat} (hd : decode (mC M) pc = .ok (.lload k, 2)) {q : LS2} (hp : ps (mO M) (.lload k) L S = some q) (hk : SimP p l e R s m args below meth c Zf M B sb Lx xs D cI cJ cZ n0 b0 (pc + 2) q.1 q.2 h) : SimP p l e R s m args below meth c Zf M B sb Lx xs D cI cJ cZ n0 b0 pc L S h := by
  obtain ⟨hx, hb, hml, hown, hts, hnw, hK, hX, hR, hnm⟩ := C
  intro H locs cells slots ls hH hS hL hO hc hsc
  obtain ⟨x, h1, rfl⟩ := pldS_spec (i := k) hp
  obtain ⟨g1, g2⟩ := hL.get h1 (by decide)
  refine lv_lload hx hb hd g1 ?_
  exact hk H locs cells slots ls hH hS hL (okS_cons g2 hO) hc hsc
theorem sp_lload_n (C : Cx p R s m args meth c M B sb Lx xs D cI cJ cZ d n0) {pc : Nat} {L S : List PV} {h : Hp} {k : Fin 4} (hd : decode (mC M) pc = .ok (.lload_n k, 1)) {q : LS2} (hp : ps (mO M) (.lload_n k) L S = some q) (hk : SimP p l e R s m args below meth c Zf M B sb Lx xs D cI cJ cZ n0 b0 (pc + 1) q.1 q.2 h) : SimP p l e R s m args below meth c Zf M B sb Lx xs D cI cJ cZ n0 b0 pc L S h := by
  obtain ⟨hx, hb, hml, hown, hts, hnw, hK, hX, hR, hnm⟩ := C
  intro H locs cells slots ls hH hS hL hO hc hsc
  obtain ⟨x, h1, rfl⟩ := pldS_spec (i := k.val) hp
  obtain ⟨g1, g2⟩ := hL.get h1 (by decide)
  refine lv_lload_n hx hb hd rfl g1 ?_
  exact hk H locs cells slots ls hH hS hL (okS_cons g2 hO) hc hsc
theorem sp_aload (C : Cx p R s m args meth c M B sb Lx xs D cI cJ cZ d n0) {pc : Nat} {L S : List PV} {h : Hp} {k : Nat} (hd : decode (mC M) pc = .ok (.aload k, 2)) {q : LS2} (hp : ps (mO M) (.aload k) L S = some q) (hk : SimP p l e R s m args below meth c Zf M B sb Lx xs D cI cJ cZ n0 b0 (pc + 2) q.1 q.2 h) : SimP p l e R s m args below meth c Zf M B sb Lx xs D cI cJ cZ n0 b0 pc L S h := by
  obtain ⟨hx, hb, hml, hown, hts, hnw, hK, hX, hR, hnm⟩ := C
  intro H locs cells slots ls hH hS hL hO hc hsc
  obtain ⟨x, h1, rfl⟩ := pldS_spec (i := k) hp
  obtain ⟨g1, g2⟩ := hL.get h1 (by decide)
  have K := hk H locs cells slots ls hH hS hL (okS_cons g2 hO) hc hsc
  simp only [List.map_cons] at K
  by_cases hn : x = -1
  · subst hn
    exact lv_aloadN hx hb hd g1 K
  · rw [vl2 B sb hn] at g1 K
    exact lv_aload hx hb hd g1 K
theorem sp_aload_n (C : Cx p R s m args meth c M B sb Lx xs D cI cJ cZ d n0) {pc : Nat} {L S : List PV} {h : Hp} {k : Fin 4} (hd : decode (mC M) pc = .ok (.aload_n k, 1)) {q : LS2} (hp : ps (mO M) (.aload_n k) L S = some q) (hk : SimP p l e R s m args below meth c Zf M B sb Lx xs D cI cJ cZ n0 b0 (pc + 1) q.1 q.2 h) : SimP p l e R s m args below meth c Zf M B sb Lx xs D cI cJ cZ n0 b0 pc L S h := by
  obtain ⟨hx, hb, hml, hown, hts, hnw, hK, hX, hR, hnm⟩ := C
  intro H locs cells slots ls hH hS hL hO hc hsc
  obtain ⟨x, h1, rfl⟩ := pldS_spec (i := k.val) hp
  obtain ⟨g1, g2⟩ := hL.get h1 (by decide)
  have K := hk H locs cells slots ls hH hS hL (okS_cons g2 hO) hc hsc
  simp only [List.map_cons] at K
  by_cases hn : x = -1
  · subst hn
    exact lv_aload_nN hx hb hd rfl g1 K
  · rw [vl2 B sb hn] at g1 K
    exact lv_aload_n hx hb hd rfl g1 K
theorem sp_istore (C : Cx p R s m args meth c M B sb Lx xs D cI cJ cZ d n0) {pc : Nat} {L S : List PV} {h : Hp} {k : Nat} (hd : decode (mC M) pc = .ok (.istore k, 2)) {q : LS2} (hp : ps (mO M) (.istore k) L S = some q) (hk : SimP p l e R s m args below meth c Zf M B sb Lx xs D cI cJ cZ n0 b0 (pc + 2) q.1 q.2 h) : SimP p l e R s m args below meth c Zf M B sb Lx xs D cI cJ cZ n0 b0 pc L S h := by
  obtain ⟨hx, hb, hml, hown, hts, hnw, hK, hX, hR, hnm⟩ := C
  intro H locs cells slots ls hH hS hL hO hc hsc
  obtain ⟨x, S', L', rfl, h1, rfl⟩ := pstI_spec (i := k) hp
  have hv := hO _ List.mem_cons_self
  refine lv_istore hx hb hd hL.2.2 (by rw [← hL.1]; exact pst1_lt h1) rfl (fun ls1 hl1 => ?_)
  exact hk H locs cells slots ls1 hH hS (hL.set1 hv (show (0 : Nat) ≠ 1 by decide) h1 hl1) (fun u hu => hO u (List.mem_cons_of_mem _ hu)) hc hsc
theorem sp_istore_n (C : Cx p R s m args meth c M B sb Lx xs D cI cJ cZ d n0) {pc : Nat} {L S : List PV} {h : Hp} {k : Fin 4} (hd : decode (mC M) pc = .ok (.istore_n k, 1)) {q : LS2} (hp : ps (mO M) (.istore_n k) L S = some q) (hk : SimP p l e R s m args below meth c Zf M B sb Lx xs D cI cJ cZ n0 b0 (pc + 1) q.1 q.2 h) : SimP p l e R s m args below meth c Zf M B sb Lx xs D cI cJ cZ n0 b0 pc L S h := by
  obtain ⟨hx, hb, hml, hown, hts, hnw, hK, hX, hR, hnm⟩ := C
  intro H locs cells slots ls hH hS hL hO hc hsc
  obtain ⟨x, S', L', rfl, h1, rfl⟩ := pstI_spec (i := k.val) hp
  have hv := hO _ List.mem_cons_self
  refine lv_istore_n hx hb hd rfl hL.2.2 (by rw [← hL.1]; exact pst1_lt h1) rfl (fun ls1 hl1 => ?_)
  exact hk H locs cells slots ls1 hH hS (hL.set1 hv (show (0 : Nat) ≠ 1 by decide) h1 hl1) (fun u hu => hO u (List.mem_cons_of_mem _ hu)) hc hsc
theorem sp_astore (C : Cx p R s m args meth c M B sb Lx xs D cI cJ cZ d n0) {pc : Nat} {L S : List PV} {h : Hp} {k : Nat} (hd : decode (mC M) pc = .ok (.astore k, 2)) {q : LS2} (hp : ps (mO M) (.astore k) L S = some q) (hk : SimP p l e R s m args below meth c Zf M B sb Lx xs D cI cJ cZ n0 b0 (pc + 2) q.1 q.2 h) : SimP p l e R s m args below meth c Zf M B sb Lx xs D cI cJ cZ n0 b0 pc L S h := by
  obtain ⟨hx, hb, hml, hown, hts, hnw, hK, hX, hR, hnm⟩ := C
  intro H locs cells slots ls hH hS hL hO hc hsc
  obtain ⟨x, S', L', rfl, h1, rfl⟩ := pstI_spec (i := k) hp
  have hv := hO _ List.mem_cons_self
  refine lv_astoreV hx hb hd hL.2.2 (by rw [← hL.1]; exact pst1_lt h1) rfl (fun ls1 hl1 => ?_)
  exact hk H locs cells slots ls1 hH hS (hL.set1 hv (show (2 : Nat) ≠ 1 by decide) h1 hl1) (fun u hu => hO u (List.mem_cons_of_mem _ hu)) hc hsc
theorem sp_astore_n (C : Cx p R s m args meth c M B sb Lx xs D cI cJ cZ d n0) {pc : Nat} {L S : List PV} {h : Hp} {k : Fin 4} (hd : decode (mC M) pc = .ok (.astore_n k, 1)) {q : LS2} (hp : ps (mO M) (.astore_n k) L S = some q) (hk : SimP p l e R s m args below meth c Zf M B sb Lx xs D cI cJ cZ n0 b0 (pc + 1) q.1 q.2 h) : SimP p l e R s m args below meth c Zf M B sb Lx xs D cI cJ cZ n0 b0 pc L S h := by
  obtain ⟨hx, hb, hml, hown, hts, hnw, hK, hX, hR, hnm⟩ := C
  intro H locs cells slots ls hH hS hL hO hc hsc
  obtain ⟨x, S', L', rfl, h1, rfl⟩ := pstI_spec (i := k.val) hp
  have hv := hO _ List.mem_cons_self
  refine lv_astore_nV hx hb hd rfl hL.2.2 (by rw [← hL.1]; exact pst1_lt h1) rfl (fun ls1 hl1 => ?_)
  exact hk H locs cells slots ls1 hH hS (hL.set1 hv (show (2 : Nat) ≠ 1 by decide) h1 hl1) (fun u hu => hO u (List.mem_cons_of_mem _ hu)) hc hsc
theorem sp_lstore (C : Cx p R s m args meth c M B sb Lx xs D cI cJ cZ d n0) {pc : Nat} {L S : List PV} {h : Hp} {k : Nat} (hd : decode (mC M) pc = .ok (.lstore k, 2)) {q : LS2} (hp : ps (mO M) (.lstore k) L S = some q) (hk : SimP p l e R s m args below meth c Zf M B sb Lx xs D cI cJ cZ n0 b0 (pc + 2) q.1 q.2 h) : SimP p l e R s m args below meth c Zf M B sb Lx xs D cI cJ cZ n0 b0 pc L S h := by
  obtain ⟨hx, hb, hml, hown, hts, hnw, hK, hX, hR, hnm⟩ := C
  intro H locs cells slots ls hH hS hL hO hc hsc
  obtain ⟨x, S', L', rfl, h1, rfl⟩ := pstL_spec (i := k) hp
  have hv := hO _ List.mem_cons_self
  refine lv_lstore hx hb hd hL.2.2 (by rw [← hL.1]; exact pst2_lt h1) rfl (fun ls1 hl1 => ?_)
  exact hk H locs cells slots ls1 hH hS (hL.set2 hv h1 hl1) (fun u hu => hO u (List.mem_cons_of_mem _ hu)) hc hsc
theorem sp_lstore_n (C : Cx p R s m args meth c M B sb Lx xs D cI cJ cZ d n0) {pc : Nat} {L S : List PV} {h : Hp} {k : Fin 4} (hd : decode (mC M) pc = .ok (.lstore_n k, 1)) {q : LS2} (hp : ps (mO M) (.lstore_n k) L S = some q) (hk : SimP p l e R s m args below meth c Zf M B sb Lx xs D cI cJ cZ n0 b0 (pc + 1) q.1 q.2 h) : SimP p l e R s m args below meth c Zf M B sb Lx xs D cI cJ cZ n0 b0 pc L S h := by
  obtain ⟨hx, hb, hml, hown, hts, hnw, hK, hX, hR, hnm⟩ := C
  intro H locs cells slots ls hH hS hL hO hc hsc
  obtain ⟨x, S', L', rfl, h1, rfl⟩ := pstL_spec (i := k.val) hp
  have hv := hO _ List.mem_cons_self
  refine lv_lstore_n hx hb hd rfl hL.2.2 (by rw [← hL.1]; exact pst2_lt h1) rfl (fun ls1 hl1 => ?_)
  exact hk H locs cells slots ls1 hH hS (hL.set2 hv h1 hl1) (fun u hu => hO u (List.mem_cons_of_mem _ hu)) hc hsc
theorem sp_iinc (C : Cx p R s m args meth c M B sb Lx xs D cI cJ cZ d n0) {pc : Nat} {L S : List PV} {h : Hp} {k : Nat} {n : Int} (hd : decode (mC M) pc = .ok (.iinc k n, 3)) {q : LS2} (hp : ps (mO M) (.iinc k n) L S = some q) (hk : SimP p l e R s m args below meth c Zf M B sb Lx xs D cI cJ cZ n0 b0 (pc + 3) q.1 q.2 h) : SimP p l e R s m args below meth c Zf M B sb Lx xs D cI cJ cZ n0 b0 pc L S h := by
  obtain ⟨hx, hb, hml, hown, hts, hnw, hK, hX, hR, hnm⟩ := C
  intro H locs cells slots ls hH hS hL hO hc hsc
  have hp : (match pld L k 0 with | some v => (match pst1 L k (0, w32 (v + n)) with | some L' => some (L', S) | none => none) | none => none) = some q := hp
  split at hp
  · rename_i v hv
    split at hp
    · rename_i L' hs
      obtain rfl := (Option.some.inj hp).symm
      obtain ⟨g1, g2⟩ := hL.get hv (by decide)
      have hlt := pst1_lt hs
      have hmem : (k, Value.int (Int32.ofInt v)) ∈ lvL B sb 0 L := by
        unfold pld at hv
        split at hv
        · rename_i t1 y e1
          split at hv
          · rename_i e2
            obtain rfl := Option.some.inj hv
            subst e2
            have := lvL_mem (B := B) (sb := sb) (i := 0) e1 (show (0 : Nat) ≤ 2 by decide)
            rwa [Nat.zero_add] at this
          · cases hv
        · cases hv
      obtain ⟨z, hz⟩ := List.getElem?_of_mem hmem
      refine lv_iinc (x := Int32.ofInt v) (v := Int32.ofInt (w32 (v + n))) hx hb hd hL.2.2 hz (by rw [o_con n, o_add g2 (w32_in n)]; exact congrArg Int32.ofInt (by unfold w32; omega)) (by rw [← hL.1]; exact hlt) rfl (fun ls1 hl1 => ?_)
      exact hk H locs cells slots ls1 hH hS (hL.set1 (v := (0, w32 (v + n))) (show in32 _ from w32_in _) (show (0 : Nat) ≠ 1 by decide) hs hl1) hO hc hsc
    · cases hp
  · cases hp
theorem sp_iadd (C : Cx p R s m args meth c M B sb Lx xs D cI cJ cZ d n0) {pc : Nat} {L S : List PV} {h : Hp}  (hd : decode (mC M) pc = .ok (.iadd, 1)) {q : LS2} (hp : ps (mO M) (.iadd) L S = some q) (hk : SimP p l e R s m args below meth c Zf M B sb Lx xs D cI cJ cZ n0 b0 (pc + 1) q.1 q.2 h) : SimP p l e R s m args below meth c Zf M B sb Lx xs D cI cJ cZ n0 b0 pc L S h := by
  obtain ⟨hx, hb, hml, hown, hts, hnw, hK, hX, hR, hnm⟩ := C
  intro H locs cells slots ls hH hS hL hO hc hsc
  have hp : pop2 0 0 (fun a b => some (w32 (a + b))) L S = some q := hp
  obtain ⟨a, b, S', v, rfl, h1, rfl⟩ := pop2_spec hp
  obtain rfl := Option.some.inj h1
  have hb1 := hO _ List.mem_cons_self
  have ha1 := hO _ (List.mem_cons_of_mem _ List.mem_cons_self)
  have hO2 : ∀ u ∈ S', okv (h (-3) 0) u := fun u hu => hO u (List.mem_cons_of_mem _ (List.mem_cons_of_mem _ hu))
  have K := hk H locs cells slots ls hH hS hL (okS_cons (show in32 _ from w32_in _) hO2) hc hsc
  simp only [List.map_cons] at K ⊢
  rw [vl0] at K
  rw [← o_add ha1 hb1] at K
  exact lv_iadd hx hb hd K
theorem sp_isub (C : Cx p R s m args meth c M B sb Lx xs D cI cJ cZ d n0) {pc : Nat} {L S : List PV} {h : Hp}  (hd : decode (mC M) pc = .ok (.isub, 1)) {q : LS2} (hp : ps (mO M) (.isub) L S = some q) (hk : SimP p l e R s m args below meth c Zf M B sb Lx xs D cI cJ cZ n0 b0 (pc + 1) q.1 q.2 h) : SimP p l e R s m args below meth c Zf M B sb Lx xs D cI cJ cZ n0 b0 pc L S h := by
  obtain ⟨hx, hb, hml, hown, hts, hnw, hK, hX, hR, hnm⟩ := C
  intro H locs cells slots ls hH hS hL hO hc hsc
  have hp : pop2 0 0 (fun a b => some (w32 (a - b))) L S = some q := hp
  obtain ⟨a, b, S', v, rfl, h1, rfl⟩ := pop2_spec hp
  obtain rfl := Option.some.inj h1
  have hb1 := hO _ List.mem_cons_self
  have ha1 := hO _ (List.mem_cons_of_mem _ List.mem_cons_self)
  have hO2 : ∀ u ∈ S', okv (h (-3) 0) u := fun u hu => hO u (List.mem_cons_of_mem _ (List.mem_cons_of_mem _ hu))
  have K := hk H locs cells slots ls hH hS hL (okS_cons (show in32 _ from w32_in _) hO2) hc hsc
  simp only [List.map_cons] at K ⊢
  rw [vl0] at K
  rw [← o_sub ha1 hb1] at K
  exact lv_isub hx hb hd K
theorem sp_imul (C : Cx p R s m args meth c M B sb Lx xs D cI cJ cZ d n0) {pc : Nat} {L S : List PV} {h : Hp}  (hd : decode (mC M) pc = .ok (.imul, 1)) {q : LS2} (hp : ps (mO M) (.imul) L S = some q) (hk : SimP p l e R s m args below meth c Zf M B sb Lx xs D cI cJ cZ n0 b0 (pc + 1) q.1 q.2 h) : SimP p l e R s m args below meth c Zf M B sb Lx xs D cI cJ cZ n0 b0 pc L S h := by
  obtain ⟨hx, hb, hml, hown, hts, hnw, hK, hX, hR, hnm⟩ := C
  intro H locs cells slots ls hH hS hL hO hc hsc
  have hp : pop2 0 0 (fun a b => some (w32 (a * b))) L S = some q := hp
  obtain ⟨a, b, S', v, rfl, h1, rfl⟩ := pop2_spec hp
  obtain rfl := Option.some.inj h1
  have hb1 := hO _ List.mem_cons_self
  have ha1 := hO _ (List.mem_cons_of_mem _ List.mem_cons_self)
  have hO2 : ∀ u ∈ S', okv (h (-3) 0) u := fun u hu => hO u (List.mem_cons_of_mem _ (List.mem_cons_of_mem _ hu))
  have K := hk H locs cells slots ls hH hS hL (okS_cons (show in32 _ from w32_in _) hO2) hc hsc
  simp only [List.map_cons] at K ⊢
  rw [vl0] at K
  rw [← o_mul ha1 hb1] at K
  exact lv_imul hx hb hd K
theorem sp_iand (C : Cx p R s m args meth c M B sb Lx xs D cI cJ cZ d n0) {pc : Nat} {L S : List PV} {h : Hp}  (hd : decode (mC M) pc = .ok (.iand, 1)) {q : LS2} (hp : ps (mO M) (.iand) L S = some q) (hk : SimP p l e R s m args below meth c Zf M B sb Lx xs D cI cJ cZ n0 b0 (pc + 1) q.1 q.2 h) : SimP p l e R s m args below meth c Zf M B sb Lx xs D cI cJ cZ n0 b0 pc L S h := by
  obtain ⟨hx, hb, hml, hown, hts, hnw, hK, hX, hR, hnm⟩ := C
  intro H locs cells slots ls hH hS hL hO hc hsc
  have hp : pop2 0 0 (fun a b => some (i32op (fun x y => x &&& y) a b)) L S = some q := hp
  obtain ⟨a, b, S', v, rfl, h1, rfl⟩ := pop2_spec hp
  obtain rfl := Option.some.inj h1
  have hb1 := hO _ List.mem_cons_self
  have ha1 := hO _ (List.mem_cons_of_mem _ List.mem_cons_self)
  have hO2 : ∀ u ∈ S', okv (h (-3) 0) u := fun u hu => hO u (List.mem_cons_of_mem _ (List.mem_cons_of_mem _ hu))
  have K := hk H locs cells slots ls hH hS hL (okS_cons (show in32 (i32op (fun x y => x &&& y) a b) from i32op_in (fun x y => x &&& y) a b) hO2) hc hsc
  simp only [List.map_cons] at K ⊢
  rw [vl0] at K
  rw [← i32op_eq (fun x y => x &&& y) a b] at K
  exact lv_iand hx hb hd K
theorem sp_ior (C : Cx p R s m args meth c M B sb Lx xs D cI cJ cZ d n0) {pc : Nat} {L S : List PV} {h : Hp}  (hd : decode (mC M) pc = .ok (.ior, 1)) {q : LS2} (hp : ps (mO M) (.ior) L S = some q) (hk : SimP p l e R s m args below meth c Zf M B sb Lx xs D cI cJ cZ n0 b0 (pc + 1) q.1 q.2 h) : SimP p l e R s m args below meth c Zf M B sb Lx xs D cI cJ cZ n0 b0 pc L S h := by
  obtain ⟨hx, hb, hml, hown, hts, hnw, hK, hX, hR, hnm⟩ := C
  intro H locs cells slots ls hH hS hL hO hc hsc
  have hp : pop2 0 0 (fun a b => some (i32op (fun x y => x ||| y) a b)) L S = some q := hp
  obtain ⟨a, b, S', v, rfl, h1, rfl⟩ := pop2_spec hp
  obtain rfl := Option.some.inj h1
  have hb1 := hO _ List.mem_cons_self
  have ha1 := hO _ (List.mem_cons_of_mem _ List.mem_cons_self)
  have hO2 : ∀ u ∈ S', okv (h (-3) 0) u := fun u hu => hO u (List.mem_cons_of_mem _ (List.mem_cons_of_mem _ hu))
  have K := hk H locs cells slots ls hH hS hL (okS_cons (show in32 (i32op (fun x y => x ||| y) a b) from i32op_in (fun x y => x ||| y) a b) hO2) hc hsc
  simp only [List.map_cons] at K ⊢
  rw [vl0] at K
  rw [← i32op_eq (fun x y => x ||| y) a b] at K
  exact lv_ior hx hb hd K
theorem sp_ixor (C : Cx p R s m args meth c M B sb Lx xs D cI cJ cZ d n0) {pc : Nat} {L S : List PV} {h : Hp}  (hd : decode (mC M) pc = .ok (.ixor, 1)) {q : LS2} (hp : ps (mO M) (.ixor) L S = some q) (hk : SimP p l e R s m args below meth c Zf M B sb Lx xs D cI cJ cZ n0 b0 (pc + 1) q.1 q.2 h) : SimP p l e R s m args below meth c Zf M B sb Lx xs D cI cJ cZ n0 b0 pc L S h := by
  obtain ⟨hx, hb, hml, hown, hts, hnw, hK, hX, hR, hnm⟩ := C
  intro H locs cells slots ls hH hS hL hO hc hsc
  have hp : pop2 0 0 (fun a b => some (i32op (fun x y => x ^^^ y) a b)) L S = some q := hp
  obtain ⟨a, b, S', v, rfl, h1, rfl⟩ := pop2_spec hp
  obtain rfl := Option.some.inj h1
  have hb1 := hO _ List.mem_cons_self
  have ha1 := hO _ (List.mem_cons_of_mem _ List.mem_cons_self)
  have hO2 : ∀ u ∈ S', okv (h (-3) 0) u := fun u hu => hO u (List.mem_cons_of_mem _ (List.mem_cons_of_mem _ hu))
  have K := hk H locs cells slots ls hH hS hL (okS_cons (show in32 (i32op (fun x y => x ^^^ y) a b) from i32op_in (fun x y => x ^^^ y) a b) hO2) hc hsc
  simp only [List.map_cons] at K ⊢
  rw [vl0] at K
  rw [← i32op_eq (fun x y => x ^^^ y) a b] at K
  exact lv_ixor hx hb hd K
theorem sp_ishl (C : Cx p R s m args meth c M B sb Lx xs D cI cJ cZ d n0) {pc : Nat} {L S : List PV} {h : Hp}  (hd : decode (mC M) pc = .ok (.ishl, 1)) {q : LS2} (hp : ps (mO M) (.ishl) L S = some q) (hk : SimP p l e R s m args below meth c Zf M B sb Lx xs D cI cJ cZ n0 b0 (pc + 1) q.1 q.2 h) : SimP p l e R s m args below meth c Zf M B sb Lx xs D cI cJ cZ n0 b0 pc L S h := by
  obtain ⟨hx, hb, hml, hown, hts, hnw, hK, hX, hR, hnm⟩ := C
  intro H locs cells slots ls hH hS hL hO hc hsc
  have hp : pop2 0 0 (fun a b => some (i32op (fun x y => x <<< (y &&& 31)) a b)) L S = some q := hp
  obtain ⟨a, b, S', v, rfl, h1, rfl⟩ := pop2_spec hp
  obtain rfl := Option.some.inj h1
  have hb1 := hO _ List.mem_cons_self
  have ha1 := hO _ (List.mem_cons_of_mem _ List.mem_cons_self)
  have hO2 : ∀ u ∈ S', okv (h (-3) 0) u := fun u hu => hO u (List.mem_cons_of_mem _ (List.mem_cons_of_mem _ hu))
  have K := hk H locs cells slots ls hH hS hL (okS_cons (show in32 (i32op (fun x y => x <<< (y &&& 31)) a b) from i32op_in (fun x y => x <<< (y &&& 31)) a b) hO2) hc hsc
  simp only [List.map_cons] at K ⊢
  rw [vl0] at K
  rw [← i32op_eq (fun x y => x <<< (y &&& 31)) a b] at K
  exact lv_ishl hx hb hd K
theorem sp_ishr (C : Cx p R s m args meth c M B sb Lx xs D cI cJ cZ d n0) {pc : Nat} {L S : List PV} {h : Hp}  (hd : decode (mC M) pc = .ok (.ishr, 1)) {q : LS2} (hp : ps (mO M) (.ishr) L S = some q) (hk : SimP p l e R s m args below meth c Zf M B sb Lx xs D cI cJ cZ n0 b0 (pc + 1) q.1 q.2 h) : SimP p l e R s m args below meth c Zf M B sb Lx xs D cI cJ cZ n0 b0 pc L S h := by
  obtain ⟨hx, hb, hml, hown, hts, hnw, hK, hX, hR, hnm⟩ := C
  intro H locs cells slots ls hH hS hL hO hc hsc
  have hp : pop2 0 0 (fun a b => some (i32op (fun x y => x >>> (y &&& 31)) a b)) L S = some q := hp
  obtain ⟨a, b, S', v, rfl, h1, rfl⟩ := pop2_spec hp
  obtain rfl := Option.some.inj h1
  have hb1 := hO _ List.mem_cons_self
  have ha1 := hO _ (List.mem_cons_of_mem _ List.mem_cons_self)
  have hO2 : ∀ u ∈ S', okv (h (-3) 0) u := fun u hu => hO u (List.mem_cons_of_mem _ (List.mem_cons_of_mem _ hu))
  have K := hk H locs cells slots ls hH hS hL (okS_cons (show in32 (i32op (fun x y => x >>> (y &&& 31)) a b) from i32op_in (fun x y => x >>> (y &&& 31)) a b) hO2) hc hsc
  simp only [List.map_cons] at K ⊢
  rw [vl0] at K
  rw [← i32op_eq (fun x y => x >>> (y &&& 31)) a b] at K
  exact lv_ishr hx hb hd K
theorem sp_ladd (C : Cx p R s m args meth c M B sb Lx xs D cI cJ cZ d n0) {pc : Nat} {L S : List PV} {h : Hp}  (hd : decode (mC M) pc = .ok (.ladd, 1)) {q : LS2} (hp : ps (mO M) (.ladd) L S = some q) (hk : SimP p l e R s m args below meth c Zf M B sb Lx xs D cI cJ cZ n0 b0 (pc + 1) q.1 q.2 h) : SimP p l e R s m args below meth c Zf M B sb Lx xs D cI cJ cZ n0 b0 pc L S h := by
  obtain ⟨hx, hb, hml, hown, hts, hnw, hK, hX, hR, hnm⟩ := C
  intro H locs cells slots ls hH hS hL hO hc hsc
  have hp : pop2 1 1 (fun a b => some (w64 (a + b))) L S = some q := hp
  obtain ⟨a, b, S', v, rfl, h1, rfl⟩ := pop2_spec hp
  obtain rfl := Option.some.inj h1
  have hb1 := hO _ List.mem_cons_self
  have ha1 := hO _ (List.mem_cons_of_mem _ List.mem_cons_self)
  have hO2 : ∀ u ∈ S', okv (h (-3) 0) u := fun u hu => hO u (List.mem_cons_of_mem _ (List.mem_cons_of_mem _ hu))
  have K := hk H locs cells slots ls hH hS hL (okS_cons (show in64 _ from w64_in _) hO2) hc hsc
  simp only [List.map_cons] at K ⊢
  rw [vl1] at K
  rw [← p_add ha1 hb1] at K
  exact lv_ladd hx hb hd K
theorem sp_lsub (C : Cx p R s m args meth c M B sb Lx xs D cI cJ cZ d n0) {pc : Nat} {L S : List PV} {h : Hp}  (hd : decode (mC M) pc = .ok (.lsub, 1)) {q : LS2} (hp : ps (mO M) (.lsub) L S = some q) (hk : SimP p l e R s m args below meth c Zf M B sb Lx xs D cI cJ cZ n0 b0 (pc + 1) q.1 q.2 h) : SimP p l e R s m args below meth c Zf M B sb Lx xs D cI cJ cZ n0 b0 pc L S h := by
  obtain ⟨hx, hb, hml, hown, hts, hnw, hK, hX, hR, hnm⟩ := C
  intro H locs cells slots ls hH hS hL hO hc hsc
  have hp : pop2 1 1 (fun a b => some (w64 (a - b))) L S = some q := hp
  obtain ⟨a, b, S', v, rfl, h1, rfl⟩ := pop2_spec hp
  obtain rfl := Option.some.inj h1
  have hb1 := hO _ List.mem_cons_self
  have ha1 := hO _ (List.mem_cons_of_mem _ List.mem_cons_self)
  have hO2 : ∀ u ∈ S', okv (h (-3) 0) u := fun u hu => hO u (List.mem_cons_of_mem _ (List.mem_cons_of_mem _ hu))
  have K := hk H locs cells slots ls hH hS hL (okS_cons (show in64 _ from w64_in _) hO2) hc hsc
  simp only [List.map_cons] at K ⊢
  rw [vl1] at K
  rw [← p_sub ha1 hb1] at K
  exact lv_lsub hx hb hd K
theorem sp_lmul (C : Cx p R s m args meth c M B sb Lx xs D cI cJ cZ d n0) {pc : Nat} {L S : List PV} {h : Hp}  (hd : decode (mC M) pc = .ok (.lmul, 1)) {q : LS2} (hp : ps (mO M) (.lmul) L S = some q) (hk : SimP p l e R s m args below meth c Zf M B sb Lx xs D cI cJ cZ n0 b0 (pc + 1) q.1 q.2 h) : SimP p l e R s m args below meth c Zf M B sb Lx xs D cI cJ cZ n0 b0 pc L S h := by
  obtain ⟨hx, hb, hml, hown, hts, hnw, hK, hX, hR, hnm⟩ := C
  intro H locs cells slots ls hH hS hL hO hc hsc
  have hp : pop2 1 1 (fun a b => some (w64 (a * b))) L S = some q := hp
  obtain ⟨a, b, S', v, rfl, h1, rfl⟩ := pop2_spec hp
  obtain rfl := Option.some.inj h1
  have hb1 := hO _ List.mem_cons_self
  have ha1 := hO _ (List.mem_cons_of_mem _ List.mem_cons_self)
  have hO2 : ∀ u ∈ S', okv (h (-3) 0) u := fun u hu => hO u (List.mem_cons_of_mem _ (List.mem_cons_of_mem _ hu))
  have K := hk H locs cells slots ls hH hS hL (okS_cons (show in64 _ from w64_in _) hO2) hc hsc
  simp only [List.map_cons] at K ⊢
  rw [vl1] at K
  rw [← p_mul ha1 hb1] at K
  exact lv_lmul hx hb hd K
theorem sp_lcmp (C : Cx p R s m args meth c M B sb Lx xs D cI cJ cZ d n0) {pc : Nat} {L S : List PV} {h : Hp}  (hd : decode (mC M) pc = .ok (.lcmp, 1)) {q : LS2} (hp : ps (mO M) (.lcmp) L S = some q) (hk : SimP p l e R s m args below meth c Zf M B sb Lx xs D cI cJ cZ n0 b0 (pc + 1) q.1 q.2 h) : SimP p l e R s m args below meth c Zf M B sb Lx xs D cI cJ cZ n0 b0 pc L S h := by
  obtain ⟨hx, hb, hml, hown, hts, hnw, hK, hX, hR, hnm⟩ := C
  intro H locs cells slots ls hH hS hL hO hc hsc
  have hp : pop2 1 0 (fun a b => some (lcmpI a b)) L S = some q := hp
  obtain ⟨a, b, S', v, rfl, h1, rfl⟩ := pop2_spec hp
  obtain rfl := Option.some.inj h1
  have hb1 := hO _ List.mem_cons_self
  have ha1 := hO _ (List.mem_cons_of_mem _ List.mem_cons_self)
  have hO2 : ∀ u ∈ S', okv (h (-3) 0) u := fun u hu => hO u (List.mem_cons_of_mem _ (List.mem_cons_of_mem _ hu))
  have K := hk H locs cells slots ls hH hS hL (okS_cons (show in32 _ from lcmp_in _ _) hO2) hc hsc
  simp only [List.map_cons] at K ⊢
  rw [vl0] at K
  rw [← o_cmp ha1 hb1] at K
  exact W.lcmp hx hb hd K
theorem sp_i2l (C : Cx p R s m args meth c M B sb Lx xs D cI cJ cZ d n0) {pc : Nat} {L S : List PV} {h : Hp}  (hd : decode (mC M) pc = .ok (.i2l, 1)) {q : LS2} (hp : ps (mO M) (.i2l) L S = some q) (hk : SimP p l e R s m args below meth c Zf M B sb Lx xs D cI cJ cZ n0 b0 (pc + 1) q.1 q.2 h) : SimP p l e R s m args below meth c Zf M B sb Lx xs D cI cJ cZ n0 b0 pc L S h := by
  obtain ⟨hx, hb, hml, hown, hts, hnw, hK, hX, hR, hnm⟩ := C
  intro H locs cells slots ls hH hS hL hO hc hsc
  have hp : pop1 0 1 (fun a => a) L S = some q := hp
  obtain ⟨a, S', rfl, rfl⟩ := pop1_spec hp
  have ha1 := hO _ List.mem_cons_self
  have hO2 : ∀ u ∈ S', okv (h (-3) 0) u := fun u hu => hO u (List.mem_cons_of_mem _ hu)
  have K := hk H locs cells slots ls hH hS hL (okS_cons (show in64 _ from in32_64 ha1) hO2) hc hsc
  exact lv_i2l hx hb hd (o_l ha1) K
theorem sp_l2i (C : Cx p R s m args meth c M B sb Lx xs D cI cJ cZ d n0) {pc : Nat} {L S : List PV} {h : Hp}  (hd : decode (mC M) pc = .ok (.l2i, 1)) {q : LS2} (hp : ps (mO M) (.l2i) L S = some q) (hk : SimP p l e R s m args below meth c Zf M B sb Lx xs D cI cJ cZ n0 b0 (pc + 1) q.1 q.2 h) : SimP p l e R s m args below meth c Zf M B sb Lx xs D cI cJ cZ n0 b0 pc L S h := by
  obtain ⟨hx, hb, hml, hown, hts, hnw, hK, hX, hR, hnm⟩ := C
  intro H locs cells slots ls hH hS hL hO hc hsc
  have hp : pop1 1 0 (fun a => w32 a) L S = some q := hp
  obtain ⟨a, S', rfl, rfl⟩ := pop1_spec hp
  have ha1 := hO _ List.mem_cons_self
  have hO2 : ∀ u ∈ S', okv (h (-3) 0) u := fun u hu => hO u (List.mem_cons_of_mem _ hu)
  have K := hk H locs cells slots ls hH hS hL (okS_cons (show in32 _ from w32_in _) hO2) hc hsc
  exact lv_l2i hx hb hd (p_i ha1) K
theorem sp_i2b (C : Cx p R s m args meth c M B sb Lx xs D cI cJ cZ d n0) {pc : Nat} {L S : List PV} {h : Hp}  (hd : decode (mC M) pc = .ok (.i2b, 1)) {q : LS2} (hp : ps (mO M) (.i2b) L S = some q) (hk : SimP p l e R s m args below meth c Zf M B sb Lx xs D cI cJ cZ n0 b0 (pc + 1) q.1 q.2 h) : SimP p l e R s m args below meth c Zf M B sb Lx xs D cI cJ cZ n0 b0 pc L S h := by
  obtain ⟨hx, hb, hml, hown, hts, hnw, hK, hX, hR, hnm⟩ := C
  intro H locs cells slots ls hH hS hL hO hc hsc
  have hp : pop1 0 0 (fun a => w8 a) L S = some q := hp
  obtain ⟨a, S', rfl, rfl⟩ := pop1_spec hp
  have ha1 := hO _ List.mem_cons_self
  have hO2 : ∀ u ∈ S', okv (h (-3) 0) u := fun u hu => hO u (List.mem_cons_of_mem _ hu)
  have K := hk H locs cells slots ls hH hS hL (okS_cons (show in32 _ from w8_in _) hO2) hc hsc
  exact lv_i2b hx hb hd o_b K
theorem sp_dup (C : Cx p R s m args meth c M B sb Lx xs D cI cJ cZ d n0) {pc : Nat} {L S : List PV} {h : Hp}  (hd : decode (mC M) pc = .ok (.dup, 1)) {q : LS2} (hp : ps (mO M) (.dup) L S = some q) (hk : SimP p l e R s m args below meth c Zf M B sb Lx xs D cI cJ cZ n0 b0 (pc + 1) q.1 q.2 h) : SimP p l e R s m args below meth c Zf M B sb Lx xs D cI cJ cZ n0 b0 pc L S h := by
  obtain ⟨hx, hb, hml, hown, hts, hnw, hK, hX, hR, hnm⟩ := C
  intro H locs cells slots ls hH hS hL hO hc hsc
  have hp : pdup L S = some q := hp
  unfold pdup at hp
  split at hp
  · rename_i v S'
    split at hp
    · rename_i e1
      obtain rfl := (Option.some.inj hp).symm
      have hv := hO _ List.mem_cons_self
      exact lv_dup hx hb hd (vl_c1 hv e1) (hk H locs cells slots ls hH hS hL (okS_cons hv hO) hc hsc)
    · cases hp
  · cases hp
theorem sp_pop (C : Cx p R s m args meth c M B sb Lx xs D cI cJ cZ d n0) {pc : Nat} {L S : List PV} {h : Hp}  (hd : decode (mC M) pc = .ok (.pop, 1)) {q : LS2} (hp : ps (mO M) (.pop) L S = some q) (hk : SimP p l e R s m args below meth c Zf M B sb Lx xs D cI cJ cZ n0 b0 (pc + 1) q.1 q.2 h) : SimP p l e R s m args below meth c Zf M B sb Lx xs D cI cJ cZ n0 b0 pc L S h := by
  obtain ⟨hx, hb, hml, hown, hts, hnw, hK, hX, hR, hnm⟩ := C
  intro H locs cells slots ls hH hS hL hO hc hsc
  have hp : pdrop L S = some q := hp
  unfold pdrop at hp
  split at hp
  · rename_i v S'
    split at hp
    · rename_i e1
      obtain rfl := (Option.some.inj hp).symm
      have hv := hO _ List.mem_cons_self
      exact lv_pop hx hb hd (vl_c1 hv e1) (hk H locs cells slots ls hH hS hL (fun u hu => hO u (List.mem_cons_of_mem _ hu)) hc hsc)
    · cases hp
  · cases hp
theorem sp_dup2 (C : Cx p R s m args meth c M B sb Lx xs D cI cJ cZ d n0) {pc : Nat} {L S : List PV} {h : Hp}  (hd : decode (mC M) pc = .ok (.dup2, 1)) {q : LS2} (hp : ps (mO M) (.dup2) L S = some q) (hk : SimP p l e R s m args below meth c Zf M B sb Lx xs D cI cJ cZ n0 b0 (pc + 1) q.1 q.2 h) : SimP p l e R s m args below meth c Zf M B sb Lx xs D cI cJ cZ n0 b0 pc L S h := by
  obtain ⟨hx, hb, hml, hown, hts, hnw, hK, hX, hR, hnm⟩ := C
  intro H locs cells slots ls hH hS hL hO hc hsc
  have hp : pdup2 L S = some q := hp
  unfold pdup2 at hp
  split at hp
  · rename_i v u S'
    split at hp
    · rename_i e1
      obtain rfl := (Option.some.inj hp).symm
      have hv := hO _ List.mem_cons_self
      have hu := hO _ (List.mem_cons_of_mem _ List.mem_cons_self)
      exact lv_dup2_11 hx hb hd (vl_c1 hv e1.1) (vl_c1 hu e1.2) (hk H locs cells slots ls hH hS hL (okS_cons hv (okS_cons hu hO)) hc hsc)
    · cases hp
  · cases hp
end SIMPS
