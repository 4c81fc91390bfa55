/-! calls -/
def wsM (M : MRec) : List Cond := .code (mY M) (mC M) (mX M) (mT M) :: gtbl
def rmM (d : Nat) (M : MRec) : Room := { frames := d, cells := mMc M, slots := mMs M, locals := mRl M }
def BW (B sb Lx : Nat) (xs : Nat → Int32) (D : va_G) (cI cJ cZ : ClassId) (h : Hp) (U : State) : Prop := HRel B sb D cI cJ cZ h U.heap ∧ va_K D vwCl (tysL cI cJ cZ) U ∧ (∀ w ∈ nestW, va_Nw w U) ∧ (va_X sb Lx xs U U.heap ∧ sb < B ∧ (Lx : Int) < 2147483648) ∧ ScrOK Lx xs h
def PcM (B sb Lx : Nat) (xs : Nat → Int32) (D : va_G) (cI cJ cZ : ClassId) (As : List PV) (h : Hp) : Array Value → State → Prop := va_Pc (As.map (vl B sb)) (BW B sb Lx xs D cI cJ cZ h)
def rvl (B sb : Nat) (ret : Option FieldType) (r : Int) : Option Value := if rtg ret = 9 then none else some (vl B sb (rtg ret, r))
def QcM (B sb Lx : Nat) (xs : Nat → Int32) (D : va_G) (cI cJ cZ : ClassId) (M : MRec) (h : Hp) (Q : Int → Hp → Prop) : Array Value → State → Outcome → State → Prop := fun _ st oc t => ∃ (r : Int) (h' : Hp), oc = .returned (rvl B sb (mT M) r) ∧ (rtg (mT M) ≠ 9 → okv (h' (-3) 0) (rtg (mT M), r)) ∧ Q r h' ∧ HRel B sb D cI cJ cZ h' t.heap ∧ (h' (-3) 0 = h (-3) 0 + mMc M ∧ h' (-3) 1 = h (-3) 1 + mMs M) ∧ ScrOK Lx xs h' ∧ st.heap.size ≤ t.heap.size ∧ ∀ q : Nat, q < B → t.heap[q]? = st.heap[q]?
def MetD (l : Launch) (B sb Lx : Nat) (xs : Nat → Int32) (D : va_G) (cI cJ cZ : ClassId) (E : PvEnv) (d : Nat) : Prop := ∀ (M : MRec) (As : List PV) (h : Hp) (Q : Int → Hp → Prop), MOK M → As.map (fun v => v.1) = mA M → awd (mA M) ≤ mX M → (mMc M = 0 → mMs M = 0) → (∀ v ∈ As, okv (h (-3) 0) v) → wpM E d M As h Q → Met l (mY M) (wsM M) (rmM (d - 1) M) (PcM B sb Lx xs D cI cJ cZ As h) (QcM B sb Lx xs D cI cJ cZ M h Q) (mMc M) (mMs M) (fun q => B ≤ q)
theorem nest_on {w : Cond} (h : w ∈ nestW) : w.onTables = true := by
  have h := (List.mem_filter.mp h).2
  unfold isNest at h
  split at h
  · rfl
  · rfl
  · cases h
theorem nest_warm {w : Cond} (h : w ∈ nestW) {s U : State} (hW : s.WarmedH U.vm) (hZ : va_Nw w s) : va_Nw w U := by
  have h := (List.mem_filter.mp h).2
  unfold isNest at h
  split at h
  · exact hZ.warmF hW
  · exact hZ.warmM hW
  · cases h
theorem BW_blind (B sb Lx : Nat) (xs : Nat → Int32) (D : va_G) (cI cJ cZ : ClassId) (As : List PV) (h : Hp) : FrameBlind (PcM B sb Lx xs D cI cJ cZ As h) := by
  intro a U g mk q
  obtain ⟨q0, q1, q2, q3, q4, q5⟩ := q
  exact ⟨q0, q1, va_K.moved (u := U) (U := U.calling g mk a) (Vm.Alike.refl U.vm) q2, fun w hw => va_Nw.same (u := U) (U := U.calling g mk a) (nest_on hw) rfl (q3 w hw), ⟨q4.1.moved (Vm.Alike.refl U.vm), q4.2⟩, q5⟩
theorem good_wsM {M : MRec} (h : MOK M) : GoodIn gtbl (wsM M) := by
  intro w hw
  rcases List.mem_cons.mp hw with e | e
  · rw [e]; exact ⟨h.1, good_of_word rfl⟩
  · exact ⟨e, good_of_word (List.mem_filter.mp e).2⟩
theorem sc_all : calL.all (fun q => decide (2 ≤ q.2.2.2.1 → q.2.2.2.1 ≤ 4 → (mA q.2.2.2.2).head? = some 2)) = true := by decide +kernel
theorem sc_tag {o i kd t : Nat} {M : MRec} (h : calT o i = some (kd, M)) (hk : kd = 2 ∨ kd = 3 ∨ kd = 4) (ht : (mA M).head? = some t) : t = 2 := by
  unfold calT at h
  rw [Option.map_eq_some_iff] at h
  obtain ⟨⟨o', i', p, row⟩, hf, hr⟩ := h
  obtain ⟨hm, -⟩ := find_spec hf
  have := of_decide_eq_true (List.all_eq_true.mp sc_all _ hm)
  dsimp only at hr this
  subst hr
  have := this (by dsimp only; omega) (by dsimp only; omega)
  rw [this] at ht
  exact (Option.some.inj ht).symm
section SIMC
variable {p : Program} {l : Launch} {e : Env} {R : Room} {s : State} {m : MethodId} {args : Array Value} {below : List Frame} {meth : Method} {c : Code} {Zf : State → Prop} {M : MRec} {B sb Lx : Nat} {xs : Nat → Int32} {D : va_G} {cI cJ cZ : ClassId} {d : Nat} {n0 b0 : Int}
theorem W_run {H : Heap} {locs : List Loc} {cells slots mc ms : Nat} {pc : Nat} {ls : Array Slot} {st0 rest : List Value} {Qa : State → Outcome → State → Prop} {free : Addr → Prop} {Q : State → Prop} (hr : va_Run p l e R s m args below meth c H locs cells slots mc ms (F0 m pc ls st0) rest Qa free) (kk : ∀ (v : Option Value) (st₀ t : State) (H1 : Heap) (L1 : List Loc), st₀.heap = H → (∀ q ∈ L1, free q.base) → Qa st₀ (.returned v) t → t.heap = H1 → W p l e R s m args below meth c H1 (locs ++ L1) (cells + mc) (slots + ms) Q (F0 m (pc + 3) ls (v.toList ++ rest))) : W p l e R s m args below meth c H locs cells slots Q (F0 m pc ls st0) := by
  intro T hT X
  obtain ⟨v, st₀, t, T', L, h0, X', hL, e1, e2, hq, st⟩ := hr T hT X
  obtain ⟨t2, a1, b1⟩ := kk v st₀ t T'.heap L h0 hL hq e1.symm T' rfl X'
  exact ⟨t2, st t2 a1, b1⟩
/-- what a call needs of its state -/
theorem BW_here (C : Cx p R s m args meth c M B sb Lx xs D cI cJ cZ d n0) {H : Heap} {locs : List Loc} {h : Hp} (hH : HRel B sb D cI cJ cZ h H) (hS : va_S (fun q => B ≤ q) s.heap H locs) (hsc : ScrOK Lx xs h) : ∀ U : State, U.heap = H → s.WarmedH U.vm → BW B sb Lx xs D cI cJ cZ h U := by
  obtain ⟨hx, hb, hml, hown, hts, hnw, hK, hX, hR, hnm⟩ := C
  intro U hU hW
  refine ⟨by rw [hU]; exact hH, va_K.moved hW.alike hK, fun w hw => nest_warm hw hW (hnw w hw), ⟨(hX.1.moved hW.alike).kept ?_, hX.2.1, hX.2.2.2⟩, hsc⟩
  rw [hU]
  exact hS.2.1 sb (by have := hX.2.1; have := hX.2.2.1.1; omega) (Nat.not_le.mpr hX.2.1)
/-- behind a call -/
theorem sc_back (C : Cx p R s m args meth c M B sb Lx xs D cI cJ cZ d n0) {pc : Nat} {L : List PV} {h : Hp} {M' : MRec} {rest : List PV} {H : Heap} {locs : List Loc} {cells slots : Nat} {ls : Array Slot} {st0 : List Value} {a : Array Value} (hH : HRel B sb D cI cJ cZ h H) (hS : va_S (fun q => B ≤ q) s.heap H locs) (hL : LRel B sb (mX M) (h (-3) 0) L ls) (hO : ∀ v ∈ rest, okv (h (-3) 0) v) (hc : (cells : Int) = h (-3) 0 - n0 ∧ (slots : Int) = h (-3) 1 - b0 ∧ cells ≤ R.cells ∧ slots ≤ R.slots) (hf : cells + mMc M' ≤ R.cells ∧ slots + mMs M' ≤ R.slots)
    (hr : va_Run p l e R s m args below meth c H locs cells slots (mMc M') (mMs M') (F0 m pc ls st0) (rest.map (vl B sb)) (QcM B sb Lx xs D cI cJ cZ M' h (fun r h' => SimP p l e R s m args below meth c Zf M B sb Lx xs D cI cJ cZ n0 b0 (pc + 3) L (ppushR (rtg (mT M')) r rest) h') a) (fun q => B ≤ q)) : W p l e R s m args below meth c H locs cells slots Zf (F0 m pc ls st0) := by
  refine W_run hr (fun v st₀ t H1 L1 e0 hL1 hq e1 => ?_)
  obtain ⟨r, h', q1, q2, q3, q4, ⟨q5, q6⟩, q7, q8, q9⟩ := hq
  cases q1
  rw [e1] at q4 q8 q9
  rw [e0] at q8 q9
  have hS1 : va_S (fun q => B ≤ q) s.heap H1 (locs ++ L1) := ⟨Nat.le_trans hS.1 q8, fun q g1 g2 => by rw [q9 q (Nat.lt_of_not_le g2)]; exact hS.2.1 q g1 g2, fun q hq => by
    rcases List.mem_append.mp hq with z | z
    · exact hS.2.2 q z
    · exact hL1 q z⟩
  have hle : h (-3) 0 ≤ h' (-3) 0 := by omega
  have K := q3 H1 (locs ++ L1) (cells + mMc M') (slots + mMs M') ls q4 hS1 (hL.mono hle) (by
    unfold ppushR
    split
    · exact fun u hu => okv_mono hle (hO u hu)
    · exact okS_cons (q2 (by assumption)) (fun u hu => okv_mono hle (hO u hu))) (by omega) q7
  have e2 : (rvl B sb (mT M') r).toList ++ rest.map (vl B sb) = (ppushR (rtg (mT M')) r rest).map (vl B sb) := by
    unfold rvl ppushR
    split <;> rfl
  rw [e2]
  exact K

theorem sc_call (C : Cx p R s m args meth c M B sb Lx xs D cI cJ cZ d n0) {E : PvEnv} (hlim : mMc M ≠ 0 → E (-3) 1 = n0 + mMc M ∧ E (-3) 2 = b0 + mMs M) {E1 : PvEnv} (hM : MetD l B sb Lx xs D cI cJ cZ E1 d) (hd0 : d ≠ 0) {pc idx kd kind : Nat} {L As rest : List PV} {h : Hp} {M' : MRec} (hd : (kind = 0 ∧ decode (mC M) pc = .ok (.invokestatic idx, 3)) ∨ (kind = 2 ∧ decode (mC M) pc = .ok (.invokevirtual idx, 3)) ∨ (kind = 4 ∧ decode (mC M) pc = .ok (.invokespecial idx, 3))) (hcal : calT (mO M) idx = some (kd, M')) (h6 : kd ≠ 6) (h8 : kd ≠ 8) (h9 : kd ≠ 9) (h10 : kd ≠ 10) (ha : exArgs E M M' kd kind As rest h) (hk : wpM E1 d M' As h (fun r h' => SimP p l e R s m args below meth c Zf M B sb Lx xs D cI cJ cZ n0 b0 (pc + 3) L (ppushR (rtg (mT M')) r rest) h')) : SimP p l e R s m args below meth c Zf M B sb Lx xs D cI cJ cZ n0 b0 pc L (As.reverse ++ rest) h := by
  have C0 := C
  obtain ⟨hx, hb, hml, hown, hts, hnw, hK, hX, hR, hnm⟩ := C
  intro H locs cells slots ls hH hS hL hO hc hsc
  obtain ⟨a1, a2, a3, ⟨a4, a5⟩, a6, a7, a8⟩ := ha
  have hO1 : ∀ v ∈ As, okv (h (-3) 0) v := fun v hv => hO v (List.mem_append_left _ (List.mem_reverse.mpr hv))
  have hO2 : ∀ v ∈ rest, okv (h (-3) 0) v := fun v hv => hO v (List.mem_append_right _ hv)
  rcases cal_ok hcal with ⟨z, -⟩ | ⟨z, -⟩ | ⟨z, -⟩ | ⟨z, -⟩ | ⟨hMok, hpar, hkind⟩
  · exact absurd z h6
  · exact absurd z h8
  · exact absurd z h9
  · exact absurd z h10
  have hmet := hM M' As h _ hMok a2 a5 a6 hO1 hk
  have hf : cells + mMc M' ≤ R.cells ∧ slots + mMs M' ≤ R.slots := by
    by_cases hz : mMc M' = 0
    · rw [hz, a6 hz]; exact ⟨hc.2.2.1, hc.2.2.2⟩
    · obtain ⟨w1, w2, w3⟩ := a7 hz
      obtain ⟨l1, l2⟩ := hlim w1
      obtain ⟨-, -, r3, r4⟩ := hR
      omega
  have hBW := BW_here C0 hH hS hsc
  have hRoom : (rmM (d - 1) M').frames + 1 ≤ R.frames ∧ 8 + (mX M' + 11) + (rmM (d - 1) M').locals ≤ R.locals := by
    obtain ⟨r1, r2, -, -⟩ := hR
    show d - 1 + 1 ≤ R.frames ∧ 8 + (mX M' + 11) + mRl M' ≤ R.locals
    omega
  have hlen : As.length = (mA M').length := by rw [← a2, List.length_map]
  have hW8 : 2 * (F0 m pc ls ((As.reverse ++ rest).map (vl B sb))).monitorRoom + ((rest.map (vl B sb)).map fun v => v.category).sum ≤ 8 := by
    show 2 * 0 + _ ≤ 8
    rw [wgt_sum hO2]
    omega
  have hsz : (F0 m pc ls ((As.reverse ++ rest).map (vl B sb))).locals.size = mX M := hL.2.2.1
  have S0 : CallFix p m c (mC M) (mX M) s args gtbl (RC (mO M)) := ⟨hx, hb, hml, hown, hts⟩
  have hG := good_wsM hMok
  obtain ⟨m1, m2, m3, m4, m5, m6, m7⟩ := hMok
  have hpd : (mY M').cls ≠ "java/lang/invoke/MethodHandle" ∧ (mY M').cls ≠ "java/lang/invoke/VarHandle" ∧ (parseMethodDescriptor (mY M').desc).map (fun d => d.parameters.length) = some (npar kd M') := ⟨m3.1, m3.2, hpar⟩
  have hps : PreS s H (PcM B sb Lx xs D cI cJ cZ As h) (As.map (vl B sb)) := ⟨BW_blind B sb Lx xs D cI cJ cZ As h, fun U hU hW => ⟨rfl, hBW U hU hW⟩⟩
  have hst0 : ((As.reverse ++ rest).map (vl B sb)) = (As.map (vl B sb)).reverse ++ rest.map (vl B sb) := by rw [List.map_append, List.map_reverse]
  rcases hkind with ⟨k0, w1, w2⟩ | ⟨k0, w1, w2⟩ | ⟨k0, w1, w2, w3⟩ | ⟨k0, w1, w2, w3⟩ | ⟨k0, w1, w2, w3, w4⟩
  · rcases hd with ⟨z, hdg⟩ | ⟨z, hdg⟩ | ⟨z, hdg⟩
    · refine sc_back C0 hH hS hL hO2 hc hf (a := (As.map (vl B sb)).toArray) ?_
      exact va_runS S0 hmet ⟨callB_of (npar kd M') hts hG rfl rfl rfl (hts _ m2) (hts _ w1) hpd hRoom, hts _ w2⟩ hps rfl (by rw [List.length_map, hlen]; unfold npar; rw [if_pos (by omega)]) hsz hst0 hW8 hdg hf
    · omega
    · omega
  · rcases hd with ⟨z, hdg⟩ | ⟨z, hdg⟩ | ⟨z, hdg⟩
    · refine sc_back C0 hH hS hL hO2 hc hf (a := (As.map (vl B sb)).toArray) ?_
      exact va_runSN S0 hmet ⟨va_cnB (npar kd M') hts hG rfl rfl rfl (hnw _ w1) (hts _ m2) hpd hRoom, hts _ w2, trivial⟩ hps rfl (by rw [List.length_map, hlen]; unfold npar; rw [if_pos (by omega)]) hsz hst0 hW8 hdg hf
    · omega
    · omega
  · match As, a2, a8, hlen, hps, hst0, hsz, hW8, hmet, hO1 with
    | [], _, a8, _, _, _, _, _, _, _ => have a8 : kind = 0 := a8; rcases hd with ⟨z, hdg⟩ | ⟨z, hdg⟩ | ⟨z, hdg⟩ <;> omega
    | (t, r) :: As', a2, a8, hlen, hps, hst0, hsz, hW8, hmet, hO1 =>
      rcases hd with ⟨z, hdg⟩ | ⟨z, hdg⟩ | ⟨z, hdg⟩
      · omega
      · have hr : shK r = mO M' := by
          have a8 : kind = 0 ∨ shK r = mO M' := a8
          omega
        have hr0 : 0 ≤ r := by have := shK_nn hr (by omega); omega
        have ht : t = 2 := by
          have h1 : (mA M').head? = some t := by rw [← a2]; rfl
          exact sc_tag hcal (Or.inl k0) h1
        subst ht
        have han : r < h (-3) 0 := okv_ref (hO1 _ List.mem_cons_self) hr0
        obtain ⟨g0, gP, gz, gO⟩ := hH
        have hcast : ((r.toNat : Nat) : Int) = r := Int.toNat_of_nonneg hr0
        have he := wsH_at B sb cI cJ cZ h (show r.toNat < (h (-3) 0).toNat by omega)
        rw [hcast, celE_o (by rw [hcast]; exact hr) m6, hcast] at he
        have hrecv := va_recv hK gP (vw_at (mO M') m6) he
        simp only [List.map_cons, vl_ref hr0] at hps hmet hst0 hsz hW8
        have hpv : PreV s H (mY M').cls (B + r.toNat) (PcM B sb Lx xs D cI cJ cZ ((2, r) :: As') h) (As'.map (vl B sb)) := ⟨hps.1, by rw [← m4]; exact hrecv, hps.2⟩
        refine sc_back C0 ⟨g0, gP, gz, gO⟩ hS hL hO2 hc hf (a := (Value.ref (B + r.toNat) :: As'.map (vl B sb)).toArray) ?_
        exact va_runV S0 hmet ⟨callB_of (npar kd M') hts hG rfl rfl rfl (hts _ m2) (hts _ w1) hpd hRoom, hts _ w2, hts _ w3⟩ hpv rfl (by rw [List.length_map]; unfold npar; rw [if_neg (by omega), ← hlen]; rfl) hsz (by show ((((2, r) :: As').reverse ++ rest).map (vl B sb)) = _; rw [hst0, List.reverse_cons, List.append_assoc]; rfl) hW8 hdg hf
      · omega
  · match As, a2, a8, hlen, hps, hst0, hsz, hW8, hmet, hO1 with
    | [], _, a8, _, _, _, _, _, _, _ => have a8 : kind = 0 := a8; rcases hd with ⟨z, hdg⟩ | ⟨z, hdg⟩ | ⟨z, hdg⟩ <;> omega
    | (t, r) :: As', a2, a8, hlen, hps, hst0, hsz, hW8, hmet, hO1 =>
      rcases hd with ⟨z, hdg⟩ | ⟨z, hdg⟩ | ⟨z, hdg⟩
      · omega
      · have hr : shK r = mO M' := by
          have a8 : kind = 0 ∨ shK r = mO M' := a8
          omega
        have hr0 : 0 ≤ r := by have := shK_nn hr (by omega); omega
        have ht : t = 2 := by
          have h1 : (mA M').head? = some t := by rw [← a2]; rfl
          exact sc_tag hcal (Or.inr (Or.inl k0)) h1
        subst ht
        have han : r < h (-3) 0 := okv_ref (hO1 _ List.mem_cons_self) hr0
        obtain ⟨g0, gP, gz, gO⟩ := hH
        have hcast : ((r.toNat : Nat) : Int) = r := Int.toNat_of_nonneg hr0
        have he := wsH_at B sb cI cJ cZ h (show r.toNat < (h (-3) 0).toNat by omega)
        rw [hcast, celE_o (by rw [hcast]; exact hr) m6, hcast] at he
        have hrecv := va_recv hK gP (vw_at (mO M') m6) he
        simp only [List.map_cons, vl_ref hr0] at hps hmet hst0 hsz hW8
        have hpv : PreV s H (mY M').cls (B + r.toNat) (PcM B sb Lx xs D cI cJ cZ ((2, r) :: As') h) (As'.map (vl B sb)) := ⟨hps.1, by rw [← m4]; exact hrecv, hps.2⟩
        refine sc_back C0 ⟨g0, gP, gz, gO⟩ hS hL hO2 hc hf (a := (Value.ref (B + r.toNat) :: As'.map (vl B sb)).toArray) ?_
        exact va_runVN S0 hmet ⟨va_cnB (npar kd M') hts hG rfl rfl rfl (hnw _ w1) (hts _ m2) hpd hRoom, hts _ w2, hts _ w3⟩ hpv rfl (by rw [List.length_map]; unfold npar; rw [if_neg (by omega), ← hlen]; rfl) hsz (by show ((((2, r) :: As').reverse ++ rest).map (vl B sb)) = _; rw [hst0, List.reverse_cons, List.append_assoc]; rfl) hW8 hdg hf
      · omega
  · match As, a2, a8, hlen, hps, hst0, hsz, hW8, hmet, hO1 with
    | [], _, a8, _, _, _, _, _, _, _ => have a8 : kind = 0 := a8; rcases hd with ⟨z, hdg⟩ | ⟨z, hdg⟩ | ⟨z, hdg⟩ <;> omega
    | (t, r) :: As', a2, a8, hlen, hps, hst0, hsz, hW8, hmet, hO1 =>
      rcases hd with ⟨z, hdg⟩ | ⟨z, hdg⟩ | ⟨z, hdg⟩
      · omega
      · omega
      · have hr : shK r = mO M' := by
          have a8 : kind = 0 ∨ shK r = mO M' := a8
          omega
        have hr0 : 0 ≤ r := by have := shK_nn hr (by omega); omega
        have ht : t = 2 := by
          have h1 : (mA M').head? = some t := by rw [← a2]; rfl
          exact sc_tag hcal (Or.inr (Or.inr k0)) h1
        subst ht
        simp only [List.map_cons, vl_ref hr0] at hps hmet hst0 hsz hW8
        refine sc_back C0 hH hS hL hO2 hc hf (a := (Value.ref (B + r.toNat) :: As'.map (vl B sb)).toArray) ?_
        exact va_runI S0 hmet ⟨by rw [← w4]; exact callB_of (npar kd M') hts hG rfl rfl rfl (hts _ m2) (hts _ w1) hpd hRoom, w3, hts _ w2⟩ hps rfl (by rw [List.length_map]; unfold npar; rw [if_neg (by omega), ← hlen]; rfl) hsz (by show ((((2, r) :: As').reverse ++ rest).map (vl B sb)) = _; rw [hst0, List.reverse_cons, List.append_assoc]; rfl) hW8 hdg hf
end SIMC
