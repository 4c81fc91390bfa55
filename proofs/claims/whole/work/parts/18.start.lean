/-! THE CLAIM OUT OF ONE WALK OF THE LAW'S BODY. Your part is whole_start (and what it stands on); all else here is the same for every law, but numbers. -/
def R_law : String := "MeshWorldsLaw"
def lw_P (b : Addr) (xs : List Int32) (args : Array Value) (s : State) : Prop := args = #[.ref b] ∧ s.IntsAt b xs ∧ xs.length ≤ 3072 ∧ (Jvm.Cond.and given_1 narrow_1).before args s = true
def lw_Q (_ : Array Value) (s : State) (o : Outcome) (t : State) : Prop := o = .returned (some (.int 1)) ∧ Framed s o t [] 600000 7302250
def lw_Z (below : List Frame) (a : Array Value) (s : State) : State → Prop := fun t => ∃ o, t.status = .running ∧ Ended t below o ∧ lw_Q a s o t
/-- the law's own end, with 1 on the stack, nothing written that was there before, its room as the claim has it -/
theorem lw_ret {p : Program} {l : Launch} {e : Env} {s : State} {m : MethodId} {below : List Frame} {meth : Method} {c : Code} {b : Nat} (hx : p.tables.exec = Jvm.exec) (hb : c.code = code) (hr : meth.sig.returnType = ret) (hlocks : meth.locks = false) {pc : Nat} {H : Heap} {ls : Array Slot} (hdg : decode code pc = .ok (.ireturn, 1)) : W p l e room_1 s m #[Value.ref b] below meth c H [] 600000 7302250 (lw_Z below #[Value.ref b] s) (F0 m pc ls [.int 1]) := by
  intro T hT X
  obtain ⟨fs, hret, hrun, hended, hW, hframe⟩ := X.leave (v := some (.int 1)) (hlocks := hlocks) (fun h => by rw [hr] at h; cases h)
  have hmeth' : T.vm.method? m = some meth := X.method'
  refine ⟨T.setFrames fs, ?_, .returned (some (.int 1)), hrun, hended, rfl, ⟨_, rfl⟩, hW, hframe⟩
  jvm_step X.here [X.here.top, hx, hb, hdg, hmeth', hr, ret, narrow_b1]
  (try refine ⟨rfl, ?_⟩); (try refine ⟨rfl, ?_⟩)
  first | (intro acts; rw [hret _ acts rfl rfl rfl]) | rw [hret _ _ rfl rfl rfl]
  exact Steps.refl _
/-- what holds at the law's entry: the machine, the code, the tables' words (any of lw_tbl by 'hts w (by decide +kernel)'), the script of L ints xs at the cell b, what the Statement gives of the start (any of its parts by flat_of_before) -/
def lw_At (p : Program) (s : State) (m : MethodId) (meth : Method) (c : Code) (b L : Nat) (xs : Nat → Int32) : Prop :=
  p.tables.exec = Jvm.exec ∧ c.code = code ∧ meth.sig.returnType = ret ∧ c.maxLocals = 4 ∧ s.vm.findClass R_law = some m.cls ∧ (∀ w ∈ lw_tbl, w.before #[Value.ref b] s = true) ∧ va_X b L xs s s.heap ∧ b < s.heap.size ∧ meth.locks = false ∧ (Jvm.Cond.and given_1 narrow_1).before #[Value.ref b] s = true

/-- the law's own picture: nothing is made yet -/
def E0 (L : Int) : PvEnv := fun a k => if a = -2 then L else if a = -3 ∧ k = 1 then 89 else if a = -3 ∧ k = 2 then 23179 else -7
def LawP (L : Nat) (h : Hp) : Prop := Wp (E0 L) 9 mL_law (fun r _ => r = 1) 0 [(2, -2), (9, 0), (9, 0), (9, 0)] [] h
def LawAll : Prop := ∀ (L : Nat) (h : Hp), L ≤ 3072 → h (-3) 0 = 0 → h (-3) 1 = 0 → (∀ k : Nat, k < L → in32 (h (-2) k)) → LawP L h
theorem K_start {s : State} {args : Array Value} (hts : ∀ w ∈ lw_tbl, w.before args s = true) : ∃ (D : va_G) (cI cJ cZ : ClassId), va_K D vwCl (tysL cI cJ cZ) s := by
  have hg : ∀ w ∈ gtbl, w.before args s = true := fun w hw => hts w (List.mem_filter.mp hw).1
  have hk : ∀ c, ∃ (cC : ClassId) (iS : Nat → Nat), c ≤ 10 → u_Kn s (RC c) (TC c) (NC c) cC iS := by
    intro c
    by_cases h : c ≤ 10
    · have hi : Cond.instantiable (RC c) (NC c) ∈ gtbl := by
        rcases (show c = 0 ∨ c = 1 ∨ c = 2 ∨ c = 3 ∨ c = 4 ∨ c = 5 ∨ c = 6 ∨ c = 7 ∨ c = 8 ∨ c = 9 ∨ c = 10 by omega) with rfl | rfl | rfl | rfl | rfl | rfl | rfl | rfl | rfl | rfl | rfl
        · exact nok_5.2.1
        · exact nok_4.2.1
        · exact nok_8.2.1
        · exact nok_6.2.1
        · exact nok_1.2.1
        · exact nok_3.2.1
        · exact nok_7.2.1
        · exact nok_0.2.1
        · exact nok_2.2.1
        · exact nok_9.2.1
        · exact nok_10.2.1
      obtain ⟨cC, iS, h1⟩ := u_known hg (in_TCg h) (hg _ hi)
      exact ⟨cC, iS, fun _ => h1⟩
    · exact ⟨default, fun _ => 0, fun z => absurd z h⟩
  obtain ⟨dC, hk⟩ := Classical.axiomOfChoice hk
  obtain ⟨dI, hk⟩ := Classical.axiomOfChoice hk
  obtain ⟨cI, kI, pI, a1, a2, a3⟩ := Cond.arrayClass_spec (hg _ ac_int)
  obtain ⟨cJ, kJ, pJ, b1, b2, b3⟩ := Cond.arrayClass_spec (hg _ ac_long)
  obtain ⟨cZ, kZ, pZ, c1, c2, c3⟩ := Cond.arrayClass_spec (hg _ ac_bool)
  refine ⟨(dC, dI), cI, cJ, cZ, fun c q hq => ?_, fun k q hq => ?_⟩
  · have hc : c ≤ 10 := by
      have := (List.getElem?_eq_some_iff.mp hq).1
      have e : vwCl.length = 11 := rfl
      omega
    rw [vw_at c hc] at hq
    cases hq
    exact hk c hc
  · match k, hq with
    | 0, hq => cases hq; exact ⟨fun n z => ⟨fun k h => (by cases h), kI, a2, pI, a3⟩, a1⟩
    | 1, hq => cases hq; exact ⟨fun n z => ⟨fun k h => (by cases h), kJ, b2, pJ, b3⟩, b1⟩
    | 2, hq => cases hq; exact ⟨fun n z => ⟨fun k h => (by cases h), kZ, c2, pZ, c3⟩, c1⟩
    | k + 3, hq => simp [tysL] at hq
theorem E0_lim (L : Int) : E0 L (-3) 1 = 0 + (mMc mL_law : Int) ∧ E0 L (-3) 2 = 0 + (mMs mL_law : Int) := ⟨by simp [E0, mL_law], by simp [E0, mL_law]⟩
set_option maxRecDepth 100000 in
set_option maxHeartbeats 4000000 in
theorem whole_of (HL : LawAll) {p : Program} {e : Env} {s : State} {m : MethodId} {below : List Frame} {meth : Method} {c : Code} (l : Launch) {b L : Nat} {xs : Nat → Int32} (hL : L ≤ 3072) (C0 : lw_At p s m meth c b L xs) : W p l e room_1 s m #[Value.ref b] below meth c s.heap [] 0 0 (lw_Z below #[Value.ref b] s) (entryFrame m ([Value.ref b] : List Value).toArray 4) := by
  obtain ⟨hx, hb, hr, hml, hown, hts, hX, hbl, hlocks, hgv⟩ := C0
  obtain ⟨D, cI, cJ, cZ, hK⟩ := K_start hts
  have hE : HpMode (E0 L) L := by
    refine ⟨rfl, fun a f ha => ?_⟩
    unfold E0
    rw [if_neg (by omega), if_neg (by omega), if_neg (by omega)]
  let h : Hp := fun a k => if a = -2 then (xs k.toNat).toInt else 0
  have hrun := HL L h hL rfl rfl (fun k _ => i32_in _)
  have C : Cx p room_1 s m #[Value.ref b] meth c mL_law s.heap.size b L xs D cI cJ cZ 9 0 := by
    refine ⟨hx, hb, hml, hown, fun w hw => hts w (List.mem_filter.mp hw).1, fun w hw => va_Nw.of (nest_on hw) (hts w (List.mem_filter.mp hw).1), hK, ⟨hX, hbl, ⟨rfl, Int.le_refl _⟩, by omega⟩, ⟨Nat.le_refl _, Nat.le_refl _, by decide, by decide⟩, fun z => absurd z (by decide)⟩
  have hret : RetOK p l e room_1 s m #[Value.ref b] below meth c (lw_Z below #[Value.ref b] s) mL_law s.heap.size b L xs D cI cJ cZ 0 0 (fun r _ => r = 1) := by
    intro pc v h' H locs cells slots ls r1 r2 r3 r4 hq hH' hS hc hsc'
    subst hq
    refine va_forget (fun q hq => hS.2.2 q hq) ?_
    refine W.widen (k := 600000) (n := 7302250) hc.2.2.1 hc.2.2.2 ?_
    rcases r4 with ⟨z, hd⟩ | ⟨z, hd⟩ | ⟨z, hd⟩ | ⟨z, hd⟩
    · exact lw_ret hx hb hr hlocks hd
    · cases z
    · cases z
    · cases z
  have hP := hrun (SimP p l e room_1 s m #[Value.ref b] below meth c (lw_Z below #[Value.ref b] s) mL_law s.heap.size b L xs D cI cJ cZ 0 0) (fun pc L' S h' hx' => ss_step C hE (fun _ => E0_lim L) (met_all l s.heap.size b L xs D cI cJ cZ hE 9) hret hx')
  rw [lg_entry_eq]
  have hl := lv_entry ([Value.ref b]) (n := 4) (Nat.le_of_ble_eq_true rfl)
  refine hP s.heap [] 0 0 _ ⟨Int.le_refl _, fun k q hk => by simp [wsH, h] at hk, rfl, fun i k h1 h2 h3 h4 => ?_⟩ va_S.rf ⟨rfl, fun v hv => ?_, lv_mono hl (fun q hq => ?_)⟩ (fun v hv => absurd hv List.not_mem_nil) ⟨rfl, rfl, Nat.zero_le _, Nat.zero_le _⟩ (fun k hk => ?_)
  · have h2 : i < 0 := h2
    omega
  · simp only [List.mem_cons, List.not_mem_nil, or_false] at hv
    rcases hv with rfl | rfl | rfl | rfl
    · exact Or.inr (Or.inl rfl)
    · exact Or.inl rfl
    · exact Or.inl rfl
    · exact Or.inl rfl
  · exact hq
  · show xs k = Int32.ofInt (xs (k : Int).toNat).toInt ∧ in32 (xs (k : Int).toNat).toInt
    rw [Int.toNat_natCast, Int32.ofInt_toInt]
    exact ⟨rfl, i32_in _⟩
