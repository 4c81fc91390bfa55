/-! EVERY METHOD keeps its picture's promise -/
theorem initL_len {B sb : Nat} : ∀ (As : List PV) (n : Nat), awd (As.map (fun v => v.1)) ≤ n → (initL n As).length = n
  | [], n, _ => by simp [initL]
  | v :: As, 0, h => by
    simp only [List.map_cons, awd] at h
    split at h <;> omega
  | v :: As, n + 1, h => by
    simp only [List.map_cons, awd] at h
    unfold initL
    by_cases e : v.1 = 1
    · rw [if_pos e] at h
      rw [if_pos e]
      match n with
      | 0 => omega
      | n' + 1 =>
        simp only [List.length_cons]
        rw [initL_len (B := B) (sb := sb) As n' (by omega)]
    · rw [if_neg e] at h
      rw [if_neg e, List.length_cons, initL_len (B := B) (sb := sb) As n (by omega)]
theorem initL_mem : ∀ (As : List PV) (n : Nat) (u : PV), u ∈ initL n As → u = (9, 0) ∨ u ∈ As
  | [], n, u, h => Or.inl (List.eq_of_mem_replicate (by unfold initL at h; exact h))
  | v :: As, 0, u, h => absurd h List.not_mem_nil
  | v :: As, n + 1, u, h => by
    unfold initL at h
    by_cases e : v.1 = 1
    · rw [if_pos e] at h
      rcases List.mem_cons.mp h with h | h
      · exact Or.inr (by rw [h]; exact List.mem_cons_self)
      · match n, h with
        | 0, h => exact absurd h List.not_mem_nil
        | n' + 1, h =>
          rcases List.mem_cons.mp h with h | h
          · exact Or.inl h
          · exact (initL_mem As n' u h).imp id (List.mem_cons_of_mem _)
    · rw [if_neg e] at h
      rcases List.mem_cons.mp h with h | h
      · exact Or.inr (by rw [h]; exact List.mem_cons_self)
      · exact (initL_mem As n u h).imp id (List.mem_cons_of_mem _)
theorem lvL_rep {B sb : Nat} : ∀ (n i : Nat), lvL B sb i (List.replicate n (9, 0)) = []
  | 0, _ => rfl
  | n + 1, i => by
    rw [List.replicate_succ]
    simp only [lvL]
    rw [if_neg (by decide), lvL_rep n (i + 1)]
theorem initL_lv {B sb : Nat} {k : Int} : ∀ (As : List PV) (n i : Nat), (∀ v ∈ As, okv k v) → ∀ q ∈ lvL B sb i (initL n As), q ∈ lv_args i (As.map (vl B sb))
  | [], n, i, _, q, h => by
    unfold initL at h
    rw [lvL_rep] at h
    exact absurd h List.not_mem_nil
  | v :: As, 0, i, _, q, h => absurd h List.not_mem_nil
  | v :: As, n + 1, i, ho, q, h => by
    have hv := ho v List.mem_cons_self
    have ho2 : ∀ u ∈ As, okv k u := fun u hu => ho u (List.mem_cons_of_mem _ hu)
    have ht : v.1 ≤ 2 := by have := okv_tag hv; omega
    simp only [List.map_cons, lv_args]
    unfold initL at h
    by_cases e : v.1 = 1
    · rw [if_pos e] at h
      rw [vl_cat hv, if_pos e, if_pos rfl]
      simp only [lvL, if_pos ht] at h
      rcases List.mem_cons.mp h with h | h
      · rw [h]; exact List.mem_cons_self
      · refine List.mem_cons_of_mem _ ?_
        match n, h with
        | 0, h => exact absurd h List.not_mem_nil
        | n' + 1, h =>
          simp only [lvL] at h
          rw [if_neg (by decide)] at h
          exact initL_lv As n' (i + 1 + 1) ho2 q h
    · rw [if_neg e] at h
      rw [vl_cat hv, if_neg e, if_neg (by decide)]
      simp only [lvL, if_pos ht] at h
      rcases List.mem_cons.mp h with h | h
      · rw [h]; exact List.mem_cons_self
      · exact List.mem_cons_of_mem _ (initL_lv As n (i + 1) ho2 q h)
theorem lg_len {B sb : Nat} {k : Int} : ∀ (As : List PV), (∀ v ∈ As, okv k v) → (lg_sl (As.map (vl B sb))).length = awd (As.map (fun v => v.1))
  | [], _ => rfl
  | v :: As, ho => by
    have ih := lg_len (B := B) (sb := sb) As (fun u hu => ho u (List.mem_cons_of_mem _ hu))
    unfold lg_sl at ih ⊢
    simp only [List.map_cons, List.flatMap_cons, List.length_append, awd]
    rw [ih, vl_cat (ho v List.mem_cons_self)]
    by_cases e : v.1 = 1
    · rw [if_pos e]; rfl
    · rw [if_neg e]; rfl
theorem HRel_m31 {B sb : Nat} {D : va_G} {cI cJ cZ : ClassId} {h : Hp} {H : Heap} (hH : HRel B sb D cI cJ cZ h H) (v : Int) : HRel B sb D cI cJ cZ (hst h (-3) 1 v) H := by
  obtain ⟨g0, gP, gz, gO⟩ := hH
  have e3 : hst h (-3) 1 v (-3) 0 = h (-3) 0 := by unfold hst; rw [if_neg (by omega)]
  refine ⟨by rw [e3]; exact g0, ?_, by rw [e3]; exact gz, fun i k h1 h2 h3 h4 => ?_⟩
  · rw [e3, wsH_same B sb cI cJ cZ (h := h) (fun i hi => hst_off h (by omega))]
    exact gP
  · rw [e3] at h2 ⊢
    rw [hst_off h (by omega)]
    exact gO i k h1 h2 h3 h4
set_option maxHeartbeats 4000000 in
theorem met_all (l : Launch) (B sb Lx : Nat) (xs : Nat → Int32) (D : va_G) (cI cJ cZ : ClassId) {E : PvEnv} (hE : HpMode E Lx) : ∀ d, MetD l B sb Lx xs D cI cJ cZ E d := by
  intro d
  induction d with
  | zero => intro M As h Q _ _ _ _ _ hk; exact hk.elim
  | succ d ih =>
    intro M As h Q hMok hA haw hms hO hk
    have hMok0 := hMok
    obtain ⟨m1, m2, m3, m4, m5, m6, m7⟩ := hMok
    refine Met.ofW (cc := mC M) (maxL := mX M) (ret := mT M) m5 rfl ?_
    intro p e s m args below meth c s₁ BB hml hv
    obtain ⟨rfl, hH, hK, hnw, hX, hsc⟩ := hv
    have hx := BB.exec
    have hb := BB.bytes
    have hr := BB.returns
    have hlocks := BB.notSynchronized
    have hts0 := atoms_spec (ws := wsM M) BB.pre
    have hts : ∀ w ∈ gtbl, w.before (As.map (vl B sb)).toArray s = true := fun w hw => hts0 w (List.mem_cons_of_mem _ hw)
    have hown : s.vm.findClass (RC (mO M)) = some m.cls := by rw [m4]; exact findClass_of_methodNamed BB.named
    have hin : meth.name = (mY M).name := (name_of_methodNamed BB.named BB.method).1
    have g0 := hH.1
    have gz := hH.2.2.1
    have C : Cx p (rmM d M) s m (As.map (vl B sb)).toArray meth c M B sb Lx xs D cI cJ cZ d (h (-3) 0) := ⟨hx, hb, hml, hown, hts, hnw, hK, ⟨hX.1, hX.2.1, ⟨gz, g0⟩, hX.2.2⟩, ⟨Nat.le_refl _, Nat.le_refl _, Nat.le_refl _, Nat.le_refl _⟩, fun z => hin.trans z⟩
    have hE' : HpMode (setLim E M h) Lx := by
      refine ⟨?_, fun a f ha => ?_⟩
      · unfold setLim; split
        · exact hE.1
        · show (if (-2 : Int) = -3 ∧ (0 : Int) = 1 then _ else if (-2 : Int) = -3 ∧ (0 : Int) = 2 then _ else E (-2) 0) = _
          rw [if_neg (by omega), if_neg (by omega)]; exact hE.1
      · unfold setLim; split
        · exact hE.2 a f ha
        · show (if a = -3 ∧ f = 1 then _ else if a = -3 ∧ f = 2 then _ else E a f) = -7
          rw [if_neg (by omega), if_neg (by omega)]; exact hE.2 a f ha
    have hlim : mMc M ≠ 0 → setLim E M h (-3) 1 = h (-3) 0 + mMc M ∧ setLim E M h (-3) 2 = h (-3) 1 + mMs M := by
      intro hz
      unfold setLim
      rw [if_neg hz]
      exact ⟨rfl, rfl⟩
    have hret : RetOK p l e (rmM d M) s m (As.map (vl B sb)).toArray below meth c (MQ below (QcM B sb Lx xs D cI cJ cZ M h Q) (As.map (vl B sb)).toArray s (mMc M) (mMs M) (fun q => B ≤ q)) M B sb Lx xs D cI cJ cZ (h (-3) 0) (h (-3) 1) (postM M h Q) := by
      intro pc v h' H locs cells slots ls r1 r2 r3 r4 hq hH' hS hc hsc'
      have key : cells ≤ mMc M ∧ slots ≤ mMs M ∧ ∀ t : State, t.heap = H → QcM B sb Lx xs D cI cJ cZ M h Q (As.map (vl B sb)).toArray s (.returned (rvl B sb (mT M) v)) t := by
        refine ⟨hc.2.2.1, hc.2.2.2, fun t ht => ?_⟩
        have hfr : s.heap.size ≤ t.heap.size ∧ ∀ q : Nat, q < B → t.heap[q]? = s.heap[q]? := by
          rw [ht]
          exact ⟨hS.1, fun q hq => hS.2.1 q (by omega) (Nat.not_le.mpr hq)⟩
        unfold postM at hq
        by_cases hz : mMc M = 0
        · rw [if_pos hz] at hq
          obtain ⟨⟨p1, p2⟩, p3⟩ := hq
          exact ⟨v, h', rfl, r2, p3, by rw [ht]; exact hH', ⟨by rw [p1, hz]; simp, by rw [p2, hms hz]; simp⟩, hsc', hfr.1, hfr.2⟩
        · rw [if_neg hz] at hq
          obtain ⟨⟨p1, p2⟩, p3⟩ := hq
          refine ⟨v, hst h' (-3) 1 (h (-3) 1 + mMs M), rfl, ?_, p3, by rw [ht]; exact HRel_m31 hH' _, ⟨?_, ?_⟩, fun k hk => ?_, hfr.1, hfr.2⟩
          · intro z
            have e3 : hst h' (-3) 1 (h (-3) 1 + mMs M) (-3) 0 = h' (-3) 0 := by unfold hst; rw [if_neg (by omega)]
            rw [e3]
            exact r2 z
          · unfold hst; rw [if_neg (by omega)]; exact p1
          · unfold hst; rw [if_pos (by omega)]
          · rw [hst_off h' (by omega)]; exact hsc' k hk
      obtain ⟨k1, k2, k3⟩ := key
      refine W.widen k1 k2 ?_
      have hf : ∀ q ∈ locs, (fun q => B ≤ q) q.base := hS.2.2
      rcases m7 with e1 | e1 | e1 | e1 | ⟨s', e1⟩
      · have hr0 : meth.sig.returnType = none := hr.trans e1
        have k3' : ∀ t : State, t.heap = H → s.WarmedH t.vm → QcM B sb Lx xs D cI cJ cZ M h Q (As.map (vl B sb)).toArray s (.returned none) t := fun t ht _ => by
          have := k3 t ht
          unfold rvl at this
          rw [if_pos (by rw [e1]; rfl)] at this
          exact this
        unfold rvl
        rw [if_pos (by rw [e1]; rfl)]
        rcases r4 with ⟨z, hd⟩ | ⟨z, hd⟩ | ⟨z, hd⟩ | ⟨z, hd⟩
        · rw [e1] at z; cases z
        · rw [e1] at z; cases z
        · rw [e1] at z; cases z
        · exact W.vret hx hb hr0 k3' hf hd
      · have hr0 : meth.sig.returnType = some .int := hr.trans e1
        have ez : rtg (mT M) = 0 := by rw [e1]; rfl
        have k3' : ∀ t : State, t.heap = H → s.WarmedH t.vm → QcM B sb Lx xs D cI cJ cZ M h Q (As.map (vl B sb)).toArray s (.returned (some (.int (Int32.ofInt v)))) t := fun t ht _ => by
          have := k3 t ht
          unfold rvl at this
          rw [if_neg (by omega), ez] at this
          exact this
        unfold rvl
        rw [if_neg (by omega), ez]
        rcases r4 with ⟨z, hd⟩ | ⟨z, hd⟩ | ⟨z, hd⟩ | ⟨z, hd⟩
        · exact W.iret hx hb hr0 k3' hf hd
        · omega
        · omega
        · omega
      · have hr0 : meth.sig.returnType = some .boolean := hr.trans e1
        have ez : rtg (mT M) = 0 := by rw [e1]; rfl
        have k3' : ∀ t : State, t.heap = H → s.WarmedH t.vm → QcM B sb Lx xs D cI cJ cZ M h Q (As.map (vl B sb)).toArray s (.returned (some (.int (Int32.ofInt v)))) t := fun t ht _ => by
          have := k3 t ht
          unfold rvl at this
          rw [if_neg (by omega), ez] at this
          exact this
        unfold rvl
        rw [if_neg (by omega), ez]
        rcases r4 with ⟨z, hd⟩ | ⟨z, hd⟩ | ⟨z, hd⟩ | ⟨z, hd⟩
        · exact W.zret hx hb hr0 (bit_narrow (r3 e1)) k3' hf hd
        · omega
        · omega
        · omega
      · have hr0 : meth.sig.returnType = some .long := hr.trans e1
        have ez : rtg (mT M) = 1 := by rw [e1]; rfl
        have k3' : ∀ t : State, t.heap = H → s.WarmedH t.vm → QcM B sb Lx xs D cI cJ cZ M h Q (As.map (vl B sb)).toArray s (.returned (some (.long (Int64.ofInt v)))) t := fun t ht _ => by
          have := k3 t ht
          unfold rvl at this
          rw [if_neg (by omega), ez] at this
          exact this
        unfold rvl
        rw [if_neg (by omega), ez]
        rcases r4 with ⟨z, hd⟩ | ⟨z, hd⟩ | ⟨z, hd⟩ | ⟨z, hd⟩
        · omega
        · exact W.lret hx hb hr0 k3' hf hd
        · omega
        · omega
      · have hr0 : meth.sig.returnType = some (.object s') := hr.trans e1
        have ez : rtg (mT M) = 2 := by rw [e1]; rfl
        have k3' : ∀ t : State, t.heap = H → s.WarmedH t.vm → QcM B sb Lx xs D cI cJ cZ M h Q (As.map (vl B sb)).toArray s (.returned (some (vl B sb (2, v)))) t := fun t ht _ => by
          have := k3 t ht
          unfold rvl at this
          rw [if_neg (by omega), ez] at this
          exact this
        unfold rvl
        rw [if_neg (by omega), ez]
        rcases r4 with ⟨z, hd⟩ | ⟨z, hd⟩ | ⟨z, hd⟩ | ⟨z, hd⟩
        · omega
        · omega
        · refine W.aret hx hb hr0 (Or.inl ⟨s', rfl⟩) ?_ k3' hf hd
          by_cases hv1 : v = -1
          · subst hv1; exact Or.inl rfl
          · exact Or.inr ⟨_, vl2 B sb hv1⟩
        · omega
    have hP := hk (SimP p l e (rmM d M) s m (As.map (vl B sb)).toArray below meth c (MQ below (QcM B sb Lx xs D cI cJ cZ M h Q) (As.map (vl B sb)).toArray s (mMc M) (mMs M) (fun q => B ≤ q)) M B sb Lx xs D cI cJ cZ (h (-3) 0) (h (-3) 1)) (fun pc L S h' hx' => ss_step C hE' hlim ih hret hx')
    rw [lg_entry_eq]
    have hl := lv_entry (As.map (vl B sb)) (n := mX M) (by rw [lg_len As hO, hA]; exact haw)
    exact hP s.heap [] 0 0 _ hH va_S.rf ⟨initL_len (B := B) (sb := sb) As (mX M) (by rw [hA]; exact haw), fun v hv => (initL_mem As (mX M) v hv).imp (fun z => by rw [z]) (fun z => hO v z), lv_mono hl (fun q hq => initL_lv As (mX M) 0 hO q hq)⟩ (fun v hv => absurd hv List.not_mem_nil) ⟨by simp, by simp, Nat.zero_le _, Nat.zero_le _⟩ hsc
