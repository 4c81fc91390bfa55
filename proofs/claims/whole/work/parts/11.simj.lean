/-! jumps, quotients -/
section SIMJ
variable {p : Program} {l : Launch} {e : Env} {R : Room} {s : State} {m : MethodId} {args : Array Value} {below : List Frame} {meth : Method} {c : Code} {Zf : State → Prop} {M : MRec} {B sb Lx : Nat} {xs : Nat → Int32} {D : va_G} {cI cJ cZ : ClassId} {d : Nat} {n0 b0 : Int}
theorem tgt_eq {pc : Nat} {off : Int} (h : 0 ≤ (pc : Int) + off) : (pc : Int) + off = ((tgtOf pc off : Nat) : Int) := by unfold tgtOf; omega
theorem sj_goto (C : Cx p R s m args meth c M B sb Lx xs D cI cJ cZ d n0) {pc : Nat} {L S : List PV} {h : Hp} {off : Int} (hd : decode (mC M) pc = .ok (.goto off, 3)) (hk : pjump pc off L S h (SimP p l e R s m args below meth c Zf M B sb Lx xs D cI cJ cZ n0 b0)) : SimP p l e R s m args below meth c Zf M B sb Lx xs D cI cJ cZ n0 b0 pc L S h := by
  obtain ⟨hx, hb, -⟩ := C
  intro H locs cells slots ls hH hS hL hO hc hsc
  exact lv_goto hx hb hd (tgt_eq hk.1) (hk.2 H locs cells slots ls hH hS hL hO hc hsc)
/-- a jump under a condition: the target is needed on one way alone -/
theorem W.unless {p : Program} {l : Launch} {e : Env} {R : Room} {s : State} {m : MethodId} {args : Array Value} {below : List Frame} {meth : Method} {c : Code} {H : Heap} {locs : List Loc} {cells slots : Nat} {Q : State → Prop} {g : JFrame} {A : Prop} (h : ∀ T : State, T.heap = H → Stand p l e R s m args below meth c T locs cells slots → A) (k : A → W p l e R s m args below meth c H locs cells slots Q g) : W p l e R s m args below meth c H locs cells slots Q g := fun T hT X => k (h T hT X) T hT X
theorem sj_icmp (C : Cx p R s m args meth c M B sb Lx xs D cI cJ cZ d n0) {pc : Nat} {L S : List PV} {h : Hp} {cd : ClassFile.Cond} {off : Int} {a b : Int} (h0 : 0 ≤ (pc : Int) + off) (hd : decode (mC M) pc = .ok (.if_icmp cd off, 3)) (hk : if cmpI cd a b = true then SimP p l e R s m args below meth c Zf M B sb Lx xs D cI cJ cZ n0 b0 (tgtOf pc off) L S h else SimP p l e R s m args below meth c Zf M B sb Lx xs D cI cJ cZ n0 b0 (pc + 3) L S h) : SimP p l e R s m args below meth c Zf M B sb Lx xs D cI cJ cZ n0 b0 pc L ((0, b) :: (0, a) :: S) h := by
  obtain ⟨hx, hb, -⟩ := C
  intro H locs cells slots ls hH hS hL hO hc hsc
  have hb1 : in32 b := hO _ List.mem_cons_self
  have ha1 : in32 a := hO _ (List.mem_cons_of_mem _ List.mem_cons_self)
  have hO2 : ∀ u ∈ S, okv (h (-3) 0) u := fun u hu => hO u (List.mem_cons_of_mem _ (List.mem_cons_of_mem _ hu))
  cases cd with
  | eq =>
    have hk : if decide (a = b) = true then SimP p l e R s m args below meth c Zf M B sb Lx xs D cI cJ cZ n0 b0 (tgtOf pc off) L S h else SimP p l e R s m args below meth c Zf M B sb Lx xs D cI cJ cZ n0 b0 (pc + 3) L S h := hk
    simp only [decide_eq_true_eq] at hk
    refine lv_icmp_eq hx hb hd (tgt_eq h0) (fun q => ?_) (fun q => ?_)
    · rw [if_pos ((o_eq ha1 hb1).mp q)] at hk; exact hk H locs cells slots ls hH hS hL hO2 hc hsc
    · rw [if_neg (fun z => q ((o_eq ha1 hb1).mpr z))] at hk; exact hk H locs cells slots ls hH hS hL hO2 hc hsc
  | ne =>
    have hk : if decide (a ≠ b) = true then SimP p l e R s m args below meth c Zf M B sb Lx xs D cI cJ cZ n0 b0 (tgtOf pc off) L S h else SimP p l e R s m args below meth c Zf M B sb Lx xs D cI cJ cZ n0 b0 (pc + 3) L S h := hk
    simp only [decide_eq_true_eq] at hk
    refine lv_icmp_ne hx hb hd (tgt_eq h0) (fun q => ?_) (fun q => ?_)
    · rw [if_pos (fun z => q ((o_eq ha1 hb1).mpr z))] at hk; exact hk H locs cells slots ls hH hS hL hO2 hc hsc
    · rw [if_neg (fun z => z ((o_eq ha1 hb1).mp q))] at hk; exact hk H locs cells slots ls hH hS hL hO2 hc hsc
  | lt =>
    have hk : if decide (a < b) = true then SimP p l e R s m args below meth c Zf M B sb Lx xs D cI cJ cZ n0 b0 (tgtOf pc off) L S h else SimP p l e R s m args below meth c Zf M B sb Lx xs D cI cJ cZ n0 b0 (pc + 3) L S h := hk
    simp only [decide_eq_true_eq] at hk
    refine lv_icmp_lt hx hb hd (tgt_eq h0) (fun q => ?_) (fun q => ?_)
    · rw [if_pos ((o_lt ha1 hb1).mp q)] at hk; exact hk H locs cells slots ls hH hS hL hO2 hc hsc
    · rw [if_neg (fun z => q ((o_lt ha1 hb1).mpr z))] at hk; exact hk H locs cells slots ls hH hS hL hO2 hc hsc
  | ge =>
    have hk : if decide (b ≤ a) = true then SimP p l e R s m args below meth c Zf M B sb Lx xs D cI cJ cZ n0 b0 (tgtOf pc off) L S h else SimP p l e R s m args below meth c Zf M B sb Lx xs D cI cJ cZ n0 b0 (pc + 3) L S h := hk
    simp only [decide_eq_true_eq] at hk
    refine lv_icmp_ge hx hb hd (tgt_eq h0) (fun q => ?_) (fun q => ?_)
    · rw [if_pos ((o_le hb1 ha1).mp q)] at hk; exact hk H locs cells slots ls hH hS hL hO2 hc hsc
    · rw [if_neg (fun z => q ((o_le hb1 ha1).mpr z))] at hk; exact hk H locs cells slots ls hH hS hL hO2 hc hsc
  | gt =>
    have hk : if decide (b < a) = true then SimP p l e R s m args below meth c Zf M B sb Lx xs D cI cJ cZ n0 b0 (tgtOf pc off) L S h else SimP p l e R s m args below meth c Zf M B sb Lx xs D cI cJ cZ n0 b0 (pc + 3) L S h := hk
    simp only [decide_eq_true_eq] at hk
    refine lv_icmp_gt hx hb hd (tgt_eq h0) (fun q => ?_) (fun q => ?_)
    · rw [if_pos ((o_lt hb1 ha1).mp q)] at hk; exact hk H locs cells slots ls hH hS hL hO2 hc hsc
    · rw [if_neg (fun z => q ((o_lt hb1 ha1).mpr z))] at hk; exact hk H locs cells slots ls hH hS hL hO2 hc hsc
  | le =>
    have hk : if decide (a ≤ b) = true then SimP p l e R s m args below meth c Zf M B sb Lx xs D cI cJ cZ n0 b0 (tgtOf pc off) L S h else SimP p l e R s m args below meth c Zf M B sb Lx xs D cI cJ cZ n0 b0 (pc + 3) L S h := hk
    simp only [decide_eq_true_eq] at hk
    refine lv_icmp_le hx hb hd (tgt_eq h0) (fun q => ?_) (fun q => ?_)
    · rw [if_pos ((o_le ha1 hb1).mp q)] at hk; exact hk H locs cells slots ls hH hS hL hO2 hc hsc
    · rw [if_neg (fun z => q ((o_le ha1 hb1).mpr z))] at hk; exact hk H locs cells slots ls hH hS hL hO2 hc hsc
theorem sj_if (C : Cx p R s m args meth c M B sb Lx xs D cI cJ cZ d n0) {pc : Nat} {L S : List PV} {h : Hp} {cd : ClassFile.Cond} {off : Int} {a : Int} (h0 : 0 ≤ (pc : Int) + off) (hd : decode (mC M) pc = .ok (.ifCond cd off, 3)) (hk : if cmpI cd a 0 = true then SimP p l e R s m args below meth c Zf M B sb Lx xs D cI cJ cZ n0 b0 (tgtOf pc off) L S h else SimP p l e R s m args below meth c Zf M B sb Lx xs D cI cJ cZ n0 b0 (pc + 3) L S h) : SimP p l e R s m args below meth c Zf M B sb Lx xs D cI cJ cZ n0 b0 pc L ((0, a) :: S) h := by
  obtain ⟨hx, hb, -⟩ := C
  intro H locs cells slots ls hH hS hL hO hc hsc
  have ha1 : in32 a := hO _ List.mem_cons_self
  have hb1 : in32 0 := by unfold in32; decide
  have hO2 : ∀ u ∈ S, okv (h (-3) 0) u := fun u hu => hO u (List.mem_cons_of_mem _ hu)
  cases cd with
  | eq =>
    have hk : if decide (a = 0) = true then SimP p l e R s m args below meth c Zf M B sb Lx xs D cI cJ cZ n0 b0 (tgtOf pc off) L S h else SimP p l e R s m args below meth c Zf M B sb Lx xs D cI cJ cZ n0 b0 (pc + 3) L S h := hk
    simp only [decide_eq_true_eq] at hk
    refine lv_if_eq hx hb hd (tgt_eq h0) (fun q => ?_) (fun q => ?_)
    · rw [if_pos ((o_eq ha1 hb1).mp q)] at hk; exact hk H locs cells slots ls hH hS hL hO2 hc hsc
    · rw [if_neg (fun z => q ((o_eq ha1 hb1).mpr z))] at hk; exact hk H locs cells slots ls hH hS hL hO2 hc hsc
  | ne =>
    have hk : if decide (a ≠ 0) = true then SimP p l e R s m args below meth c Zf M B sb Lx xs D cI cJ cZ n0 b0 (tgtOf pc off) L S h else SimP p l e R s m args below meth c Zf M B sb Lx xs D cI cJ cZ n0 b0 (pc + 3) L S h := hk
    simp only [decide_eq_true_eq] at hk
    refine lv_if_ne hx hb hd (tgt_eq h0) (fun q => ?_) (fun q => ?_)
    · rw [if_pos (fun z => q ((o_eq ha1 hb1).mpr z))] at hk; exact hk H locs cells slots ls hH hS hL hO2 hc hsc
    · rw [if_neg (fun z => z ((o_eq ha1 hb1).mp q))] at hk; exact hk H locs cells slots ls hH hS hL hO2 hc hsc
  | lt =>
    have hk : if decide (a < 0) = true then SimP p l e R s m args below meth c Zf M B sb Lx xs D cI cJ cZ n0 b0 (tgtOf pc off) L S h else SimP p l e R s m args below meth c Zf M B sb Lx xs D cI cJ cZ n0 b0 (pc + 3) L S h := hk
    simp only [decide_eq_true_eq] at hk
    refine lv_if_lt hx hb hd (tgt_eq h0) (fun q => ?_) (fun q => ?_)
    · rw [if_pos ((o_lt ha1 hb1).mp q)] at hk; exact hk H locs cells slots ls hH hS hL hO2 hc hsc
    · rw [if_neg (fun z => q ((o_lt ha1 hb1).mpr z))] at hk; exact hk H locs cells slots ls hH hS hL hO2 hc hsc
  | ge =>
    have hk : if decide (0 ≤ a) = true then SimP p l e R s m args below meth c Zf M B sb Lx xs D cI cJ cZ n0 b0 (tgtOf pc off) L S h else SimP p l e R s m args below meth c Zf M B sb Lx xs D cI cJ cZ n0 b0 (pc + 3) L S h := hk
    simp only [decide_eq_true_eq] at hk
    refine lv_if_ge hx hb hd (tgt_eq h0) (fun q => ?_) (fun q => ?_)
    · rw [if_pos ((o_le hb1 ha1).mp q)] at hk; exact hk H locs cells slots ls hH hS hL hO2 hc hsc
    · rw [if_neg (fun z => q ((o_le hb1 ha1).mpr z))] at hk; exact hk H locs cells slots ls hH hS hL hO2 hc hsc
  | gt =>
    have hk : if decide (0 < a) = true then SimP p l e R s m args below meth c Zf M B sb Lx xs D cI cJ cZ n0 b0 (tgtOf pc off) L S h else SimP p l e R s m args below meth c Zf M B sb Lx xs D cI cJ cZ n0 b0 (pc + 3) L S h := hk
    simp only [decide_eq_true_eq] at hk
    refine lv_if_gt hx hb hd (tgt_eq h0) (fun q => ?_) (fun q => ?_)
    · rw [if_pos ((o_lt hb1 ha1).mp q)] at hk; exact hk H locs cells slots ls hH hS hL hO2 hc hsc
    · rw [if_neg (fun z => q ((o_lt hb1 ha1).mpr z))] at hk; exact hk H locs cells slots ls hH hS hL hO2 hc hsc
  | le =>
    have hk : if decide (a ≤ 0) = true then SimP p l e R s m args below meth c Zf M B sb Lx xs D cI cJ cZ n0 b0 (tgtOf pc off) L S h else SimP p l e R s m args below meth c Zf M B sb Lx xs D cI cJ cZ n0 b0 (pc + 3) L S h := hk
    simp only [decide_eq_true_eq] at hk
    refine lv_if_le hx hb hd (tgt_eq h0) (fun q => ?_) (fun q => ?_)
    · rw [if_pos ((o_le ha1 hb1).mp q)] at hk; exact hk H locs cells slots ls hH hS hL hO2 hc hsc
    · rw [if_neg (fun z => q ((o_le ha1 hb1).mpr z))] at hk; exact hk H locs cells slots ls hH hS hL hO2 hc hsc
theorem sj_idiv (C : Cx p R s m args meth c M B sb Lx xs D cI cJ cZ d n0) {pc : Nat} {L S : List PV} {h : Hp} {a b : Int} (hd : decode (mC M) pc = .ok (.idiv, 1)) (hne : b ≠ 0) (hk : SimP p l e R s m args below meth c Zf M B sb Lx xs D cI cJ cZ n0 b0 (pc + 1) L ((0, w32 (a.tdiv b)) :: S) h) : SimP p l e R s m args below meth c Zf M B sb Lx xs D cI cJ cZ n0 b0 pc L ((0, b) :: (0, a) :: S) h := by
  obtain ⟨hx, hb, -⟩ := C
  intro H locs cells slots ls hH hS hL hO hc hsc
  have hb1 : in32 b := hO _ List.mem_cons_self
  have ha1 : in32 a := hO _ (List.mem_cons_of_mem _ List.mem_cons_self)
  have hO2 : ∀ u ∈ S, okv (h (-3) 0) u := fun u hu => hO u (List.mem_cons_of_mem _ (List.mem_cons_of_mem _ hu))
  have K := hk H locs cells slots ls hH hS hL (okS_cons (show in32 (w32 (a.tdiv b)) from w32_in _) hO2) hc hsc
  simp only [List.map_cons] at K ⊢
  rw [vl0, ← o_div ha1 hb1] at K
  exact lv_idiv hx hb hd (o_ne0 hb1 hne) K
theorem sj_irem (C : Cx p R s m args meth c M B sb Lx xs D cI cJ cZ d n0) {pc : Nat} {L S : List PV} {h : Hp} {a b : Int} (hd : decode (mC M) pc = .ok (.irem, 1)) (hne : b ≠ 0) (hk : SimP p l e R s m args below meth c Zf M B sb Lx xs D cI cJ cZ n0 b0 (pc + 1) L ((0, a.tmod b) :: S) h) : SimP p l e R s m args below meth c Zf M B sb Lx xs D cI cJ cZ n0 b0 pc L ((0, b) :: (0, a) :: S) h := by
  obtain ⟨hx, hb, -⟩ := C
  intro H locs cells slots ls hH hS hL hO hc hsc
  have hb1 : in32 b := hO _ List.mem_cons_self
  have ha1 : in32 a := hO _ (List.mem_cons_of_mem _ List.mem_cons_self)
  have hO2 : ∀ u ∈ S, okv (h (-3) 0) u := fun u hu => hO u (List.mem_cons_of_mem _ (List.mem_cons_of_mem _ hu))
  have K := hk H locs cells slots ls hH hS hL (okS_cons (show in32 (a.tmod b) from tmod_in32 ha1 hb1) hO2) hc hsc
  simp only [List.map_cons] at K ⊢
  rw [vl0, ← o_rem ha1 hb1] at K
  exact lv_irem hx hb hd (o_ne0 hb1 hne) K
theorem sj_ldiv (C : Cx p R s m args meth c M B sb Lx xs D cI cJ cZ d n0) {pc : Nat} {L S : List PV} {h : Hp} {a b : Int} (hd : decode (mC M) pc = .ok (.ldiv, 1)) (hne : b ≠ 0) (hk : SimP p l e R s m args below meth c Zf M B sb Lx xs D cI cJ cZ n0 b0 (pc + 1) L ((1, w64 (a.tdiv b)) :: S) h) : SimP p l e R s m args below meth c Zf M B sb Lx xs D cI cJ cZ n0 b0 pc L ((1, b) :: (1, a) :: S) h := by
  obtain ⟨hx, hb, -⟩ := C
  intro H locs cells slots ls hH hS hL hO hc hsc
  have hb1 : in64 b := hO _ List.mem_cons_self
  have ha1 : in64 a := hO _ (List.mem_cons_of_mem _ List.mem_cons_self)
  have hO2 : ∀ u ∈ S, okv (h (-3) 0) u := fun u hu => hO u (List.mem_cons_of_mem _ (List.mem_cons_of_mem _ hu))
  have K := hk H locs cells slots ls hH hS hL (okS_cons (show in64 (w64 (a.tdiv b)) from w64_in _) hO2) hc hsc
  simp only [List.map_cons] at K ⊢
  rw [vl1, ← p_div ha1 hb1] at K
  exact lv_ldiv hx hb hd (p_ne0 hb1 hne) K
theorem sj_lrem (C : Cx p R s m args meth c M B sb Lx xs D cI cJ cZ d n0) {pc : Nat} {L S : List PV} {h : Hp} {a b : Int} (hd : decode (mC M) pc = .ok (.lrem, 1)) (hne : b ≠ 0) (hk : SimP p l e R s m args below meth c Zf M B sb Lx xs D cI cJ cZ n0 b0 (pc + 1) L ((1, a.tmod b) :: S) h) : SimP p l e R s m args below meth c Zf M B sb Lx xs D cI cJ cZ n0 b0 pc L ((1, b) :: (1, a) :: S) h := by
  obtain ⟨hx, hb, -⟩ := C
  intro H locs cells slots ls hH hS hL hO hc hsc
  have hb1 : in64 b := hO _ List.mem_cons_self
  have ha1 : in64 a := hO _ (List.mem_cons_of_mem _ List.mem_cons_self)
  have hO2 : ∀ u ∈ S, okv (h (-3) 0) u := fun u hu => hO u (List.mem_cons_of_mem _ (List.mem_cons_of_mem _ hu))
  have K := hk H locs cells slots ls hH hS hL (okS_cons (show in64 (a.tmod b) from tmod_in64 ha1 hb1) hO2) hc hsc
  simp only [List.map_cons] at K ⊢
  rw [vl1, ← p_rem ha1 hb1] at K
  exact lv_lrem hx hb hd (p_ne0 hb1 hne) K
theorem sj_tab (C : Cx p R s m args meth c M B sb Lx xs D cI cJ cZ d n0) {pc len : Nat} {L S : List PV} {h : Hp} {df lo hi : Int} {offs : Array Int} {x off : Int} (hd : decode (mC M) pc = .ok (.tableswitch df lo hi offs, len)) (hs : swTab df lo hi offs x = some off) (hk : pjump pc off L S h (SimP p l e R s m args below meth c Zf M B sb Lx xs D cI cJ cZ n0 b0)) : SimP p l e R s m args below meth c Zf M B sb Lx xs D cI cJ cZ n0 b0 pc L ((0, x) :: S) h := by
  obtain ⟨hx, hb, -⟩ := C
  intro H locs cells slots ls hH hS hL hO hc hsc
  have ha1 : in32 x := hO _ List.mem_cons_self
  have K := hk.2 H locs cells slots ls hH hS hL (fun u hu => hO u (List.mem_cons_of_mem _ hu)) hc hsc
  unfold swTab at hs
  split at hs
  · rename_i hq
    obtain rfl := Option.some.inj hs
    exact lv_tableOut hx hb hd (by rw [i32_to ha1]; exact hq) (tgt_eq hk.1) K
  · rename_i hq
    exact lv_tableIn hx hb hd (by rw [i32_to ha1]; omega) (by rw [i32_to ha1]; omega) (by rw [i32_to ha1]; exact hs) (tgt_eq hk.1) K
theorem swLook_eq : ∀ (ps : List (Int × Int)) (df x : Int), swLook ps df x = Op.lookupswitch.offset ps df x
  | [], _, _ => rfl
  | (a, o) :: ps, df, x => by
    unfold swLook Op.lookupswitch.offset
    rw [swLook_eq ps df x]
    simp only [beq_iff_eq, eq_comm]
theorem sj_look (C : Cx p R s m args meth c M B sb Lx xs D cI cJ cZ d n0) {pc len : Nat} {L S : List PV} {h : Hp} {df : Int} {prs : Array (Int × Int)} {x : Int} (hd : decode (mC M) pc = .ok (.lookupswitch df prs, len)) (ha : ascP prs.toList = true) (hk : pjump pc (swLook prs.toList df x) L S h (SimP p l e R s m args below meth c Zf M B sb Lx xs D cI cJ cZ n0 b0)) : SimP p l e R s m args below meth c Zf M B sb Lx xs D cI cJ cZ n0 b0 pc L ((0, x) :: S) h := by
  obtain ⟨hx, hb, -⟩ := C
  intro H locs cells slots ls hH hS hL hO hc hsc
  have ha1 : in32 x := hO _ List.mem_cons_self
  have K := hk.2 H locs cells slots ls hH hS hL (fun u hu => hO u (List.mem_cons_of_mem _ hu)) hc hsc
  exact lv_lookup hx hb hd ha (by rw [i32_to ha1, ← swLook_eq]) (tgt_eq hk.1) K
end SIMJ
