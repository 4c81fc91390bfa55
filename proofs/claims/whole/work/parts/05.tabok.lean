/-! WHAT THE TABLES SAY is among the words of the Statement -/
def gtbl : List Cond := lw_tbl.filter goodWord
def isNest : Cond → Bool
  | .fieldLinkNest _ _ _ _ _ _ => true
  | .methodLinkNest _ _ _ _ => true
  | _ => false
def nestW : List Cond := lw_tbl.filter isNest
theorem gt_of {p : Nat} {w : Cond} (h : lw_tbl[p]? = some w) (hg : goodWord w = true) : w ∈ gtbl := List.mem_filter.mpr ⟨List.mem_of_getElem? h, hg⟩
theorem nw_of {p : Nat} {w : Cond} (h : lw_tbl[p]? = some w) (hg : isNest w = true) : w ∈ nestW := List.mem_filter.mpr ⟨List.mem_of_getElem? h, hg⟩
theorem find_spec {α : Type} {l : List α} {p : α → Bool} {q : α} (h : l.find? p = some q) : q ∈ l ∧ p q = true := ⟨List.mem_of_find?_eq_some h, List.find?_some h⟩
def tycode : FieldType → Nat
  | .int => 0
  | .long => 1
  | .boolean => 3
  | .object _ => 2
  | .array _ => 2
  | _ => 9
def fcond (o i ns ci k : Nat) : Cond := if ns = 1 then .fieldLinkNest (RC o) i (RC ci) (TC ci k).2.1 (TC ci k).2.2.1 "MeshWorlds" else .fieldLink (RC o) i (RC ci) (TC ci k).2.1 (TC ci k).2.2.1
def fchk (q : Nat × Nat × Nat × FldRow) : Bool := decide (lw_tbl[q.2.2.1]? = some (fcond q.1 q.2.1 q.2.2.2.1 q.2.2.2.2.1 q.2.2.2.2.2.1)) && decide (q.2.2.2.1 ≤ 1 ∧ q.2.2.2.2.1 ≤ 10 ∧ q.2.2.2.2.2.1 < NC q.2.2.2.2.1 ∧ (TC q.2.2.2.2.1 q.2.2.2.2.2.1).1 = RC q.2.2.2.2.1 ∧ ftT q.2.2.2.2.1 q.2.2.2.2.2.1 = q.2.2.2.2.2.2.1 ∧ tycode (tyC q.2.2.2.2.1 q.2.2.2.2.2.1) = q.2.2.2.2.2.2.1 ∧ q.2.2.2.2.2.2.2 ≤ 1 ∧ (TC q.2.2.2.2.1 q.2.2.2.2.2.1).2.2.2 = (q.2.2.2.2.2.2.2 == 1))
set_option maxRecDepth 100000 in
theorem fld_all : fldL.all fchk = true := by decide +kernel
def FldOK (o i ns ci k ty fin : Nat) : Prop := ((ns = 1 ∧ .fieldLinkNest (RC o) i (RC ci) (TC ci k).2.1 (TC ci k).2.2.1 "MeshWorlds" ∈ nestW) ∨ (ns = 0 ∧ .fieldLink (RC o) i (RC ci) (TC ci k).2.1 (TC ci k).2.2.1 ∈ gtbl)) ∧ ci ≤ 10 ∧ k < NC ci ∧ (TC ci k).1 = RC ci ∧ ftT ci k = ty ∧ tycode (tyC ci k) = ty ∧ fin ≤ 1 ∧ (TC ci k).2.2.2 = (fin == 1)
theorem fld_ok {o i ns ci k ty fin : Nat} (h : fldT o i = some (ns, ci, k, ty, fin)) : FldOK o i ns ci k ty fin := by
  unfold fldT at h
  rw [Option.map_eq_some_iff] at h
  obtain ⟨⟨o', i', p, row⟩, hf, hr⟩ := h
  obtain ⟨hm, hk⟩ := find_spec hf
  simp only [Bool.and_eq_true, beq_iff_eq] at hk
  dsimp only at hr hk
  obtain ⟨rfl, rfl⟩ := hk
  subst hr
  have hc := List.all_eq_true.mp fld_all _ hm
  simp only [fchk, Bool.and_eq_true, decide_eq_true_eq] at hc
  obtain ⟨h1, h2, h3, h4, h5, h6, h7, h8, h9⟩ := hc
  refine ⟨?_, h3, h4, h5, h6, h7, h8, h9⟩
  unfold fcond at h1
  by_cases hn : ns = 1
  · rw [if_pos hn] at h1
    exact Or.inl ⟨hn, nw_of h1 rfl⟩
  · rw [if_neg hn] at h1
    exact Or.inr ⟨by omega, gt_of h1 rfl⟩
def npar (kd : Nat) (M : MRec) : Nat := if kd ≤ 1 then (mA M).length else (mA M).length - 1
def MOK (M : MRec) : Prop := .code (mY M) (mC M) (mX M) (mT M) ∈ gtbl ∧ .initialized (mY M).cls ∈ gtbl ∧ ((mY M).cls ≠ "java/lang/invoke/MethodHandle" ∧ (mY M).cls ≠ "java/lang/invoke/VarHandle") ∧ RC (mO M) = (mY M).cls ∧ plainName (mY M).cls = true ∧ mO M ≤ 10 ∧ (mT M = none ∨ mT M = some .int ∨ mT M = some .boolean ∨ mT M = some .long ∨ ∃ s, mT M = some (.object s))
def CalOK (o i kd : Nat) (M : MRec) : Prop :=
  (kd = 6 ∧ .methodLink (RC o) i objectInit ∈ gtbl) ∨ (kd = 8 ∧ .methodLink (RC o) i arraycopyName ∈ gtbl) ∨ (kd = 9 ∧ .methodLink (RC o) i Lib.Math.max.name ∈ gtbl) ∨ (kd = 10 ∧ .methodLink (RC o) i Lib.Math.min.name ∈ gtbl) ∨
  (MOK M ∧ (parseMethodDescriptor (mY M).desc).map (fun d => d.parameters.length) = some (npar kd M) ∧ ((kd = 0 ∧ .methodLink (RC o) i (mY M) ∈ gtbl ∧ .static (mY M) ∈ gtbl) ∨ (kd = 1 ∧ .methodLinkNest (RC o) i (mY M) "MeshWorlds" ∈ nestW ∧ .static (mY M) ∈ gtbl) ∨ (kd = 2 ∧ .methodLink (RC o) i (mY M) ∈ gtbl ∧ .instanceMethod (mY M) ∈ gtbl ∧ .selects (mY M).cls (mY M) (mY M) ∈ gtbl) ∨ (kd = 3 ∧ .methodLinkNest (RC o) i (mY M) "MeshWorlds" ∈ nestW ∧ .instanceMethod (mY M) ∈ gtbl ∧ .selects (mY M).cls (mY M) (mY M) ∈ gtbl) ∨ (kd = 4 ∧ .methodLink (RC o) i (mY M) ∈ gtbl ∧ .instanceMethod (mY M) ∈ gtbl ∧ (mY M).name = "<init>" ∧ mT M = none)))
theorem in_t1 {w : Cond} (h : w ∈ tables_1_1) : w ∈ lw_tbl := List.mem_append_right _ (List.mem_append_left _ h)
theorem in_t2 {w : Cond} (h : w ∈ tables_1_2) : w ∈ lw_tbl := List.mem_append_right _ (List.mem_append_right _ (List.mem_append_left _ h))
theorem in_t3 {w : Cond} (h : w ∈ tables_1_3) : w ∈ lw_tbl := List.mem_append_right _ (List.mem_append_right _ (List.mem_append_right _ (List.mem_append_left _ h)))
theorem in_t4 {w : Cond} (h : w ∈ tables_1_4) : w ∈ lw_tbl := List.mem_append_right _ (List.mem_append_right _ (List.mem_append_right _ (List.mem_append_right _ (List.mem_append_left _ h))))
theorem in_t5 {w : Cond} (h : w ∈ tables_1_5) : w ∈ lw_tbl := List.mem_append_right _ (List.mem_append_right _ (List.mem_append_right _ (List.mem_append_right _ (List.mem_append_right _ (List.mem_append_left _ h)))))
theorem in_t6 {w : Cond} (h : w ∈ tables_1_6) : w ∈ lw_tbl := List.mem_append_right _ (List.mem_append_right _ (List.mem_append_right _ (List.mem_append_right _ (List.mem_append_right _ (List.mem_append_right _ (List.mem_append_left _ h))))))
theorem in_t7 {w : Cond} (h : w ∈ tables_1_7) : w ∈ lw_tbl := List.mem_append_right _ (List.mem_append_right _ (List.mem_append_right _ (List.mem_append_right _ (List.mem_append_right _ (List.mem_append_right _ (List.mem_append_right _ h))))))
theorem in_sel {q : MethodName × Nat} (h : q ∈ lw_privs) : Cond.selects q.1.cls q.1 q.1 ∈ lw_tbl := List.mem_append_left _ (List.mem_map.mpr ⟨q, h, rfl⟩)
theorem in_p1 {q : MethodName × Nat} (h : q ∈ lw_privs_1) : q ∈ lw_privs := List.mem_append_left _ h
theorem in_p2 {q : MethodName × Nat} (h : q ∈ lw_privs_2) : q ∈ lw_privs := List.mem_append_right _ (List.mem_append_left _ h)
theorem in_p3 {q : MethodName × Nat} (h : q ∈ lw_privs_3) : q ∈ lw_privs := List.mem_append_right _ (List.mem_append_right _ (List.mem_append_left _ h))
theorem in_p4 {q : MethodName × Nat} (h : q ∈ lw_privs_4) : q ∈ lw_privs := List.mem_append_right _ (List.mem_append_right _ (List.mem_append_right _ h))
theorem gtm {w : Cond} (h : w ∈ lw_tbl) (hg : goodWord w = true) : w ∈ gtbl := List.mem_filter.mpr ⟨h, hg⟩
theorem nwm {w : Cond} (h : w ∈ lw_tbl) (hg : isNest w = true) : w ∈ nestW := List.mem_filter.mpr ⟨h, hg⟩
