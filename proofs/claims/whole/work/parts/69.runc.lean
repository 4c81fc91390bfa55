/-! run: the class and the reference -/
/-- the rows 32, 33, 34, 35, 36 replaced -/
def vC (h : Hp) (r32 r33 r34 r35 r36 : Int → Int) : Hp := fun a => if a = 32 then r32 else if a = 33 then r33 else if a = 34 then r34 else if a = 35 then r35 else if a = 36 then r36 else h a
section VvC
variable {h : Hp} {r32 r33 r34 r35 r36 : Int → Int}
theorem vC_id : vC h (h 32) (h 33) (h 34) (h 35) (h 36) = h := by
  funext a
  unfold vC
  repeat' split
  all_goals first | rfl | (subst_vars; rfl)
theorem vC_r32 : vC h r32 r33 r34 r35 r36 32 = r32 := rfl
theorem vC_r33 : vC h r32 r33 r34 r35 r36 33 = r33 := rfl
theorem vC_r34 : vC h r32 r33 r34 r35 r36 34 = r34 := rfl
theorem vC_r35 : vC h r32 r33 r34 r35 r36 35 = r35 := rfl
theorem vC_r36 : vC h r32 r33 r34 r35 r36 36 = r36 := rfl
theorem vC_off {a : Int} (h32 : a ≠ 32) (h33 : a ≠ 33) (h34 : a ≠ 34) (h35 : a ≠ 35) (h36 : a ≠ 36) : vC h r32 r33 r34 r35 r36 a = h a := by
  unfold vC
  rw [if_neg h32, if_neg h33, if_neg h34, if_neg h35, if_neg h36]
theorem vC_w32 (f : Int → Int) : hrow (vC h r32 r33 r34 r35 r36) 32 f = vC h f r33 r34 r35 r36 := by
  funext a
  unfold hrow vC
  by_cases z : a = 32
  · subst z; rfl
  · simp only [if_neg z]
theorem vC_s32 (i v : Int) : hst (vC h r32 r33 r34 r35 r36) 32 i v = vC h (up r32 i v) r33 r34 r35 r36 := by
  rw [hst_row, vC_w32]
  rfl
theorem vC_w33 (f : Int → Int) : hrow (vC h r32 r33 r34 r35 r36) 33 f = vC h r32 f r34 r35 r36 := by
  funext a
  unfold hrow vC
  by_cases z : a = 33
  · subst z; rfl
  · simp only [if_neg z]
theorem vC_s33 (i v : Int) : hst (vC h r32 r33 r34 r35 r36) 33 i v = vC h r32 (up r33 i v) r34 r35 r36 := by
  rw [hst_row, vC_w33]
  rfl
theorem vC_w34 (f : Int → Int) : hrow (vC h r32 r33 r34 r35 r36) 34 f = vC h r32 r33 f r35 r36 := by
  funext a
  unfold hrow vC
  by_cases z : a = 34
  · subst z; rfl
  · simp only [if_neg z]
theorem vC_s34 (i v : Int) : hst (vC h r32 r33 r34 r35 r36) 34 i v = vC h r32 r33 (up r34 i v) r35 r36 := by
  rw [hst_row, vC_w34]
  rfl
theorem vC_w35 (f : Int → Int) : hrow (vC h r32 r33 r34 r35 r36) 35 f = vC h r32 r33 r34 f r36 := by
  funext a
  unfold hrow vC
  by_cases z : a = 35
  · subst z; rfl
  · simp only [if_neg z]
theorem vC_s35 (i v : Int) : hst (vC h r32 r33 r34 r35 r36) 35 i v = vC h r32 r33 r34 (up r35 i v) r36 := by
  rw [hst_row, vC_w35]
  rfl
theorem vC_w36 (f : Int → Int) : hrow (vC h r32 r33 r34 r35 r36) 36 f = vC h r32 r33 r34 r35 f := by
  funext a
  unfold hrow vC
  by_cases z : a = 36
  · subst z; rfl
  · simp only [if_neg z]
theorem vC_s36 (i v : Int) : hst (vC h r32 r33 r34 r35 r36) 36 i v = vC h r32 r33 r34 r35 (up r36 i v) := by
  rw [hst_row, vC_w36]
  rfl
end VvC
/-- the rows 76, 77, 78, 79, 80 replaced -/
def vM (h : Hp) (r76 r77 r78 r79 r80 : Int → Int) : Hp := fun a => if a = 76 then r76 else if a = 77 then r77 else if a = 78 then r78 else if a = 79 then r79 else if a = 80 then r80 else h a
section VvM
variable {h : Hp} {r76 r77 r78 r79 r80 : Int → Int}
theorem vM_id : vM h (h 76) (h 77) (h 78) (h 79) (h 80) = h := by
  funext a
  unfold vM
  repeat' split
  all_goals first | rfl | (subst_vars; rfl)
theorem vM_r76 : vM h r76 r77 r78 r79 r80 76 = r76 := rfl
theorem vM_r77 : vM h r76 r77 r78 r79 r80 77 = r77 := rfl
theorem vM_r78 : vM h r76 r77 r78 r79 r80 78 = r78 := rfl
theorem vM_r79 : vM h r76 r77 r78 r79 r80 79 = r79 := rfl
theorem vM_r80 : vM h r76 r77 r78 r79 r80 80 = r80 := rfl
theorem vM_off {a : Int} (h76 : a ≠ 76) (h77 : a ≠ 77) (h78 : a ≠ 78) (h79 : a ≠ 79) (h80 : a ≠ 80) : vM h r76 r77 r78 r79 r80 a = h a := by
  unfold vM
  rw [if_neg h76, if_neg h77, if_neg h78, if_neg h79, if_neg h80]
theorem vM_w76 (f : Int → Int) : hrow (vM h r76 r77 r78 r79 r80) 76 f = vM h f r77 r78 r79 r80 := by
  funext a
  unfold hrow vM
  by_cases z : a = 76
  · subst z; rfl
  · simp only [if_neg z]
theorem vM_s76 (i v : Int) : hst (vM h r76 r77 r78 r79 r80) 76 i v = vM h (up r76 i v) r77 r78 r79 r80 := by
  rw [hst_row, vM_w76]
  rfl
theorem vM_w77 (f : Int → Int) : hrow (vM h r76 r77 r78 r79 r80) 77 f = vM h r76 f r78 r79 r80 := by
  funext a
  unfold hrow vM
  by_cases z : a = 77
  · subst z; rfl
  · simp only [if_neg z]
theorem vM_s77 (i v : Int) : hst (vM h r76 r77 r78 r79 r80) 77 i v = vM h r76 (up r77 i v) r78 r79 r80 := by
  rw [hst_row, vM_w77]
  rfl
theorem vM_w78 (f : Int → Int) : hrow (vM h r76 r77 r78 r79 r80) 78 f = vM h r76 r77 f r79 r80 := by
  funext a
  unfold hrow vM
  by_cases z : a = 78
  · subst z; rfl
  · simp only [if_neg z]
theorem vM_s78 (i v : Int) : hst (vM h r76 r77 r78 r79 r80) 78 i v = vM h r76 r77 (up r78 i v) r79 r80 := by
  rw [hst_row, vM_w78]
  rfl
theorem vM_w79 (f : Int → Int) : hrow (vM h r76 r77 r78 r79 r80) 79 f = vM h r76 r77 r78 f r80 := by
  funext a
  unfold hrow vM
  by_cases z : a = 79
  · subst z; rfl
  · simp only [if_neg z]
theorem vM_s79 (i v : Int) : hst (vM h r76 r77 r78 r79 r80) 79 i v = vM h r76 r77 r78 (up r79 i v) r80 := by
  rw [hst_row, vM_w79]
  rfl
theorem vM_w80 (f : Int → Int) : hrow (vM h r76 r77 r78 r79 r80) 80 f = vM h r76 r77 r78 r79 f := by
  funext a
  unfold hrow vM
  by_cases z : a = 80
  · subst z; rfl
  · simp only [if_neg z]
theorem vM_s80 (i v : Int) : hst (vM h r76 r77 r78 r79 r80) 80 i v = vM h r76 r77 r78 r79 (up r80 i v) := by
  rw [hst_row, vM_w80]
  rfl
end VvM

section RUN
variable {n : Int} {d : Nat} {Q : Int → Hp → Prop} {h : Hp}
theorem e_workTick {r32 r33 r34 r35 B : Int → Int} {m wait : Int} (hm : 0 ≤ m ∧ m < 6) : wpS (EF n) (d + 2) mX0_workTick [(2, 30), (0, m), (0, wait)] (vC h r32 r33 r34 r35 B) Q = Q 0 (vC h (up r32 m (w32 ((wtk (fun k => bitI (B m) k) r34 wait m 6).1 + r35 m))) (up r33 m (wtk (fun k => bitI (B m) k) r34 wait m 6).2) r34 r35 B) := by
  rw [u_X0_workTick, and_tl hm]
  have l := loop_n (P := fun k => Ws (EF n) (d + 1) mX0_workTick Q 13 [(2, 30), (0, m), (0, wait), (0, (wtk (fun k => bitI (B m) k) r34 wait m k).1), (0, (wtk (fun k => bitI (B m) k) r34 wait m k).2), (0, (k : Int))] [] (vC h r32 r33 r34 r35 B)) 6 (by
    intro k hk
    rw [b_X0_workTick_13, if_pos (by omega), and_tl hm, e_isIn, b2_if, w32_n1 (by omega), vC_r36, vC_r34]
    show _ = Ws (EF n) (d + 1) mX0_workTick Q 13 [(2, 30), (0, m), (0, wait), (0, (if bitI (B m) k ∧ (wtk (fun k => bitI (B m) k) r34 wait m k).1 < w32 (r34 k + wait) then (w32 (r34 k + wait), (k : Int)) else wtk (fun k => bitI (B m) k) r34 wait m k).1), (0, (if bitI (B m) k ∧ (wtk (fun k => bitI (B m) k) r34 wait m k).1 < w32 (r34 k + wait) then (w32 (r34 k + wait), (k : Int)) else wtk (fun k => bitI (B m) k) r34 wait m k).2), (0, ((k + 1 : Nat) : Int))] [] (vC h r32 r33 r34 r35 B)
    by_cases z : bitI (B m) k
    · rw [if_pos z, and_tl (by omega)]
      by_cases w : (wtk (fun k => bitI (B m) k) r34 wait m k).1 < w32 (r34 k + wait)
      · rw [if_pos w, and_tl (by omega), if_pos ⟨z, w⟩]
      · rw [if_neg w, if_neg (fun q => w q.2)]
    · rw [if_neg z, if_neg (fun q => z q.1)])
  refine l.trans ?_
  show Ws (EF n) (d + 1) mX0_workTick Q 13 [(2, 30), (0, m), (0, wait), (0, _), (0, _), (0, ((6 : Nat) : Int))] [] _ = _
  rw [b_X0_workTick_13, if_neg (by decide), and_tl hm, and_tl hm, and_tl hm, vC_r35, vC_s32, vC_s33]
theorem e_workThrough {N wait : Int} {B : Int → Int} (hB : B = lkB (giv h) 256 (zr6 (h 36) 6)) (hN : 0 ≤ N ∧ N ≤ 20) (hO : ∀ s : Int, 0 ≤ s → s < 256 → isN (h 19 s)) (hG : ∀ c : Int, 0 ≤ c → c < 336 → 0 ≤ h 14 c ∧ h 14 c < 6) : wpS (EF n) (d + 5) mX0_workThrough [(2, 30), (2, 11), (0, N), (0, wait)] h Q = Q (fr (fun a m => if a < Et (fun m k => bitI (B m) k) (wk (h 12) (h 14) (h 31)) wait N.toNat m then Et (fun m k => bitI (B m) k) (wk (h 12) (h 14) (h 31)) wait N.toNat m else a) 6 0) (vC h (pf (Et (fun m k => bitI (B m) k) (wk (h 12) (h 14) (h 31)) wait N.toNat) (h 32) 6) (Wt (fun m k => bitI (B m) k) (wk (h 12) (h 14) (h 31)) wait (h 33) N.toNat) (Rt (Et (fun m k => bitI (B m) k) (wk (h 12) (h 14) (h 31)) wait) (h 34) N.toNat) (pf (wk (h 12) (h 14) (h 31)) (h 35) 6) B) := by
  rw [u_X0_workThrough, e_lookAround hO hG, ← hB]
  clear hB
  have e0 : hrow h 36 B = vC h (h 32) (h 33) (h 34) (h 35) B := by
    have := vC_w36 (h := h) (r32 := h 32) (r33 := h 33) (r34 := h 34) (r35 := h 35) (r36 := h 36) B
    rw [vC_id] at this
    exact this
  rw [e0]
  have hwk : wk (h 12) (h 14) (h 31) = wk (h 12) (h 14) (h 31) := rfl
  revert hwk
  generalize hW : wk (h 12) (h 14) (h 31) = wks
  intro _
  have l1 := loop_n (P := fun k => Ws (EF n) (d + 4) mX0_workThrough Q 9 [(2, 30), (2, 11), (0, N), (0, wait), (0, (k : Int)), (9, 0)] [] (vC h (pf (fun _ => 0) (h 32) k) (h 33) (h 34) (pf wks (h 35) k) B)) 6 (by
    intro k hk
    rw [b_X0_workThrough_9, if_pos (by omega), e_workOf (by omega), and_tl (by omega), and_tl (by omega), w32_n1 (by omega), vC_s35, vC_s32]
    have e : wk (vC h (pf (fun _ => 0) (h 32) k) (h 33) (h 34) (pf wks (h 35) k) B 12) (vC h (pf (fun _ => 0) (h 32) k) (h 33) (h 34) (pf wks (h 35) k) B 14) (vC h (pf (fun _ => 0) (h 32) k) (h 33) (h 34) (pf wks (h 35) k) B 31) k = wks k := congrFun hW k
    rw [e, pf_s (fun _ => 0), pf_s])
  rw [pf_0, pf_0] at l1
  have tick : ∀ (t : Nat) (v : PV) (r34 : Int → Int), t < N.toNat → Ws (EF n) (d + 4) mX0_workThrough Q 47 [(2, 30), (2, 11), (0, N), (0, wait), (0, (t : Int)), v] [] (vC h (pf (Et (fun m k => bitI (B m) k) wks wait t) (h 32) 6) (Wt (fun m k => bitI (B m) k) wks wait (h 33) t) r34 (pf wks (h 35) 6) B) = Ws (EF n) (d + 4) mX0_workThrough Q 47 [(2, 30), (2, 11), (0, N), (0, wait), (0, ((t + 1 : Nat) : Int)), (0, 6)] [] (vC h (pf (Et (fun m k => bitI (B m) k) wks wait (t + 1)) (h 32) 6) (Wt (fun m k => bitI (B m) k) wks wait (h 33) (t + 1)) (pf (Et (fun m k => bitI (B m) k) wks wait t) r34 6) (pf wks (h 35) 6) B) := by
    intro t v r34 ht
    rw [b_X0_workThrough_47, if_pos (by omega), and_tl (by decide), hcpy_row, vC_w34, vC_r32, vC_r34]
    have e34 : (fun i : Int => if 0 ≤ i ∧ i < 0 + 6 then pf (Et (fun m k => bitI (B m) k) wks wait t) (h 32) 6 (0 + (i - 0)) else r34 i) = pf (Et (fun m k => bitI (B m) k) wks wait t) r34 6 := by
      funext i
      show _ = if 0 ≤ i ∧ i < 6 then _ else _
      by_cases z : 0 ≤ i ∧ i < 6
      · rw [if_pos z, if_pos (by omega), show (0 + (i - 0) : Int) = i by omega, pf_in z]
      · rw [if_neg z, if_neg (by omega)]
    rw [e34]
    have l2 := loop_n (P := fun k => Ws (EF n) (d + 4) mX0_workThrough Q 71 [(2, 30), (2, 11), (0, N), (0, wait), (0, (t : Int)), (0, (k : Int))] [] (vC h (pf (Et (fun m k => bitI (B m) k) wks wait (t + 1)) (pf (Et (fun m k => bitI (B m) k) wks wait t) (h 32) 6) k) (pf (fun m => (wtk (fun k => bitI (B m) k) (Et (fun m k => bitI (B m) k) wks wait t) wait m 6).2) (Wt (fun m k => bitI (B m) k) wks wait (h 33) t) k) (pf (Et (fun m k => bitI (B m) k) wks wait t) r34 6) (pf wks (h 35) 6) B)) 6 (by
      intro k hk
      have ew : wtk (fun j => bitI (B k) j) (pf (Et (fun m k => bitI (B m) k) wks wait t) r34 6) wait k 6 = wtk (fun j => bitI (B k) j) (Et (fun m k => bitI (B m) k) wks wait t) wait k 6 := wtk_c (pf_in (by omega)) 6 (fun j hj => ⟨Iff.rfl, pf_in (by omega)⟩)
      rw [b_X0_workThrough_71, if_pos (by omega), e_workTick (by omega), w32_n1 (by omega), ew, pf_in (f := wks) (by omega)]
      have p1 := pf_s (Et (fun m k => bitI (B m) k) wks wait (t + 1)) (pf (Et (fun m k => bitI (B m) k) wks wait t) (h 32) 6) k
      have p2 := pf_s (fun m => (wtk (fun k => bitI (B m) k) (Et (fun m k => bitI (B m) k) wks wait t) wait m 6).2) (Wt (fun m k => bitI (B m) k) wks wait (h 33) t) k
      rw [← p1, ← p2]
      rfl)
    rw [pf_0, pf_0] at l2
    refine l2.trans ?_
    show Ws (EF n) (d + 4) mX0_workThrough Q 71 [(2, 30), (2, 11), (0, N), (0, wait), (0, (t : Int)), (0, ((6 : Nat) : Int))] [] _ = _
    rw [b_X0_workThrough_71, if_neg (by decide), w32_n1 (by omega)]
    show Ws (EF n) (d + 4) mX0_workThrough Q 47 [(2, 30), (2, 11), (0, N), (0, wait), (0, ((t + 1 : Nat) : Int)), (0, 6)] [] (vC h (pf (Et (fun m k => bitI (B m) k) wks wait (t + 1)) (pf (Et (fun m k => bitI (B m) k) wks wait t) (h 32) 6) 6) _ _ _ _) = _
    rw [pf_pf]
    rfl
  obtain ⟨v, l3⟩ := loop_x (α := PV) (P := fun v t => Ws (EF n) (d + 4) mX0_workThrough Q 47 [(2, 30), (2, 11), (0, N), (0, wait), (0, (t : Int)), v] [] (vC h (pf (Et (fun m k => bitI (B m) k) wks wait t) (h 32) 6) (Wt (fun m k => bitI (B m) k) wks wait (h 33) t) (Rt (Et (fun m k => bitI (B m) k) wks wait) (h 34) t) (pf wks (h 35) 6) B)) N.toNat (9, 0) (fun v t ht => ⟨(0, 6), tick t v _ ht⟩)
  refine l1.trans ?_
  show Ws (EF n) (d + 4) mX0_workThrough Q 9 [(2, 30), (2, 11), (0, N), (0, wait), (0, ((6 : Nat) : Int)), (9, 0)] [] _ = _
  rw [b_X0_workThrough_9, if_neg (by decide)]
  refine l3.trans ?_
  show Ws (EF n) (d + 4) mX0_workThrough Q 47 [(2, 30), (2, 11), (0, N), (0, wait), (0, _), v] [] (vC h _ _ _ _ _) = _
  rw [b_X0_workThrough_47, if_neg (by omega)]
  have l4 := fr_loop (P := fun a k => Ws (EF n) (d + 4) mX0_workThrough Q 103 [(2, 30), (2, 11), (0, N), (0, wait), (0, a), (0, k)] [] (vC h (pf (Et (fun m k => bitI (B m) k) wks wait N.toNat) (h 32) 6) (Wt (fun m k => bitI (B m) k) wks wait (h 33) N.toNat) (Rt (Et (fun m k => bitI (B m) k) wks wait) (h 34) N.toNat) (pf wks (h 35) 6) B)) (fun a m => if a < Et (fun m k => bitI (B m) k) wks wait N.toNat m then Et (fun m k => bitI (B m) k) wks wait N.toNat m else a) 6 0 (by
    intro k a hk
    show Ws (EF n) (d + 4) mX0_workThrough Q 103 [(2, 30), (2, 11), (0, N), (0, wait), (0, a), (0, (k : Int))] [] _ = _
    rw [b_X0_workThrough_103, if_pos (by omega), and_tl (by omega), w32_n1 (by omega), vC_r32, pf_in (by omega)])
  refine l4.trans ?_
  show Ws (EF n) (d + 4) mX0_workThrough Q 103 [(2, 30), (2, 11), (0, N), (0, wait), (0, _), (0, ((6 : Nat) : Int))] [] _ = _
  rw [b_X0_workThrough_103, if_neg (by decide)]
end RUN
