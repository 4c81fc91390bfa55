/-! keep -/
/-- the rows 37, 38, 39, 40 replaced -/
def vKa (h : Hp) (r37 r38 r39 r40 : Int → Int) : Hp := fun a => if a = 37 then r37 else if a = 38 then r38 else if a = 39 then r39 else if a = 40 then r40 else h a
section VvKa
variable {h : Hp} {r37 r38 r39 r40 : Int → Int}
theorem vKa_id : vKa h (h 37) (h 38) (h 39) (h 40) = h := by
  funext a
  unfold vKa
  repeat' split
  all_goals first | rfl | (subst_vars; rfl)
theorem vKa_r37 : vKa h r37 r38 r39 r40 37 = r37 := rfl
theorem vKa_r38 : vKa h r37 r38 r39 r40 38 = r38 := rfl
theorem vKa_r39 : vKa h r37 r38 r39 r40 39 = r39 := rfl
theorem vKa_r40 : vKa h r37 r38 r39 r40 40 = r40 := rfl
theorem vKa_off {a : Int} (h37 : a ≠ 37) (h38 : a ≠ 38) (h39 : a ≠ 39) (h40 : a ≠ 40) : vKa h r37 r38 r39 r40 a = h a := by
  unfold vKa
  rw [if_neg h37, if_neg h38, if_neg h39, if_neg h40]
theorem vKa_w37 (f : Int → Int) : hrow (vKa h r37 r38 r39 r40) 37 f = vKa h f r38 r39 r40 := by
  funext a
  unfold hrow vKa
  by_cases z : a = 37
  · subst z; rfl
  · simp only [if_neg z]
theorem vKa_s37 (i v : Int) : hst (vKa h r37 r38 r39 r40) 37 i v = vKa h (up r37 i v) r38 r39 r40 := by
  rw [hst_row, vKa_w37]
  rfl
theorem vKa_w38 (f : Int → Int) : hrow (vKa h r37 r38 r39 r40) 38 f = vKa h r37 f r39 r40 := by
  funext a
  unfold hrow vKa
  by_cases z : a = 38
  · subst z; rfl
  · simp only [if_neg z]
theorem vKa_s38 (i v : Int) : hst (vKa h r37 r38 r39 r40) 38 i v = vKa h r37 (up r38 i v) r39 r40 := by
  rw [hst_row, vKa_w38]
  rfl
theorem vKa_w39 (f : Int → Int) : hrow (vKa h r37 r38 r39 r40) 39 f = vKa h r37 r38 f r40 := by
  funext a
  unfold hrow vKa
  by_cases z : a = 39
  · subst z; rfl
  · simp only [if_neg z]
theorem vKa_s39 (i v : Int) : hst (vKa h r37 r38 r39 r40) 39 i v = vKa h r37 r38 (up r39 i v) r40 := by
  rw [hst_row, vKa_w39]
  rfl
theorem vKa_w40 (f : Int → Int) : hrow (vKa h r37 r38 r39 r40) 40 f = vKa h r37 r38 r39 f := by
  funext a
  unfold hrow vKa
  by_cases z : a = 40
  · subst z; rfl
  · simp only [if_neg z]
theorem vKa_s40 (i v : Int) : hst (vKa h r37 r38 r39 r40) 40 i v = vKa h r37 r38 r39 (up r40 i v) := by
  rw [hst_row, vKa_w40]
  rfl
end VvKa
/-- the rows 41, 42, 43, 44 replaced -/
def vKb (h : Hp) (r41 r42 r43 r44 : Int → Int) : Hp := fun a => if a = 41 then r41 else if a = 42 then r42 else if a = 43 then r43 else if a = 44 then r44 else h a
section VvKb
variable {h : Hp} {r41 r42 r43 r44 : Int → Int}
theorem vKb_id : vKb h (h 41) (h 42) (h 43) (h 44) = h := by
  funext a
  unfold vKb
  repeat' split
  all_goals first | rfl | (subst_vars; rfl)
theorem vKb_r41 : vKb h r41 r42 r43 r44 41 = r41 := rfl
theorem vKb_r42 : vKb h r41 r42 r43 r44 42 = r42 := rfl
theorem vKb_r43 : vKb h r41 r42 r43 r44 43 = r43 := rfl
theorem vKb_r44 : vKb h r41 r42 r43 r44 44 = r44 := rfl
theorem vKb_off {a : Int} (h41 : a ≠ 41) (h42 : a ≠ 42) (h43 : a ≠ 43) (h44 : a ≠ 44) : vKb h r41 r42 r43 r44 a = h a := by
  unfold vKb
  rw [if_neg h41, if_neg h42, if_neg h43, if_neg h44]
theorem vKb_w41 (f : Int → Int) : hrow (vKb h r41 r42 r43 r44) 41 f = vKb h f r42 r43 r44 := by
  funext a
  unfold hrow vKb
  by_cases z : a = 41
  · subst z; rfl
  · simp only [if_neg z]
theorem vKb_s41 (i v : Int) : hst (vKb h r41 r42 r43 r44) 41 i v = vKb h (up r41 i v) r42 r43 r44 := by
  rw [hst_row, vKb_w41]
  rfl
theorem vKb_w42 (f : Int → Int) : hrow (vKb h r41 r42 r43 r44) 42 f = vKb h r41 f r43 r44 := by
  funext a
  unfold hrow vKb
  by_cases z : a = 42
  · subst z; rfl
  · simp only [if_neg z]
theorem vKb_s42 (i v : Int) : hst (vKb h r41 r42 r43 r44) 42 i v = vKb h r41 (up r42 i v) r43 r44 := by
  rw [hst_row, vKb_w42]
  rfl
theorem vKb_w43 (f : Int → Int) : hrow (vKb h r41 r42 r43 r44) 43 f = vKb h r41 r42 f r44 := by
  funext a
  unfold hrow vKb
  by_cases z : a = 43
  · subst z; rfl
  · simp only [if_neg z]
theorem vKb_s43 (i v : Int) : hst (vKb h r41 r42 r43 r44) 43 i v = vKb h r41 r42 (up r43 i v) r44 := by
  rw [hst_row, vKb_w43]
  rfl
theorem vKb_w44 (f : Int → Int) : hrow (vKb h r41 r42 r43 r44) 44 f = vKb h r41 r42 r43 f := by
  funext a
  unfold hrow vKb
  by_cases z : a = 44
  · subst z; rfl
  · simp only [if_neg z]
theorem vKb_s44 (i v : Int) : hst (vKb h r41 r42 r43 r44) 44 i v = vKb h r41 r42 r43 (up r44 i v) := by
  rw [hst_row, vKb_w44]
  rfl
end VvKb
/-- the rows 81, 82, 83, 84, 85, 86 replaced -/
def vKm (h : Hp) (r81 r82 r83 r84 r85 r86 : Int → Int) : Hp := fun a => if a = 81 then r81 else if a = 82 then r82 else if a = 83 then r83 else if a = 84 then r84 else if a = 85 then r85 else if a = 86 then r86 else h a
section VvKm
variable {h : Hp} {r81 r82 r83 r84 r85 r86 : Int → Int}
theorem vKm_id : vKm h (h 81) (h 82) (h 83) (h 84) (h 85) (h 86) = h := by
  funext a
  unfold vKm
  repeat' split
  all_goals first | rfl | (subst_vars; rfl)
theorem vKm_r81 : vKm h r81 r82 r83 r84 r85 r86 81 = r81 := rfl
theorem vKm_r82 : vKm h r81 r82 r83 r84 r85 r86 82 = r82 := rfl
theorem vKm_r83 : vKm h r81 r82 r83 r84 r85 r86 83 = r83 := rfl
theorem vKm_r84 : vKm h r81 r82 r83 r84 r85 r86 84 = r84 := rfl
theorem vKm_r85 : vKm h r81 r82 r83 r84 r85 r86 85 = r85 := rfl
theorem vKm_r86 : vKm h r81 r82 r83 r84 r85 r86 86 = r86 := rfl
theorem vKm_off {a : Int} (h81 : a ≠ 81) (h82 : a ≠ 82) (h83 : a ≠ 83) (h84 : a ≠ 84) (h85 : a ≠ 85) (h86 : a ≠ 86) : vKm h r81 r82 r83 r84 r85 r86 a = h a := by
  unfold vKm
  rw [if_neg h81, if_neg h82, if_neg h83, if_neg h84, if_neg h85, if_neg h86]
theorem vKm_w81 (f : Int → Int) : hrow (vKm h r81 r82 r83 r84 r85 r86) 81 f = vKm h f r82 r83 r84 r85 r86 := by
  funext a
  unfold hrow vKm
  by_cases z : a = 81
  · subst z; rfl
  · simp only [if_neg z]
theorem vKm_s81 (i v : Int) : hst (vKm h r81 r82 r83 r84 r85 r86) 81 i v = vKm h (up r81 i v) r82 r83 r84 r85 r86 := by
  rw [hst_row, vKm_w81]
  rfl
theorem vKm_w82 (f : Int → Int) : hrow (vKm h r81 r82 r83 r84 r85 r86) 82 f = vKm h r81 f r83 r84 r85 r86 := by
  funext a
  unfold hrow vKm
  by_cases z : a = 82
  · subst z; rfl
  · simp only [if_neg z]
theorem vKm_s82 (i v : Int) : hst (vKm h r81 r82 r83 r84 r85 r86) 82 i v = vKm h r81 (up r82 i v) r83 r84 r85 r86 := by
  rw [hst_row, vKm_w82]
  rfl
theorem vKm_w83 (f : Int → Int) : hrow (vKm h r81 r82 r83 r84 r85 r86) 83 f = vKm h r81 r82 f r84 r85 r86 := by
  funext a
  unfold hrow vKm
  by_cases z : a = 83
  · subst z; rfl
  · simp only [if_neg z]
theorem vKm_s83 (i v : Int) : hst (vKm h r81 r82 r83 r84 r85 r86) 83 i v = vKm h r81 r82 (up r83 i v) r84 r85 r86 := by
  rw [hst_row, vKm_w83]
  rfl
theorem vKm_w84 (f : Int → Int) : hrow (vKm h r81 r82 r83 r84 r85 r86) 84 f = vKm h r81 r82 r83 f r85 r86 := by
  funext a
  unfold hrow vKm
  by_cases z : a = 84
  · subst z; rfl
  · simp only [if_neg z]
theorem vKm_s84 (i v : Int) : hst (vKm h r81 r82 r83 r84 r85 r86) 84 i v = vKm h r81 r82 r83 (up r84 i v) r85 r86 := by
  rw [hst_row, vKm_w84]
  rfl
theorem vKm_w85 (f : Int → Int) : hrow (vKm h r81 r82 r83 r84 r85 r86) 85 f = vKm h r81 r82 r83 r84 f r86 := by
  funext a
  unfold hrow vKm
  by_cases z : a = 85
  · subst z; rfl
  · simp only [if_neg z]
theorem vKm_s85 (i v : Int) : hst (vKm h r81 r82 r83 r84 r85 r86) 85 i v = vKm h r81 r82 r83 r84 (up r85 i v) r86 := by
  rw [hst_row, vKm_w85]
  rfl
theorem vKm_w86 (f : Int → Int) : hrow (vKm h r81 r82 r83 r84 r85 r86) 86 f = vKm h r81 r82 r83 r84 r85 f := by
  funext a
  unfold hrow vKm
  by_cases z : a = 86
  · subst z; rfl
  · simp only [if_neg z]
theorem vKm_s86 (i v : Int) : hst (vKm h r81 r82 r83 r84 r85 r86) 86 i v = vKm h r81 r82 r83 r84 r85 (up r86 i v) := by
  rw [hst_row, vKm_w86]
  rfl
end VvKm
theorem hcpy_pf (h : Hp) (a0 a n : Int) : hcpy h a0 0 a 0 n = hrow h a (pf (h a0) (h a) n) := by
  rw [hcpy_row]
  congr 1
  funext i
  unfold pf
  rw [show (0 + (i - 0) : Int) = i by omega, show (0 + n : Int) = n by omega]
theorem pf_self (f g : Int → Int) (k j : Int) (h : 0 ≤ j ∧ j < k) : pf f g k j = f j := if_pos h
def psh (o : Int) (f g : Int → Int) (k : Int) : Int → Int := fun j => if o ≤ j ∧ j < o + k then f (j - o) else g j
theorem psh_0 (o : Int) (f g : Int → Int) : psh o f g ((0 : Nat) : Int) = g := by
  funext j
  unfold psh
  exact if_neg (by omega)
theorem psh_s (o : Int) (f g : Int → Int) (k : Nat) : up (psh o f g (k : Int)) (o + k) (f k) = psh o f g ((k + 1 : Nat) : Int) := by
  funext j
  unfold up psh
  by_cases z : j = o + (k : Int)
  · rw [if_pos z, if_pos (by omega), show j - o = (k : Int) by omega]
  · rw [if_neg z]
    by_cases w : o ≤ j ∧ j < o + (k : Int)
    · rw [if_pos w, if_pos (by omega)]
    · rw [if_neg w, if_neg (by omega)]
theorem psh_in {o : Int} {f g : Int → Int} {k c : Int} (h : 0 ≤ c ∧ c < k) : psh o f g k (o + c) = f c := by
  unfold psh
  rw [if_pos (by omega), show o + c - o = c by omega]
theorem psh_out {o : Int} {f g : Int → Int} {k c : Int} (h : ¬ (o ≤ c ∧ c < o + k)) : psh o f g k c = g c := if_neg h
theorem ix336 {s c : Int} (hs : s = 0 ∨ s = 1) (hc : 0 ≤ c ∧ c < 336) : w32 (w32 (336 * s) + c) = 336 * s + c := by
  rw [w32_of (x := 336 * s) (by omega) (by omega), w32_of (by omega) (by omega)]
theorem Prt_K {K K' O : Int → Int} (h : ∀ c : Int, 0 ≤ c → c < 336 → K' c = K c) (p : Prt K O) : Prt K' O := by
  refine ⟨fun s s0 s1 => ?_, fun c s c0 c1 c2 => p.2 c s c0 (by rw [← h c c0.1 c0.2]; exact c1) c2⟩
  obtain ⟨q1, q2, q3⟩ := p.1 s s0 s1
  exact ⟨q1, by rw [h _ q1.1 q1.2]; exact q2, q3⟩
theorem Prt_O {K O O' : Int → Int} (h : ∀ s : Int, 0 ≤ s → s < 256 → O' s = O s) (p : Prt K O) : Prt K O' := by
  refine ⟨fun s s0 s1 => ?_, fun c s c0 c1 c2 => ?_⟩
  · rw [h s s0 s1]
    exact p.1 s s0 s1
  · rw [h s c2.1.1 c2.1.2]
    exact p.2 c s c0 c1 c2
theorem e_take_a {n : Int} {d : Nat} {Q : Int → Hp → Prop} {h : Hp} (ha : ∀ k : Int, 0 ≤ k → k < 336 → 0 ≤ h 13 k ∧ h 13 k ≤ 1000000) : wpS (EF n) (d + 4) mX3_take [(2, 37), (2, 11)] h Q = Q 0 (vKa h (up (up (up (up (h 37) 3 (h 11 8)) 4 (sAm (h 12) (h 13))) 5 (sNm (h 12) (h 13))) 6 1) (pf (h 12) (h 38) 336) (pf (h 13) (h 39) 336) (pf (h 14) (h 40) 336)) := by
  have e1 : hcpy (hcpy (hcpy h 12 0 38 0 336) 13 0 39 0 336) 14 0 40 0 336 = vKa h (h 37) (pf (h 12) (h 38) 336) (pf (h 13) (h 39) 336) (pf (h 14) (h 40) 336) := by
    rw [hcpy_pf, hcpy_pf, hcpy_pf]
    have e0 : h = vKa h (h 37) (h 38) (h 39) (h 40) := vKa_id.symm
    conv => lhs; arg 1; arg 1; rw [e0]
    rw [vKa_w38, vKa_w39, vKa_w40]
    rfl
  rw [u_X3_take_a, e1, and_tl (by decide), and_tl (by decide), and_tl (by decide), vKa_s37]
  rw [e_sumOfAmounts (EF_11 n) (h := vKa h _ _ _ _) ha, vKa_s37, e_sumByNames (EF_11 n) (h := vKa h _ _ _ _) ha, vKa_s37, vKa_s37]
  rfl
theorem e_take_b {n : Int} {d : Nat} {Q : Int → Hp → Prop} {h : Hp} (ha : ∀ k : Int, 0 ≤ k → k < 336 → 0 ≤ h 13 k ∧ h 13 k ≤ 1000000) : wpS (EF n) (d + 4) mX3_take [(2, 41), (2, 11)] h Q = Q 0 (vKb h (up (up (up (up (h 41) 3 (h 11 8)) 4 (sAm (h 12) (h 13))) 5 (sNm (h 12) (h 13))) 6 1) (pf (h 12) (h 42) 336) (pf (h 13) (h 43) 336) (pf (h 14) (h 44) 336)) := by
  have e1 : hcpy (hcpy (hcpy h 12 0 42 0 336) 13 0 43 0 336) 14 0 44 0 336 = vKb h (h 41) (pf (h 12) (h 42) 336) (pf (h 13) (h 43) 336) (pf (h 14) (h 44) 336) := by
    rw [hcpy_pf, hcpy_pf, hcpy_pf]
    have e0 : h = vKb h (h 41) (h 42) (h 43) (h 44) := vKb_id.symm
    conv => lhs; arg 1; arg 1; rw [e0]
    rw [vKb_w42, vKb_w43, vKb_w44]
    rfl
  rw [u_X3_take_b, e1, and_tl (by decide), and_tl (by decide), and_tl (by decide), vKb_s41]
  rw [e_sumOfAmounts (EF_11 n) (h := vKb h _ _ _ _) ha, vKb_s41, e_sumByNames (EF_11 n) (h := vKb h _ _ _ _) ha, vKb_s41, vKb_s41]
  rfl
theorem e_m_keep {E : PvEnv} (hE : ∀ k, E 50 k = refT 50 k) {d : Nat} {Q : Int → Hp → Prop} {h : Hp} {s : Int} (hs : s = 0 ∨ s = 1) (hb : ∀ c : Int, 0 ≤ c → c < 336 → isBit (h 57 c)) : wpS E (d + 3) mX10_keep [(2, 50), (0, s)] h Q = Q (cM h 1) (vKm h (up (h 81) s 1) (psh (336 * s) (h 57) (h 82) 336) (psh (336 * s) (h 58) (h 83) 336) (psh (336 * s) (h 59) (h 84) 336) (psh (336 * s) (h 60) (h 85) 336) (up (h 86) s (h 50 28))) := by
  rw [u_X10_keep hE, e_m_isSlot, b2_if, if_pos (by omega), and_tl ⟨Or.inr rfl, by omega, by omega⟩, and_tl (by omega)]
  have e1 : hst (hst h 81 s 1) 86 s ((hst h 81 s 1) 50 28) = vKm h (up (h 81) s 1) (h 82) (h 83) (h 84) (h 85) (up (h 86) s (h 50 28)) := by
    have e0 : h = vKm h (h 81) (h 82) (h 83) (h 84) (h 85) (h 86) := vKm_id.symm
    have e2 : hst h 81 s 1 = vKm h (up (h 81) s 1) (h 82) (h 83) (h 84) (h 85) (h 86) := by
      conv => lhs; arg 1; rw [e0]
      rw [vKm_s81]
    rw [e2, vKm_s86]
    rfl
  rw [e1]
  have l := loop_n (P := fun k => Ws E (d + 2) mX10_keep Q 28 [(2, 50), (0, s), (0, (k : Int))] [] (vKm h (up (h 81) s 1) (psh (336 * s) (h 57) (h 82) k) (psh (336 * s) (h 58) (h 83) k) (psh (336 * s) (h 59) (h 84) k) (psh (336 * s) (h 60) (h 85) k) (up (h 86) s (h 50 28)))) 336 (by
    intro k hk
    have b := hb k (by omega) (by omega)
    rw [b_X10_keep_28 hE, if_pos (by omega), ix336 hs (by omega), and_tl (by omega), and_tl ⟨b, by omega, by omega⟩, and_tl (by omega), and_tl (by omega), and_tl (by omega), and_tl (by omega), and_tl (by omega), and_tl (by omega), w32_n1 (by omega), vKm_s82, vKm_s83, vKm_s84, vKm_s85]
    rw [← psh_s (336 * s) (h 57), ← psh_s (336 * s) (h 58), ← psh_s (336 * s) (h 59), ← psh_s (336 * s) (h 60)]
    rfl)
  rw [psh_0, psh_0, psh_0, psh_0] at l
  refine l.trans ?_
  show Ws E (d + 2) mX10_keep Q 28 [(2, 50), (0, s), (0, ((336 : Nat) : Int))] [] _ = _
  rw [b_X10_keep_28 hE, if_neg (by decide), e_m_counted hE]
  rfl
theorem CKep_new {o tick tick' : Int} {K A G O T A' K' G' X X' S : Int → Int} {t t' : Int} {rk ra rg r1 r2 r3 r4 : Int → Int} (w : CWld t t' K A G X O T A' K' G' X' S) (ht : tick' = tick) : CKep o 1 tick (sAm K A) (sNm K A) (pf K rk 336) (pf A ra 336) (pf G rg 336) 1 tick' (psh o T r1 336) (psh o A' r2 336) (psh o K' r3 336) (psh o G' r4 336) := by
  refine ⟨Or.inr rfl, rfl, fun _ => ⟨ht, ⟨?_, ?_⟩, ⟨O, Prt_K (fun c c0 c1 => pf_in ⟨c0, c1⟩) w.2.2.1⟩, fun c c0 c1 => ?_⟩⟩
  · exact sm_c 336 (fun j hj => by rw [pf_in (by omega), pf_in (by omega)])
  · exact sm_c 336 (fun j hj => by rw [pf_in (by omega), pf_in (by omega)])
  · rw [pf_in ⟨c0, c1⟩, pf_in ⟨c0, c1⟩, pf_in ⟨c0, c1⟩, psh_in ⟨c0, c1⟩, psh_in ⟨c0, c1⟩, psh_in ⟨c0, c1⟩, psh_in ⟨c0, c1⟩]
    exact (w.2.1 c c0 c1).1
theorem CKep_old {o o' : Int} {kept tick sa sn : Int} {K A G : Int → Int} {kept' tick' : Int} {T A' K' G' f1 f2 f3 f4 : Int → Int} (ho : o' + 336 ≤ o ∨ o + 336 ≤ o') (c : CKep o kept tick sa sn K A G kept' tick' T A' K' G') : CKep o kept tick sa sn K A G kept' tick' (psh o' f1 T 336) (psh o' f2 A' 336) (psh o' f3 K' 336) (psh o' f4 G' 336) := by
  refine ⟨c.1, c.2.1, fun z => ?_⟩
  obtain ⟨q1, q2, q3, q4⟩ := c.2.2 z
  refine ⟨q1, q2, q3, fun j j0 j1 => ?_⟩
  rw [psh_out (by omega), psh_out (by omega), psh_out (by omega), psh_out (by omega)]
  exact q4 j j0 j1
theorem p_keep {n s : Int} : Pr n mX9_keep mX10_keep [(0, s)] := by
  intro h hC
  have hC' := hC
  obtain ⟨c1, c2, c3, c4, c5, c6, c7, c8, c9, c10, c11, c12, c13, c14, c15⟩ := hC
  by_cases z : 0 ≤ s ∧ s < 2
  · have hb : ∀ c : Int, 0 ≤ c → c < 336 → isBit (h 57 c) := fun c q0 q1 => by
      rw [(c7.2.1 c q0 q1).1.2.1]
      unfold isBit
      split <;> simp
    have e1 : cM h 1 = cX h 1 := cX_cM hC' (by decide)
    rcases (show s = 0 ∨ s = 1 by omega) with rfl | rfl
    · have m := fun Q => e_m_keep (E := EF n) (d := 6) (Q := Q) (EF_50 n) (h := (vKa h (up (up (up (up (h 37) 3 (h 11 8)) 4 (sAm (h 12) (h 13))) 5 (sNm (h 12) (h 13))) 6 1) (pf (h 12) (h 38) 336) (pf (h 13) (h 39) 336) (pf (h 14) (h 40) 336))) (Or.inl rfl) hb
      refine ⟨cX h 1, (vKa h (up (up (up (up (h 37) 3 (h 11 8)) 4 (sAm (h 12) (h 13))) 5 (sNm (h 12) (h 13))) 6 1) (pf (h 12) (h 38) 336) (pf (h 13) (h 39) 336) (pf (h 14) (h 40) 336)), vKm (vKa h (up (up (up (up (h 37) 3 (h 11 8)) 4 (sAm (h 12) (h 13))) 5 (sNm (h 12) (h 13))) 6 1) (pf (h 12) (h 38) 336) (pf (h 13) (h 39) 336) (pf (h 14) (h 40) 336)) (up (h 81) 0 1) (psh (336 * 0) (h 57) (h 82) 336) (psh (336 * 0) (h 58) (h 83) 336) (psh (336 * 0) (h 59) (h 84) 336) (psh (336 * 0) (h 60) (h 85) 336) (up (h 86) 0 (h 50 28)), fun Q => ?_, fun Q => (m Q).trans ?_, ?_⟩
      · rw [u_X9_keep, e_isSlot, b2_if, if_pos (by decide), u_X9_keptIn, if_pos rfl, b_X9_keep_14, e_take_a (cw_A c7), e_cellsThere (EF_11 n)]
        rfl
      · show Q (cM h 1) _ = _
        rw [e1]
        rfl
      · unfold Cpl
        simp only [vKa, vKm, up_at, Int.reduceEq, if_true, if_false, reduceIte]
        refine ⟨c1, c2, c3, c4, c5, c6, c7, c8, c9, c10, c11, ?_, ?_, c14, c15⟩
        · exact CKep_new c7 c7.1
        · exact CKep_old (by decide) c13
    · have m := fun Q => e_m_keep (E := EF n) (d := 6) (Q := Q) (EF_50 n) (h := (vKb h (up (up (up (up (h 41) 3 (h 11 8)) 4 (sAm (h 12) (h 13))) 5 (sNm (h 12) (h 13))) 6 1) (pf (h 12) (h 42) 336) (pf (h 13) (h 43) 336) (pf (h 14) (h 44) 336))) (Or.inr rfl) hb
      refine ⟨cX h 1, (vKb h (up (up (up (up (h 41) 3 (h 11 8)) 4 (sAm (h 12) (h 13))) 5 (sNm (h 12) (h 13))) 6 1) (pf (h 12) (h 42) 336) (pf (h 13) (h 43) 336) (pf (h 14) (h 44) 336)), vKm (vKb h (up (up (up (up (h 41) 3 (h 11 8)) 4 (sAm (h 12) (h 13))) 5 (sNm (h 12) (h 13))) 6 1) (pf (h 12) (h 42) 336) (pf (h 13) (h 43) 336) (pf (h 14) (h 44) 336)) (up (h 81) 1 1) (psh (336 * 1) (h 57) (h 82) 336) (psh (336 * 1) (h 58) (h 83) 336) (psh (336 * 1) (h 59) (h 84) 336) (psh (336 * 1) (h 60) (h 85) 336) (up (h 86) 1 (h 50 28)), fun Q => ?_, fun Q => (m Q).trans ?_, ?_⟩
      · rw [u_X9_keep, e_isSlot, b2_if, if_pos (by decide), u_X9_keptIn, if_neg (by decide), b_X9_keep_14_1, e_take_b (cw_A c7), e_cellsThere (EF_11 n)]
        rfl
      · show Q (cM h 1) _ = _
        rw [e1]
        rfl
      · unfold Cpl
        simp only [vKb, vKm, up_at, Int.reduceEq, if_true, if_false, reduceIte]
        refine ⟨c1, c2, c3, c4, c5, c6, c7, c8, c9, c10, c11, ?_, ?_, c14, c15⟩
        · exact CKep_old (by decide) c12
        · exact CKep_new c7 c7.1
  · exact ⟨-1, h, h, fun Q => by rw [u_X9_keep, e_isSlot, b2_if, if_neg z], fun Q => by rw [u_X10_keep (EF_50 n), e_m_isSlot, b2_if, if_neg (by omega)], hC'⟩
