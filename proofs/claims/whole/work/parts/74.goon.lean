/-! goOn -/
/-- the rows 11, 12, 13, 14, 15, 19 replaced -/
def vB (h : Hp) (r11 r12 r13 r14 r15 r19 : Int → Int) : Hp := fun a => if a = 11 then r11 else if a = 12 then r12 else if a = 13 then r13 else if a = 14 then r14 else if a = 15 then r15 else if a = 19 then r19 else h a
section VvB
variable {h : Hp} {r11 r12 r13 r14 r15 r19 : Int → Int}
theorem vB_id : vB h (h 11) (h 12) (h 13) (h 14) (h 15) (h 19) = h := by
  funext a
  unfold vB
  repeat' split
  all_goals first | rfl | (subst_vars; rfl)
theorem vB_r11 : vB h r11 r12 r13 r14 r15 r19 11 = r11 := rfl
theorem vB_r12 : vB h r11 r12 r13 r14 r15 r19 12 = r12 := rfl
theorem vB_r13 : vB h r11 r12 r13 r14 r15 r19 13 = r13 := rfl
theorem vB_r14 : vB h r11 r12 r13 r14 r15 r19 14 = r14 := rfl
theorem vB_r15 : vB h r11 r12 r13 r14 r15 r19 15 = r15 := rfl
theorem vB_r19 : vB h r11 r12 r13 r14 r15 r19 19 = r19 := rfl
theorem vB_off {a : Int} (h11 : a ≠ 11) (h12 : a ≠ 12) (h13 : a ≠ 13) (h14 : a ≠ 14) (h15 : a ≠ 15) (h19 : a ≠ 19) : vB h r11 r12 r13 r14 r15 r19 a = h a := by
  unfold vB
  rw [if_neg h11, if_neg h12, if_neg h13, if_neg h14, if_neg h15, if_neg h19]
theorem vB_w11 (f : Int → Int) : hrow (vB h r11 r12 r13 r14 r15 r19) 11 f = vB h f r12 r13 r14 r15 r19 := by
  funext a
  unfold hrow vB
  by_cases z : a = 11
  · subst z; rfl
  · simp only [if_neg z]
theorem vB_s11 (i v : Int) : hst (vB h r11 r12 r13 r14 r15 r19) 11 i v = vB h (up r11 i v) r12 r13 r14 r15 r19 := by
  rw [hst_row, vB_w11]
  rfl
theorem vB_w12 (f : Int → Int) : hrow (vB h r11 r12 r13 r14 r15 r19) 12 f = vB h r11 f r13 r14 r15 r19 := by
  funext a
  unfold hrow vB
  by_cases z : a = 12
  · subst z; rfl
  · simp only [if_neg z]
theorem vB_s12 (i v : Int) : hst (vB h r11 r12 r13 r14 r15 r19) 12 i v = vB h r11 (up r12 i v) r13 r14 r15 r19 := by
  rw [hst_row, vB_w12]
  rfl
theorem vB_w13 (f : Int → Int) : hrow (vB h r11 r12 r13 r14 r15 r19) 13 f = vB h r11 r12 f r14 r15 r19 := by
  funext a
  unfold hrow vB
  by_cases z : a = 13
  · subst z; rfl
  · simp only [if_neg z]
theorem vB_s13 (i v : Int) : hst (vB h r11 r12 r13 r14 r15 r19) 13 i v = vB h r11 r12 (up r13 i v) r14 r15 r19 := by
  rw [hst_row, vB_w13]
  rfl
theorem vB_w14 (f : Int → Int) : hrow (vB h r11 r12 r13 r14 r15 r19) 14 f = vB h r11 r12 r13 f r15 r19 := by
  funext a
  unfold hrow vB
  by_cases z : a = 14
  · subst z; rfl
  · simp only [if_neg z]
theorem vB_s14 (i v : Int) : hst (vB h r11 r12 r13 r14 r15 r19) 14 i v = vB h r11 r12 r13 (up r14 i v) r15 r19 := by
  rw [hst_row, vB_w14]
  rfl
theorem vB_w15 (f : Int → Int) : hrow (vB h r11 r12 r13 r14 r15 r19) 15 f = vB h r11 r12 r13 r14 f r19 := by
  funext a
  unfold hrow vB
  by_cases z : a = 15
  · subst z; rfl
  · simp only [if_neg z]
theorem vB_s15 (i v : Int) : hst (vB h r11 r12 r13 r14 r15 r19) 15 i v = vB h r11 r12 r13 r14 (up r15 i v) r19 := by
  rw [hst_row, vB_w15]
  rfl
theorem vB_w19 (f : Int → Int) : hrow (vB h r11 r12 r13 r14 r15 r19) 19 f = vB h r11 r12 r13 r14 r15 f := by
  funext a
  unfold hrow vB
  by_cases z : a = 19
  · subst z; rfl
  · simp only [if_neg z]
theorem vB_s19 (i v : Int) : hst (vB h r11 r12 r13 r14 r15 r19) 19 i v = vB h r11 r12 r13 r14 r15 (up r19 i v) := by
  rw [hst_row, vB_w19]
  rfl
end VvB
/-- of the first k those that are p: painted one behind the other -/
noncomputable def paO (p : Int → Prop) [DecidablePred p] (O : Int → Int) : Nat → Int → Int
  | 0 => O
  | k + 1 => if p k then pnt (paO p O k) k else paO p O k
def paR (p : Int → Prop) [DecidablePred p] (R : Int → Int) : Nat → Int → Int
  | 0 => R
  | k + 1 => if p k then up (paR p R k) 9 1 else paR p R k
theorem paR_n {p : Int → Prop} [DecidablePred p] {R : Int → Int} {j : Int} (hj : j ≠ 9) : ∀ k : Nat, paR p R k j = R j
  | 0 => rfl
  | k + 1 => by
    show (if p k then up (paR p R k) 9 1 else paR p R k) j = R j
    by_cases z : p k
    · rw [if_pos z, up_n _ _ hj]
      exact paR_n hj k
    · rw [if_neg z]
      exact paR_n hj k
theorem paR_9 {p : Int → Prop} [DecidablePred p] {R : Int → Int} {c : Nat} (hc : p c) : ∀ k : Nat, c < k → paR p R k 9 = 1
  | 0, h => absurd h (Nat.not_lt_zero _)
  | k + 1, h => by
    show (if p k then up (paR p R k) 9 1 else paR p R k) 9 = 1
    by_cases z : p k
    · rw [if_pos z, up_s]
    · rw [if_neg z]
      have : c ≠ k := fun e => z (by rw [← e]; exact hc)
      exact paR_9 hc k (by omega)
theorem paO_of {p : Int → Prop} [DecidablePred p] {K O0 O : Int → Int} (hp : ∀ c : Int, 0 ≤ c → c < 336 → (p c ↔ K c ≠ -1)) (P : Prt K O0) {s : Int} (h0 : 0 ≤ s) (h1 : s < 256) : ∀ k : Nat, k ≤ 336 → O0 s < k → paO p O k s = O0 s
  | 0, _, h => by
    have := (P.1 s h0 h1).1.1
    have h : O0 s < 0 := h
    omega
  | k + 1, hk, h => by
    obtain ⟨q1, q2, q3⟩ := P.1 s h0 h1
    show (if p k then pnt (paO p O k) k else paO p O k) s = O0 s
    by_cases z : O0 s = k
    · have : p k := (hp k (by omega) (by omega)).mpr (by rw [← z]; exact q2)
      rw [if_pos this, ← z, pnt_in q3]
    · have ih := paO_of (O := O) hp P h0 h1 k (by omega) (by omega)
      by_cases y : p k
      · rw [if_pos y, pnt_out (fun w => z (P.2 k s ⟨by omega, by omega⟩ ((hp k (by omega) (by omega)).mp y) w)), ih]
      · rw [if_neg y, ih]
/-- a row, of the first k those that are p replaced -/
def pfi (p : Int → Prop) [DecidablePred p] (f g : Int → Int) (k : Int) : Int → Int := fun j => if (0 ≤ j ∧ j < k) ∧ p j then f j else g j
theorem pfi_0 (p : Int → Prop) [DecidablePred p] (f g : Int → Int) : pfi p f g ((0 : Nat) : Int) = g := by
  funext j
  unfold pfi
  exact if_neg (fun q => by omega)
theorem pfi_t {p : Int → Prop} [DecidablePred p] {f g : Int → Int} {k : Nat} (z : p k) : up (pfi p f g k) k (f k) = pfi p f g ((k + 1 : Nat) : Int) := by
  funext j
  unfold up pfi
  by_cases w : j = (k : Int)
  · rw [if_pos w, w, if_pos ⟨by omega, z⟩]
  · rw [if_neg w]
    by_cases v : (0 ≤ j ∧ j < (k : Int)) ∧ p j
    · rw [if_pos v, if_pos ⟨by omega, v.2⟩]
    · rw [if_neg v, if_neg (fun q => v ⟨by omega, q.2⟩)]
theorem pfi_f {p : Int → Prop} [DecidablePred p] {f g : Int → Int} {k : Nat} (z : ¬ p k) : pfi p f g k = pfi p f g ((k + 1 : Nat) : Int) := by
  funext j
  unfold pfi
  by_cases w : j = (k : Int)
  · subst w
    rw [if_neg (fun q => z q.2), if_neg (fun q => z q.2)]
  · by_cases v : (0 ≤ j ∧ j < (k : Int)) ∧ p j
    · rw [if_pos v, if_pos ⟨by omega, v.2⟩]
    · rw [if_neg v, if_neg (fun q => v ⟨by omega, q.2⟩)]
theorem up_up (f : Int → Int) (i v w : Int) : up (up f i v) i w = up f i w := by
  funext j
  unfold up
  split <;> rfl
section GO
variable {n : Int} {d : Nat} {Q : Int → Hp → Prop} {h : Hp}
theorem e_become_vB {R K A G X O : Int → Int} {c k : Int} (hc : isN c) : wpS (EF n) (d + 1) mX8_become [(2, 11), (0, c), (0, k)] (vB h R K A G X O) Q = Q 0 (vB h R (up K c k) A G (up X c (if k = 2 then -1 else if k = 4 then R 8 else 0)) O) := by
  rw [e_become (EF_11 n) hc]
  unfold bec
  rw [vB_s12, vB_s15]
  rfl
theorem e_paintAll {R K A G X O : Int → Int} (hg : GeoOK h) : wpS (EF n) (d + 3) mX8_paintAll [(2, 11)] (vB h R K A G X O) Q = Q 0 (vB h (paR (fun c => K c ≠ -1) R 336) K A G X (paO (fun c => K c ≠ -1) O 336)) := by
  rw [u_X8_paintAll (EF_11 n)]
  have l := loop_n (P := fun k => Ws (EF n) (d + 2) mX8_paintAll Q 2 [(2, 11), (0, (k : Int))] [] (vB h (paR (fun c => K c ≠ -1) R k) K A G X (paO (fun c => K c ≠ -1) O k))) 336 (by
    intro k hk
    have g : GeoOK (vB h (paR (fun c => K c ≠ -1) R k) K A G X (paO (fun c => K c ≠ -1) O k)) := hg
    rw [b_X8_paintAll_2 (EF_11 n), if_pos (by omega), e_w_isThere (EF_11 n), b2_if, vB_r12, e_paint (EF_11 n) (by omega) g, w32_n1 (by omega), vB_s11, vB_w19]
    show _ = Ws (EF n) (d + 2) mX8_paintAll Q 2 [(2, 11), (0, ((k + 1 : Nat) : Int))] [] (vB h (if K k ≠ -1 then up (paR (fun c => K c ≠ -1) R k) 9 1 else paR (fun c => K c ≠ -1) R k) K A G X (if K k ≠ -1 then pnt (paO (fun c => K c ≠ -1) O k) k else paO (fun c => K c ≠ -1) O k))
    by_cases z : K (k : Int) = -1
    · rw [if_neg (fun q => q.2 z), if_neg (fun q => q z), if_neg (fun q => q z)]
    · rw [if_pos (show (0 ≤ (k : Int) ∧ (k : Int) < 336) ∧ K k ≠ -1 from ⟨by omega, z⟩), if_pos z, if_pos z]
      rfl)
  refine l.trans ?_
  show Ws (EF n) (d + 2) mX8_paintAll Q 2 [(2, 11), (0, ((336 : Nat) : Int))] [] _ = _
  rw [b_X8_paintAll_2 (EF_11 n), if_neg (by decide)]
/-- a kept cell's mark, as it goes on -/
def mkX (K : Int → Int) (t : Int) : Int → Int := fun c => if K c = 2 then -1 else if K c = 4 then t else 0
def mkM (K : Int → Int) (t : Int) : Int → Int := fun c => if K c = 3 then 0 else if K c = 4 then t else -9
theorem e_bringBack_a (hg : GeoOK h) : wpS (EF n) (d + 4) mX3_bringBack [(2, 37), (2, 11)] h Q = Q 0 (vB h (paR (fun c => pf (h 38) (h 12) 336 c ≠ -1) (up (h 11) 8 (h 37 3)) 336) (pf (h 38) (h 12) 336) (pf (h 39) (h 13) 336) (pf (h 40) (h 14) 336) (pf (mkX (h 38) (h 37 3)) (h 15) 336) (paO (fun c => pf (h 38) (h 12) 336 c ≠ -1) (h 19) 336)) := by
  have e0 : h = vB h (h 11) (h 12) (h 13) (h 14) (h 15) (h 19) := vB_id.symm
  have e1 : hcpy (hcpy h 39 0 13 0 336) 40 0 14 0 336 = vB h (h 11) (h 12) (pf (h 39) (h 13) 336) (pf (h 40) (h 14) 336) (h 15) (h 19) := by
    rw [hcpy_pf, hcpy_pf]
    conv => lhs; arg 1; arg 1; rw [e0]
    rw [vB_w13, vB_w14]
    rfl
  have e2 : hst (hcpy (hcpy h 39 0 13 0 336) 40 0 14 0 336) 11 8 ((hcpy (hcpy h 39 0 13 0 336) 40 0 14 0 336) 37 3) = vB h (up (h 11) 8 (h 37 3)) (h 12) (pf (h 39) (h 13) 336) (pf (h 40) (h 14) 336) (h 15) (h 19) := by
    rw [e1, vB_s11]
    rfl
  rw [u_X3_bringBack_a, and_tl (by decide), and_tl (by decide), e2]
  have l := loop_n (P := fun k => Ws (EF n) (d + 3) mX3_bringBack Q 42 [(2, 37), (2, 11), (0, (k : Int))] [] (vB h (up (h 11) 8 (h 37 3)) (pf (h 38) (h 12) k) (pf (h 39) (h 13) 336) (pf (h 40) (h 14) 336) (pf (mkX (h 38) (h 37 3)) (h 15) k) (h 19))) 336 (by
    intro k hk
    rw [b_X3_bringBack_a_42, if_pos (by omega), and_tl (by omega), e_become_vB (by omega), w32_n1 (by omega)]
    rw [← pf_s (h 38) (h 12) k, ← pf_s (mkX (h 38) (h 37 3)) (h 15) k]
    rfl)
  rw [pf_0, pf_0] at l
  refine l.trans ?_
  show Ws (EF n) (d + 3) mX3_bringBack Q 42 [(2, 37), (2, 11), (0, ((336 : Nat) : Int))] [] _ = _
  rw [b_X3_bringBack_a_42, if_neg (by decide), e_paintAll hg]
  rfl
theorem e_bringBack_b (hg : GeoOK h) : wpS (EF n) (d + 4) mX3_bringBack [(2, 41), (2, 11)] h Q = Q 0 (vB h (paR (fun c => pf (h 42) (h 12) 336 c ≠ -1) (up (h 11) 8 (h 41 3)) 336) (pf (h 42) (h 12) 336) (pf (h 43) (h 13) 336) (pf (h 44) (h 14) 336) (pf (mkX (h 42) (h 41 3)) (h 15) 336) (paO (fun c => pf (h 42) (h 12) 336 c ≠ -1) (h 19) 336)) := by
  have e0 : h = vB h (h 11) (h 12) (h 13) (h 14) (h 15) (h 19) := vB_id.symm
  have e1 : hcpy (hcpy h 43 0 13 0 336) 44 0 14 0 336 = vB h (h 11) (h 12) (pf (h 43) (h 13) 336) (pf (h 44) (h 14) 336) (h 15) (h 19) := by
    rw [hcpy_pf, hcpy_pf]
    conv => lhs; arg 1; arg 1; rw [e0]
    rw [vB_w13, vB_w14]
    rfl
  have e2 : hst (hcpy (hcpy h 43 0 13 0 336) 44 0 14 0 336) 11 8 ((hcpy (hcpy h 43 0 13 0 336) 44 0 14 0 336) 41 3) = vB h (up (h 11) 8 (h 41 3)) (h 12) (pf (h 43) (h 13) 336) (pf (h 44) (h 14) 336) (h 15) (h 19) := by
    rw [e1, vB_s11]
    rfl
  rw [u_X3_bringBack_b, and_tl (by decide), and_tl (by decide), e2]
  have l := loop_n (P := fun k => Ws (EF n) (d + 3) mX3_bringBack Q 42 [(2, 41), (2, 11), (0, (k : Int))] [] (vB h (up (h 11) 8 (h 41 3)) (pf (h 42) (h 12) k) (pf (h 43) (h 13) 336) (pf (h 44) (h 14) 336) (pf (mkX (h 42) (h 41 3)) (h 15) k) (h 19))) 336 (by
    intro k hk
    rw [b_X3_bringBack_b_42, if_pos (by omega), and_tl (by omega), e_become_vB (by omega), w32_n1 (by omega)]
    rw [← pf_s (h 42) (h 12) k, ← pf_s (mkX (h 42) (h 41 3)) (h 15) k]
    rfl)
  rw [pf_0, pf_0] at l
  refine l.trans ?_
  show Ws (EF n) (d + 3) mX3_bringBack Q 42 [(2, 41), (2, 11), (0, ((336 : Nat) : Int))] [] _ = _
  rw [b_X3_bringBack_b_42, if_neg (by decide), e_paintAll hg]
  rfl
end GO
theorem e_m_askedSlot {E : PvEnv} (hE : ∀ k, E 50 k = refT 50 k) {d : Nat} {Q : Int → Hp → Prop} {h : Hp} {s : Int} : wpS E (d + 3) mX10_askedSlot [(2, 50), (0, s)] h Q = if 0 ≤ s ∧ s ≤ 1 then (if h 81 s = 0 then Q (-3) (mfnd h 1) else Q 0 h) else Q (-1) h := by
  rw [u_X10_askedSlot hE, e_m_isSlot, b2_if]
  by_cases z : 0 ≤ s ∧ s ≤ 1
  · rw [if_pos z, if_pos z, and_tl (by omega), e_meets hE (by decide) (by decide)]
  · rw [if_neg z, if_neg z]
theorem e_m_goOn {E : PvEnv} (hE : ∀ k, E 50 k = refT 50 k) {d : Nat} {Q : Int → Hp → Prop} {h : Hp} {s : Int} (hs : s = 0 ∨ s = 1) (hk1 : h 81 s ≠ 0) : wpS E (d + 4) mX10_goOn [(2, 50), (0, s)] h Q = Q (h 86 s) (mv (hst h 50 28 (h 86 s)) (pfi (fun c => h 82 (336 * s + c) ≠ 0) (fun _ => 1) (pf (fun _ => 0) (h 57) 336) 336) (pfi (fun c => h 82 (336 * s + c) ≠ 0) (fun c => h 83 (336 * s + c)) (h 58) 336) (pfi (fun c => h 82 (336 * s + c) ≠ 0) (fun c => h 84 (336 * s + c)) (h 59) 336) (pfi (fun c => h 82 (336 * s + c) ≠ 0) (fun c => h 85 (336 * s + c)) (h 60) 336) (pfi (fun c => h 82 (336 * s + c) ≠ 0) (mkM (fun c => h 84 (336 * s + c)) (h 86 s)) (h 61) 336) (paO (fun c => h 82 (336 * s + c) ≠ 0) (h 62) 336)) := by
  rw [u_X10_goOn hE, e_m_askedSlot hE, if_pos (by omega), if_neg hk1, if_neg (by decide), and_tl (by omega)]
  have e0 : hst h 50 28 (h 86 s) = mv (hst h 50 28 (h 86 s)) (h 57) (h 58) (h 59) (h 60) (h 61) (h 62) := by
    have := mv_id (h := hst h 50 28 (h 86 s))
    exact this.symm
  have l1 := loop_n (P := fun k => Ws E (d + 3) mX10_goOn Q 24 [(2, 50), (0, s), (0, 0), (0, (k : Int)), (9, 0)] [] (mv (hst h 50 28 (h 86 s)) (pf (fun _ => 0) (h 57) k) (h 58) (h 59) (h 60) (h 61) (h 62))) 336 (by
    intro k hk
    rw [b_X10_goOn_24 hE, if_pos (by omega), and_tl ⟨Or.inl rfl, by omega, by omega⟩, w32_n1 (by omega), mv_s57, pf_s (fun _ => 0)])
  rw [pf_0, ← e0] at l1
  refine l1.trans ?_
  show Ws E (d + 3) mX10_goOn Q 24 [(2, 50), (0, s), (0, 0), (0, ((336 : Nat) : Int)), (9, 0)] [] _ = _
  rw [b_X10_goOn_24 hE, if_neg (by decide)]
  generalize hp : (fun c => h 82 (336 * s + c)) = p
  have hp' : ∀ c, h 82 (336 * s + c) = p c := fun c => congrFun hp c
  obtain ⟨v, l2⟩ := loop_x (α := PV) (P := fun v k => Ws E (d + 3) mX10_goOn Q 46 [(2, 50), (0, s), (0, 0), (0, (k : Int)), v] [] (mv (hst h 50 28 (h 86 s)) (pfi (fun c => h 82 (336 * s + c) ≠ 0) (fun _ => 1) (pf (fun _ => 0) (h 57) 336) k) (pfi (fun c => h 82 (336 * s + c) ≠ 0) (fun c => h 83 (336 * s + c)) (h 58) k) (pfi (fun c => h 82 (336 * s + c) ≠ 0) (fun c => h 84 (336 * s + c)) (h 59) k) (pfi (fun c => h 82 (336 * s + c) ≠ 0) (fun c => h 85 (336 * s + c)) (h 60) k) (pfi (fun c => h 82 (336 * s + c) ≠ 0) (mkM (fun c => h 84 (336 * s + c)) (h 86 s)) (h 61) k) (paO (fun c => h 82 (336 * s + c) ≠ 0) (h 62) k))) 336 (9, 0) (by
    intro v k hk
    refine ⟨(0, 336 * s + k), ?_⟩
    show _ = Ws E (d + 3) mX10_goOn Q 46 [(2, 50), (0, s), (0, 0), (0, ((k + 1 : Nat) : Int)), (0, 336 * s + k)] [] (mv (hst h 50 28 (h 86 s)) (pfi (fun c => h 82 (336 * s + c) ≠ 0) (fun _ => 1) (pf (fun _ => 0) (h 57) 336) ((k + 1 : Nat) : Int)) (pfi (fun c => h 82 (336 * s + c) ≠ 0) (fun c => h 83 (336 * s + c)) (h 58) ((k + 1 : Nat) : Int)) (pfi (fun c => h 82 (336 * s + c) ≠ 0) (fun c => h 84 (336 * s + c)) (h 59) ((k + 1 : Nat) : Int)) (pfi (fun c => h 82 (336 * s + c) ≠ 0) (fun c => h 85 (336 * s + c)) (h 60) ((k + 1 : Nat) : Int)) (pfi (fun c => h 82 (336 * s + c) ≠ 0) (mkM (fun c => h 84 (336 * s + c)) (h 86 s)) (h 61) ((k + 1 : Nat) : Int)) (if h 82 (336 * s + k) ≠ 0 then pnt (paO (fun c => h 82 (336 * s + c) ≠ 0) (h 62) k) k else paO (fun c => h 82 (336 * s + c) ≠ 0) (h 62) k))
    have ro : ∀ (a : Int) {T A K G X S : Int → Int}, a ≠ 57 → a ≠ 58 → a ≠ 59 → a ≠ 60 → a ≠ 61 → a ≠ 62 → a ≠ 50 → mv (hst h 50 28 (h 86 s)) T A K G X S a = h a := fun a _ _ _ _ _ _ q1 q2 q3 q4 q5 q6 q7 => by rw [mv_off q1 q2 q3 q4 q5 q6, hst_off h q7]
    rw [b_X10_goOn_46 hE, if_pos (by omega), ix336 hs (by omega), and_tl (by omega), ro 82 (by decide) (by decide) (by decide) (by decide) (by decide) (by decide) (by decide), w32_n1 (by omega)]
    by_cases z : h 82 (336 * s + k) = 0
    · rw [if_pos z, if_neg (fun q => q z), ← pfi_f (fun q => q z), ← pfi_f (fun q => q z), ← pfi_f (fun q => q z), ← pfi_f (fun q => q z), ← pfi_f (fun q => q z)]
    · rw [if_neg z, if_pos z, and_tl (by omega), and_tl (by omega), e_m_come hE (by omega), and_tl (by omega), and_tl (by omega), and_tl (by omega), mv_s59, up_up, mv_r59, up_s, and_tl (by omega), and_tl (by omega), mv_s61, mv_s61, mv_s61, up_up, up_up, up_up, and_tl (by omega), and_tl (by omega), ro 83 (by decide) (by decide) (by decide) (by decide) (by decide) (by decide) (by decide), ro 84 (by decide) (by decide) (by decide) (by decide) (by decide) (by decide) (by decide), ro 85 (by decide) (by decide) (by decide) (by decide) (by decide) (by decide) (by decide)]
      rw [← pfi_t (f := fun _ => 1) z, ← pfi_t (f := fun c => h 83 (336 * s + c)) z, ← pfi_t (f := fun c => h 84 (336 * s + c)) z, ← pfi_t (f := fun c => h 85 (336 * s + c)) z, ← pfi_t (f := mkM (fun c => h 84 (336 * s + c)) (h 86 s)) z]
      have e28 : ∀ {T A K G X S : Int → Int}, mv (hst h 50 28 (h 86 s)) T A K G X S 50 28 = h 86 s := fun {T A K G X S} => by
        rw [mv_off (by decide) (by decide) (by decide) (by decide) (by decide) (by decide), hst_s]
      rw [e28]
      show _ = Ws E (d + 3) mX10_goOn Q 46 [(2, 50), (0, s), (0, 0), (0, ((k + 1 : Nat) : Int)), (0, 336 * s + k)] [] (mv (hst h 50 28 (h 86 s)) _ _ _ _ (up _ k (if h 84 (336 * s + k) = 3 then 0 else if h 84 (336 * s + k) = 4 then h 86 s else -9)) _)
      by_cases y : h 84 (336 * s + k) = 3
      · rw [if_pos y, if_pos y]
      · rw [if_neg y, if_neg y]
        by_cases x : h 84 (336 * s + k) = 4
        · rw [if_pos x, if_pos x]
        · rw [if_neg x, if_neg x])
  rw [pfi_0, pfi_0, pfi_0, pfi_0, pfi_0] at l2
  refine l2.trans ?_
  show Ws E (d + 3) mX10_goOn Q 46 [(2, 50), (0, s), (0, 0), (0, ((336 : Nat) : Int)), v] [] _ = _
  rw [b_X10_goOn_46 hE, if_neg (by decide), mv_off (by decide) (by decide) (by decide) (by decide) (by decide) (by decide), hst_s]
  rfl
theorem CWld_back {o tick sa sn tick' : Int} {kept' : Int} {K A G T A' K' G' : Int → Int} {t t' : Int} {wK wA wG wX wO wT wA' wK' wG' wX' wS : Int → Int} (c : CKep o 1 tick sa sn K A G kept' tick' T A' K' G') (w : CWld t t' wK wA wG wX wO wT wA' wK' wG' wX' wS) : CWld tick tick' (pf K wK 336) (pf A wA 336) (pf G wG 336) (pf (mkX K tick) wX 336) (paO (fun c => pf K wK 336 c ≠ -1) wO 336) (pfi (fun c => T (o + c) ≠ 0) (fun _ => 1) (pf (fun _ => 0) wT 336) 336) (pfi (fun c => T (o + c) ≠ 0) (fun c => A' (o + c)) wA' 336) (pfi (fun c => T (o + c) ≠ 0) (fun c => K' (o + c)) wK' 336) (pfi (fun c => T (o + c) ≠ 0) (fun c => G' (o + c)) wG' 336) (pfi (fun c => T (o + c) ≠ 0) (mkM (fun c => K' (o + c)) tick') wX' 336) (paO (fun c => T (o + c) ≠ 0) wS 336) ∧ ∃ c : Nat, c < 336 ∧ pf K wK 336 c ≠ -1 := by
  obtain ⟨q1, q2, ⟨O0, P⟩, q4⟩ := c.2.2 rfl
  have hT : ∀ c : Int, 0 ≤ c → c < 336 → (T (o + c) ≠ 0 ↔ K c ≠ -1) := fun c c0 c1 => by
    rw [(q4 c c0 c1).2.1]
    by_cases z : K c = -1
    · rw [if_pos z]
      exact ⟨fun q => absurd rfl q, fun q => absurd z q⟩
    · rw [if_neg z]
      exact ⟨fun _ => z, fun _ => by decide⟩
  have P' : Prt (pf K wK 336) O0 := Prt_K (fun c c0 c1 => pf_in ⟨c0, c1⟩) P
  have hO : ∀ s : Int, 0 ≤ s → s < 256 → paO (fun c => pf K wK 336 c ≠ -1) wO 336 s = O0 s := fun s s0 s1 => paO_of (fun c _ _ => Iff.rfl) P' s0 s1 336 (Nat.le_refl _) (P.1 s s0 s1).1.2
  have hS : ∀ s : Int, 0 ≤ s → s < 256 → paO (fun c => T (o + c) ≠ 0) wS 336 s = O0 s := fun s s0 s1 => paO_of hT P s0 s1 336 (Nat.le_refl _) (P.1 s s0 s1).1.2
  refine ⟨⟨q1, fun c c0 c1 => ?_, Prt_O hO P', fun s s0 s1 => by rw [hS s s0 s1, hO s s0 s1]⟩, ?_⟩
  · obtain ⟨a1, a2, a3, a4⟩ := q4 c c0 c1
    obtain ⟨⟨b1, b2, b3, b4⟩, b5⟩ := w.2.1 c c0 c1
    rw [pf_in ⟨c0, c1⟩, pf_in ⟨c0, c1⟩, pf_in ⟨c0, c1⟩, pf_in ⟨c0, c1⟩]
    unfold pfi
    by_cases z : K c = -1
    · have zT : ¬ T (o + c) ≠ 0 := fun q => (hT c c0 c1).mp q z
      rw [if_neg (fun q => zT q.2), if_neg (fun q => zT q.2), if_neg (fun q => zT q.2), if_neg (fun q => zT q.2), if_neg (fun q => zT q.2), pf_in ⟨c0, c1⟩]
      refine ⟨⟨a1, by rw [if_pos z], ⟨a3.1, b3.2.1, a3.2.2.1, b3.2.2.2⟩, fun q => absurd z q⟩, fun q => by omega, fun q => by omega⟩
    · have zT : T (o + c) ≠ 0 := (hT c c0 c1).mpr z
      rw [if_pos ⟨⟨c0, c1⟩, zT⟩, if_pos ⟨⟨c0, c1⟩, zT⟩, if_pos ⟨⟨c0, c1⟩, zT⟩, if_pos ⟨⟨c0, c1⟩, zT⟩, if_pos ⟨⟨c0, c1⟩, zT⟩]
      have e := (a4 z).1
      refine ⟨⟨a1, by rw [if_neg z], a3, a4⟩, fun q => Or.inr ?_, fun q => ?_⟩
      · unfold mkX mkM
        show (if K c = 2 then (-1 : Int) else if K c = 4 then tick else 0) < 0 ∧ (if K' (o + c) = 3 then (0 : Int) else if K' (o + c) = 4 then tick' else -9) < 0
        rw [e, if_pos q, if_neg (by omega), if_neg (by omega)]
        decide
      · unfold mkX mkM
        show (if K' (o + c) = 3 then (0 : Int) else if K' (o + c) = 4 then tick' else -9) = if K c = 2 then -1 else if K c = 4 then tick else 0
        rw [e, q1]
        rcases q with q | q
        · rw [if_pos q, if_neg (by omega), if_neg (by omega)]
        · rw [if_neg (by omega), if_pos q, if_neg (by omega), if_pos q]
  · have q := P.1 0 (by decide) (by decide)
    refine ⟨(O0 0).toNat, by omega, ?_⟩
    have e : (((O0 0).toNat : Nat) : Int) = O0 0 := by omega
    rw [e, pf_in q.1]
    exact q.2.1
theorem p_goOn {n s : Int} : Pr n mX9_goOn mX10_goOn [(0, s)] := by
  intro h hC
  have hC' := hC
  obtain ⟨c1, c2, c3, c4, c5, c6, c7, c8, c9, c10, c11, c12, c13, c14, c15⟩ := hC
  by_cases z : 0 ≤ s ∧ s < 2
  · rcases (show s = 0 ∨ s = 1 by omega) with rfl | rfl
    · by_cases y : h 37 6 = 0
      · have y' : h 81 0 = 0 := c12.2.1.trans y
        refine ⟨-3, fnd h 1, mfnd (fnd h 1) 1, fun Q => ?_, fun Q => ?_, Cpl_fnd hC' (by decide) (by decide)⟩
        · rw [u_X9_goOn, e_isSlot, b2_if, if_pos (by decide), u_X9_keptIn, if_pos rfl, b_X9_goOn_14, if_pos y, e_refuse (by decide) (by decide)]
        · rw [u_X10_goOn (EF_50 n), e_m_askedSlot (EF_50 n), if_pos (by decide), if_pos (show fnd h 1 81 0 = 0 from y'), if_pos (by decide)]
      · have k1 : h 37 6 = 1 := c12.1.resolve_left y
        have c' := c12
        rw [k1] at c'
        obtain ⟨w, ⟨cc0, cc1, cc2⟩⟩ := CWld_back c' c7
        have y' : h 81 0 ≠ 0 := by rw [c12.2.1]; exact y
        have et : h 86 0 = h 37 3 := (c'.2.2 rfl).1
        have m := fun Q => e_m_goOn (E := EF n) (d := 5) (Q := Q) (EF_50 n) (h := (vB h (paR (fun c => pf (h 38) (h 12) 336 c ≠ -1) (up (h 11) 8 (h 37 3)) 336) (pf (h 38) (h 12) 336) (pf (h 39) (h 13) 336) (pf (h 40) (h 14) 336) (pf (mkX (h 38) (h 37 3)) (h 15) 336) (paO (fun c => pf (h 38) (h 12) 336 c ≠ -1) (h 19) 336))) (s := 0) (Or.inl rfl) y'
        have r9 : paR (fun c => pf (h 38) (h 12) 336 c ≠ -1) (up (h 11) 8 (h 37 3)) 336 9 = 1 := paR_9 (p := fun c => pf (h 38) (h 12) 336 c ≠ -1) cc2 336 cc1
        have r8 : paR (fun c => pf (h 38) (h 12) 336 c ≠ -1) (up (h 11) 8 (h 37 3)) 336 8 = h 37 3 := (paR_n (by decide) 336).trans (up_s _ _ _)
        refine ⟨h 86 0, (vB h (paR (fun c => pf (h 38) (h 12) 336 c ≠ -1) (up (h 11) 8 (h 37 3)) 336) (pf (h 38) (h 12) 336) (pf (h 39) (h 13) 336) (pf (h 40) (h 14) 336) (pf (mkX (h 38) (h 37 3)) (h 15) 336) (paO (fun c => pf (h 38) (h 12) 336 c ≠ -1) (h 19) 336)), (mv (hst (vB h (paR (fun c => pf (h 38) (h 12) 336 c ≠ -1) (up (h 11) 8 (h 37 3)) 336) (pf (h 38) (h 12) 336) (pf (h 39) (h 13) 336) (pf (h 40) (h 14) 336) (pf (mkX (h 38) (h 37 3)) (h 15) 336) (paO (fun c => pf (h 38) (h 12) 336 c ≠ -1) (h 19) 336)) 50 28 (h 86 0)) (pfi (fun c => h 82 (336 * 0 + c) ≠ 0) (fun _ => 1) (pf (fun _ => 0) (h 57) 336) 336) (pfi (fun c => h 82 (336 * 0 + c) ≠ 0) (fun c => h 83 (336 * 0 + c)) (h 58) 336) (pfi (fun c => h 82 (336 * 0 + c) ≠ 0) (fun c => h 84 (336 * 0 + c)) (h 59) 336) (pfi (fun c => h 82 (336 * 0 + c) ≠ 0) (fun c => h 85 (336 * 0 + c)) (h 60) 336) (pfi (fun c => h 82 (336 * 0 + c) ≠ 0) (mkM (fun c => h 84 (336 * 0 + c)) (h 86 0)) (h 61) 336) (paO (fun c => h 82 (336 * 0 + c) ≠ 0) (h 62) 336)), fun Q => ?_, fun Q => (m Q).trans ?_, ?_⟩
        · rw [u_X9_goOn, e_isSlot, b2_if, if_pos (by decide), u_X9_keptIn, if_pos rfl, b_X9_goOn_14, if_neg y, e_bringBack_a c6, vB_r11, r8, et]
        · rfl
        · unfold Cpl
          simp only [mv, vB, hst_at, hrow_at, up_at, Int.reduceEq, if_true, if_false, reduceIte]
          rw [r9, r8]
          refine ⟨c1, c2, c3, c4, c5, c6, w, CLay_cut (b := 1), c9, c10, c11, c12, c13, c14, c15⟩
    · by_cases y : h 41 6 = 0
      · have y' : h 81 1 = 0 := c13.2.1.trans y
        refine ⟨-3, fnd h 1, mfnd (fnd h 1) 1, fun Q => ?_, fun Q => ?_, Cpl_fnd hC' (by decide) (by decide)⟩
        · rw [u_X9_goOn, e_isSlot, b2_if, if_pos (by decide), u_X9_keptIn, if_neg (by decide), b_X9_goOn_14_1, if_pos y, e_refuse (by decide) (by decide)]
        · rw [u_X10_goOn (EF_50 n), e_m_askedSlot (EF_50 n), if_pos (by decide), if_pos (show fnd h 1 81 1 = 0 from y'), if_pos (by decide)]
      · have k1 : h 41 6 = 1 := c13.1.resolve_left y
        have c' := c13
        rw [k1] at c'
        obtain ⟨w, ⟨cc0, cc1, cc2⟩⟩ := CWld_back c' c7
        have y' : h 81 1 ≠ 0 := by rw [c13.2.1]; exact y
        have et : h 86 1 = h 41 3 := (c'.2.2 rfl).1
        have m := fun Q => e_m_goOn (E := EF n) (d := 5) (Q := Q) (EF_50 n) (h := (vB h (paR (fun c => pf (h 42) (h 12) 336 c ≠ -1) (up (h 11) 8 (h 41 3)) 336) (pf (h 42) (h 12) 336) (pf (h 43) (h 13) 336) (pf (h 44) (h 14) 336) (pf (mkX (h 42) (h 41 3)) (h 15) 336) (paO (fun c => pf (h 42) (h 12) 336 c ≠ -1) (h 19) 336))) (s := 1) (Or.inr rfl) y'
        have r9 : paR (fun c => pf (h 42) (h 12) 336 c ≠ -1) (up (h 11) 8 (h 41 3)) 336 9 = 1 := paR_9 (p := fun c => pf (h 42) (h 12) 336 c ≠ -1) cc2 336 cc1
        have r8 : paR (fun c => pf (h 42) (h 12) 336 c ≠ -1) (up (h 11) 8 (h 41 3)) 336 8 = h 41 3 := (paR_n (by decide) 336).trans (up_s _ _ _)
        refine ⟨h 86 1, (vB h (paR (fun c => pf (h 42) (h 12) 336 c ≠ -1) (up (h 11) 8 (h 41 3)) 336) (pf (h 42) (h 12) 336) (pf (h 43) (h 13) 336) (pf (h 44) (h 14) 336) (pf (mkX (h 42) (h 41 3)) (h 15) 336) (paO (fun c => pf (h 42) (h 12) 336 c ≠ -1) (h 19) 336)), (mv (hst (vB h (paR (fun c => pf (h 42) (h 12) 336 c ≠ -1) (up (h 11) 8 (h 41 3)) 336) (pf (h 42) (h 12) 336) (pf (h 43) (h 13) 336) (pf (h 44) (h 14) 336) (pf (mkX (h 42) (h 41 3)) (h 15) 336) (paO (fun c => pf (h 42) (h 12) 336 c ≠ -1) (h 19) 336)) 50 28 (h 86 1)) (pfi (fun c => h 82 (336 * 1 + c) ≠ 0) (fun _ => 1) (pf (fun _ => 0) (h 57) 336) 336) (pfi (fun c => h 82 (336 * 1 + c) ≠ 0) (fun c => h 83 (336 * 1 + c)) (h 58) 336) (pfi (fun c => h 82 (336 * 1 + c) ≠ 0) (fun c => h 84 (336 * 1 + c)) (h 59) 336) (pfi (fun c => h 82 (336 * 1 + c) ≠ 0) (fun c => h 85 (336 * 1 + c)) (h 60) 336) (pfi (fun c => h 82 (336 * 1 + c) ≠ 0) (mkM (fun c => h 84 (336 * 1 + c)) (h 86 1)) (h 61) 336) (paO (fun c => h 82 (336 * 1 + c) ≠ 0) (h 62) 336)), fun Q => ?_, fun Q => (m Q).trans ?_, ?_⟩
        · rw [u_X9_goOn, e_isSlot, b2_if, if_pos (by decide), u_X9_keptIn, if_neg (by decide), b_X9_goOn_14_1, if_neg y, e_bringBack_b c6, vB_r11, r8, et]
        · rfl
        · unfold Cpl
          simp only [mv, vB, hst_at, hrow_at, up_at, Int.reduceEq, if_true, if_false, reduceIte]
          rw [r9, r8]
          refine ⟨c1, c2, c3, c4, c5, c6, w, CLay_cut (b := 1), c9, c10, c11, c12, c13, c14, c15⟩
  · exact ⟨-1, h, h, fun Q => by rw [u_X9_goOn, e_isSlot, b2_if, if_neg z], fun Q => by rw [u_X10_goOn (EF_50 n), e_m_askedSlot (EF_50 n), if_neg (by omega), if_pos (by decide)], hC'⟩
