/-! tick: the class reckons and settles -/
/-- the rows 13, 15, 26, 27 replaced -/
def vT (h : Hp) (r13 r15 r26 r27 : Int → Int) : Hp := fun a => if a = 13 then r13 else if a = 15 then r15 else if a = 26 then r26 else if a = 27 then r27 else h a
section VvT
variable {h : Hp} {r13 r15 r26 r27 : Int → Int}
theorem vT_id : vT h (h 13) (h 15) (h 26) (h 27) = h := by
  funext a
  unfold vT
  repeat' split
  all_goals first | rfl | (subst_vars; rfl)
theorem vT_r13 : vT h r13 r15 r26 r27 13 = r13 := rfl
theorem vT_r15 : vT h r13 r15 r26 r27 15 = r15 := rfl
theorem vT_r26 : vT h r13 r15 r26 r27 26 = r26 := rfl
theorem vT_r27 : vT h r13 r15 r26 r27 27 = r27 := rfl
theorem vT_off {a : Int} (h13 : a ≠ 13) (h15 : a ≠ 15) (h26 : a ≠ 26) (h27 : a ≠ 27) : vT h r13 r15 r26 r27 a = h a := by
  unfold vT
  rw [if_neg h13, if_neg h15, if_neg h26, if_neg h27]
theorem vT_w13 (f : Int → Int) : hrow (vT h r13 r15 r26 r27) 13 f = vT h f r15 r26 r27 := by
  funext a
  unfold hrow vT
  by_cases z : a = 13
  · subst z; rfl
  · simp only [if_neg z]
theorem vT_s13 (i v : Int) : hst (vT h r13 r15 r26 r27) 13 i v = vT h (up r13 i v) r15 r26 r27 := by
  rw [hst_row, vT_w13]
  rfl
theorem vT_w15 (f : Int → Int) : hrow (vT h r13 r15 r26 r27) 15 f = vT h r13 f r26 r27 := by
  funext a
  unfold hrow vT
  by_cases z : a = 15
  · subst z; rfl
  · simp only [if_neg z]
theorem vT_s15 (i v : Int) : hst (vT h r13 r15 r26 r27) 15 i v = vT h r13 (up r15 i v) r26 r27 := by
  rw [hst_row, vT_w15]
  rfl
theorem vT_w26 (f : Int → Int) : hrow (vT h r13 r15 r26 r27) 26 f = vT h r13 r15 f r27 := by
  funext a
  unfold hrow vT
  by_cases z : a = 26
  · subst z; rfl
  · simp only [if_neg z]
theorem vT_s26 (i v : Int) : hst (vT h r13 r15 r26 r27) 26 i v = vT h r13 r15 (up r26 i v) r27 := by
  rw [hst_row, vT_w26]
  rfl
theorem vT_w27 (f : Int → Int) : hrow (vT h r13 r15 r26 r27) 27 f = vT h r13 r15 r26 f := by
  funext a
  unfold hrow vT
  by_cases z : a = 27
  · subst z; rfl
  · simp only [if_neg z]
theorem vT_s27 (i v : Int) : hst (vT h r13 r15 r26 r27) 27 i v = vT h r13 r15 r26 (up r27 i v) := by
  rw [hst_row, vT_w27]
  rfl
end VvT
section TCK
variable {n : Int} {d : Nat}
/-- what is gone and what has come, as the class's rows tell it behind k cells -/
def rG (h : Hp) (k : Nat) : Int → Int := fun c => if (0 ≤ c ∧ c < k) ∧ flw (h 12) c then gon (h 12) (h 13) (h 19) (h 7 0) (h 7 1) (h 7 2) c else zr6 (h 28) 336 c
def rC (h : Hp) (k : Nat) : Int → Int := fun b => zr6 (h 29) 336 b + cmk (h 12) (h 13) (h 19) (h 7 0) (h 7 1) k b
def rRim (h : Hp) (k : Nat) : Int := rmk (h 12) (h 13) (h 7 0) (h 7 1) (h 7 2) k
def RH (h : Hp) (k : Nat) : Hp := hst (hrow (hrow h 28 (rG h k)) 29 (rC h k)) 26 3 (rRim h k)
def gnC (K A O : Int → Int) (n m o c : Int) : Int := if flw K c then gon K A O n m o c else 0
def beh (K A O : Int → Int) (n m o c : Int) : Int := A c - gnC K A O n m o c + cmk K A O n m 336 c
abbrev bad (K A O : Int → Int) (n m o c : Int) : Prop := (K c ≠ -1 ∧ K c ≠ 3) ∧ 1000000 < beh K A O n m o c
theorem RH_r {h : Hp} {k : Nat} (a : Int) (h1 : a ≠ 26) (h2 : a ≠ 28) (h3 : a ≠ 29) : RH h k a = h a := by
  unfold RH
  rw [hst_off _ h1, hrow_n _ _ h3, hrow_n _ _ h2]
theorem rG_at {h : Hp} {c : Int} (hc : 0 ≤ c ∧ c < 336) : rG h 336 c = gnC (h 12) (h 13) (h 19) (h 7 0) (h 7 1) (h 7 2) c := by
  unfold rG gnC
  by_cases z : flw (h 12) c
  · rw [if_pos ⟨hc, z⟩, if_pos z]
  · rw [if_neg (fun q => z q.2), if_neg z]
    exact if_pos hc
theorem rC_at {h : Hp} {k : Nat} {c : Int} (hc : 0 ≤ c ∧ c < 336) : rC h k c = cmk (h 12) (h 13) (h 19) (h 7 0) (h 7 1) k c := by
  unfold rC
  rw [show zr6 (h 29) 336 c = 0 from if_pos hc, Int.zero_add]
theorem beh_b {K A O : Int → Int} {n m o c : Int} (P : Prt K O) (hl : LwOK n m) (hA : ∀ c : Int, isN c → 0 ≤ A c ∧ A c ≤ 1000000) (hc : isN c) : (0 ≤ gnC K A O n m o c ∧ gnC K A O n m o c ≤ A c) ∧ (0 ≤ cmk K A O n m 336 c ∧ cmk K A O n m 336 c ≤ 336000000) ∧ 0 ≤ beh K A O n m o c ∧ beh K A O n m o c ≤ 337000000 := by
  have a := hA c hc
  have g := gon_b (o := o) (c := c) P hl a.1
  have cb := cmk_b P hl hA c (k := 336) (Nat.le_refl _)
  have gb : 0 ≤ gnC K A O n m o c ∧ gnC K A O n m o c ≤ A c := by
    unfold gnC gon
    split <;> omega
  unfold beh
  exact ⟨gb, by omega, by omega, by omega⟩
theorem e_reckonF {h : Hp} (P : Prt (h 12) (h 19)) (hg : GeoOK h) (hl : LwOK (h 7 0) (h 7 1)) (hA : ∀ c : Int, isN c → 0 ≤ h 13 c ∧ h 13 c ≤ 1000000) (hL : ∀ c : Int, 0 ≤ c → c < 336 → h 12 c ≠ -1 → LayC h c) : ∀ Q, wpS (EF n) (d + 5) mX1_reckon [(2, 26), (2, 11), (2, 20), (2, 7)] h Q = Q (if fst1 (bad (h 12) (h 13) (h 19) (h 7 0) (h 7 1) (h 7 2)) 336 0 = 336 then 1 else 0) (RH h 336) := by
  intro Q
  have w28 : ∀ {G C : Int → Int} {r i v : Int}, hst (hst (hrow (hrow h 28 G) 29 C) 26 3 r) 28 i v = hst (hrow (hrow h 28 (up G i v)) 29 C) 26 3 r := fun {G C r i v} => by
    rw [hst_row _ 26, hst_hn _ _ _ _ (by decide), hst_hn _ _ _ _ (by decide), hst_rr, hst_row _ 26]
    rfl
  have w29 : ∀ {G C : Int → Int} {r i v : Int}, hst (hst (hrow (hrow h 28 G) 29 C) 26 3 r) 29 i v = hst (hrow (hrow h 28 G) 29 (up C i v)) 26 3 r := fun {G C r i v} => by
    rw [hst_row _ 26, hst_hn _ _ _ _ (by decide), hst_rr, hst_row _ 26]
    rfl
  have e0 : hst h 26 3 0 = hst (hrow (hrow h 28 (zr6 (h 28) ((0 : Nat) : Int))) 29 (zr6 (h 29) ((0 : Nat) : Int))) 26 3 0 := by
    rw [zr6_0, zr6_0, hrow_self]
    have : hrow h 29 (h 29) = h := hrow_self h 29
    rw [this]
  have l1 := loop_n (P := fun k => Ws (EF n) (d + 4) mX1_reckon Q 8 [(2, 26), (2, 11), (2, 20), (2, 7), (0, (k : Int))] [] (hst (hrow (hrow h 28 (zr6 (h 28) k)) 29 (zr6 (h 29) k)) 26 3 0)) 336 (by
    intro k hk
    rw [b_X1_reckon_8, if_pos (by omega), and_tl (by omega), and_tl (by omega), w28, w29, zr6_s, zr6_s, w32_n1 (by omega)])
  rw [u_X1_reckon, e0]
  refine l1.trans ?_
  show Ws (EF n) (d + 4) mX1_reckon Q 8 [(2, 26), (2, 11), (2, 20), (2, 7), (0, ((336 : Nat) : Int))] [] _ = _
  rw [b_X1_reckon_8, if_neg (by decide)]
  have e1 : hst (hrow (hrow h 28 (zr6 (h 28) ((336 : Nat) : Int))) 29 (zr6 (h 29) ((336 : Nat) : Int))) 26 3 0 = RH h 0 := by
    unfold RH
    have a1 : rG h 0 = zr6 (h 28) ((336 : Nat) : Int) := by
      funext c
      exact if_neg (fun q => by have := q.1; omega)
    have a2 : rC h 0 = zr6 (h 29) ((336 : Nat) : Int) := by
      funext b
      exact Int.add_zero _
    rw [a1, a2]
    rfl
  rw [e1]
  have l2 := loop_n (P := fun k => Ws (EF n) (d + 4) mX1_reckon Q 41 [(2, 26), (2, 11), (2, 20), (2, 7), (0, (k : Int))] [] (RH h k)) 336 (by
    intro k hk
    have rb := rmk_b (K := h 12) (A := h 13) (o := h 7 2) P hl hA (k := k) (by omega)
    rw [b_X1_reckon_41, if_pos (by omega), e_isFlowing (EF_11 n), b2_if, RH_r 12 (by decide) (by decide) (by decide), w32_n1 (by omega)]
    by_cases y : flw (h 12) k
    · rw [if_pos (show (0 ≤ (k : Int) ∧ (k : Int) < 336) ∧ h 12 k ≠ -1 ∧ h 12 k ≠ 4 from y)]
      have st := e_sendFrom (n := n) (d := d) (h := h) (c := (k : Int)) (r := rRim h k) (G := rG h k) (C := rC h k) P hg hl hA y.1 (hL k y.1.1 y.1.2 y.2.1) (by
        unfold rG
        rw [if_neg (fun q => by have := q.1; omega)]
        exact if_pos (by omega)) (fun b hb => by
        have cb := cmk_b (K := h 12) (A := h 13) (n := h 7 0) (m := h 7 1) P hl hA b (k := k) (by omega)
        rw [rC_at hb]
        omega) (by unfold rRim; omega)
      show wpS (EF n) (d + 4) mX1_sendFrom _ (hst (hrow (hrow h 28 (rG h k)) 29 (rC h k)) 26 3 (rRim h k)) _ = _
      rw [st]
      have a1 : up (rG h k) k (gon (h 12) (h 13) (h 19) (h 7 0) (h 7 1) (h 7 2) k) = rG h (k + 1) := by
        funext c
        unfold up rG
        by_cases z : c = (k : Int)
        · rw [if_pos z, if_pos ⟨by omega, by rw [z]; exact y⟩, z]
        · rw [if_neg z]
          by_cases w : (0 ≤ c ∧ c < (k : Int)) ∧ flw (h 12) c
          · rw [if_pos w, if_pos ⟨by omega, w.2⟩]
          · rw [if_neg w, if_neg (fun q => w ⟨by omega, q.2⟩)]
      have a2 : (fun b => rC h k b + (if flw (h 12) b then fb (h 13) (h 19) (h 7 0) (h 7 1) k b else 0)) = rC h (k + 1) := by
        funext b
        show _ = zr6 (h 29) 336 b + (cmk (h 12) (h 13) (h 19) (h 7 0) (h 7 1) k b + (if flw (h 12) k ∧ flw (h 12) b then fb (h 13) (h 19) (h 7 0) (h 7 1) k b else 0))
        rw [← Int.add_assoc]
        by_cases z : flw (h 12) b
        · rw [if_pos z, if_pos ⟨y, z⟩]; rfl
        · rw [if_neg z, if_neg (fun q => z q.2)]; rfl
      have a3 : rRim h k + frm (h 13) (h 7 0) (h 7 1) (h 7 2) k = rRim h (k + 1) := by
        show _ = rmk (h 12) (h 13) (h 7 0) (h 7 1) (h 7 2) k + (if flw (h 12) k then frm (h 13) (h 7 0) (h 7 1) (h 7 2) k else 0)
        rw [if_pos y]
        rfl
      rw [a1, a2, a3]
      rfl
    · rw [if_neg (show ¬ ((0 ≤ (k : Int) ∧ (k : Int) < 336) ∧ h 12 k ≠ -1 ∧ h 12 k ≠ 4) from y)]
      have a0 : RH h (k + 1) = RH h k := by
        unfold RH
        have a1 : rG h (k + 1) = rG h k := by
          funext c
          unfold rG
          by_cases w : (0 ≤ c ∧ c < (k : Int)) ∧ flw (h 12) c
          · rw [if_pos w, if_pos ⟨by omega, w.2⟩]
          · rw [if_neg w, if_neg (fun q => by
              by_cases z : c = (k : Int)
              · exact y (by rw [← z]; exact q.2)
              · exact w ⟨by omega, q.2⟩)]
        have a2 : rC h (k + 1) = rC h k := by
          funext b
          show zr6 (h 29) 336 b + (cmk (h 12) (h 13) (h 19) (h 7 0) (h 7 1) k b + (if flw (h 12) k ∧ flw (h 12) b then fb (h 13) (h 19) (h 7 0) (h 7 1) k b else 0)) = _
          rw [if_neg (fun q => y q.1), Int.add_zero]
          rfl
        have a3 : rRim h (k + 1) = rRim h k := by
          show rmk (h 12) (h 13) (h 7 0) (h 7 1) (h 7 2) k + (if flw (h 12) k then frm (h 13) (h 7 0) (h 7 1) (h 7 2) k else 0) = _
          rw [if_neg y, Int.add_zero]
          rfl
        rw [a1, a2, a3]
      rw [a0])
  refine l2.trans ?_
  show Ws (EF n) (d + 4) mX1_reckon Q 41 [(2, 26), (2, 11), (2, 20), (2, 7), (0, ((336 : Nat) : Int))] [] _ = _
  rw [b_X1_reckon_41, if_neg (by decide)]
  have key : ∀ (k : Nat) (a : Int), 0 ≤ a → a + k = 336 → Ws (EF n) (d + 4) mX1_reckon Q 76 [(2, 26), (2, 11), (2, 20), (2, 7), (0, a)] [] (RH h 336) = Q (if fst1 (bad (h 12) (h 13) (h 19) (h 7 0) (h 7 1) (h 7 2)) k a = 336 then 1 else 0) (RH h 336) := by
    intro k
    induction k with
    | zero =>
      intro a a0 ha
      rw [b_X1_reckon_76, if_neg (by omega)]
      show _ = Q (if a = 336 then 1 else 0) (RH h 336)
      rw [if_pos (by omega)]
    | succ k ih =>
      intro a a0 ha
      have hc : 0 ≤ a ∧ a < 336 := by omega
      obtain ⟨b1, b2, b3⟩ := beh_b (o := h 7 2) P hl hA hc
      have aa := hA a hc
      have x28 : RH h 336 28 = rG h 336 := by
        unfold RH
        rw [hst_off _ (by decide), hrow_n _ _ (by decide), hrow_s]
      have x29 : RH h 336 29 = rC h 336 := by
        unfold RH
        rw [hst_off _ (by decide), hrow_s]
      have eb : h 13 a - gnC (h 12) (h 13) (h 19) (h 7 0) (h 7 1) (h 7 2) a + cmk (h 12) (h 13) (h 19) (h 7 0) (h 7 1) 336 a = beh (h 12) (h 13) (h 19) (h 7 0) (h 7 1) (h 7 2) a := rfl
      rw [b_X1_reckon_76, if_pos (by omega), e_w_isThere (EF_11 n), b2_if, RH_r 12 (by decide) (by decide) (by decide), w32_of (x := a + 1) (by omega) (by omega), ih (a + 1) (by omega) (by omega)]
      show _ = Q (if (if bad (h 12) (h 13) (h 19) (h 7 0) (h 7 1) (h 7 2) a then a else fst1 (bad (h 12) (h 13) (h 19) (h 7 0) (h 7 1) (h 7 2)) k (a + 1)) = 336 then 1 else 0) (RH h 336)
      by_cases z1 : h 12 a = -1
      · rw [if_neg (fun q => q.2 z1), if_neg (show ¬ bad (h 12) (h 13) (h 19) (h 7 0) (h 7 1) (h 7 2) a from fun q => q.1.1 z1)]
      · rw [if_pos (show (0 ≤ a ∧ a < 336) ∧ h 12 a ≠ -1 from ⟨hc, z1⟩), and_tl hc]
        by_cases z2 : h 12 a = 3
        · rw [if_pos z2, if_neg (show ¬ bad (h 12) (h 13) (h 19) (h 7 0) (h 7 1) (h 7 2) a from fun q => q.1.2 z2)]
        · rw [if_neg z2, u_X1_amountBehind, and_tl hc, and_tl hc, and_tl hc, RH_r 13 (by decide) (by decide) (by decide), x28, x29, rG_at hc, rC_at hc, w32_of (x := h 13 a - gnC (h 12) (h 13) (h 19) (h 7 0) (h 7 1) (h 7 2) a) (by omega) (by omega), w32_of (x := h 13 a - gnC (h 12) (h 13) (h 19) (h 7 0) (h 7 1) (h 7 2) a + cmk (h 12) (h 13) (h 19) (h 7 0) (h 7 1) 336 a) (by omega) (by omega), eb, e_isAmount, b2_if, ih (a + 1) (by omega) (by omega)]
          by_cases z3 : 1000000 < beh (h 12) (h 13) (h 19) (h 7 0) (h 7 1) (h 7 2) a
          · rw [if_neg (show ¬ (0 ≤ beh (h 12) (h 13) (h 19) (h 7 0) (h 7 1) (h 7 2) a ∧ beh (h 12) (h 13) (h 19) (h 7 0) (h 7 1) (h 7 2) a ≤ 1000000) by omega), if_pos (show bad (h 12) (h 13) (h 19) (h 7 0) (h 7 1) (h 7 2) a from ⟨⟨z1, z2⟩, z3⟩), if_neg (show ¬ a = 336 by omega)]
          · rw [if_pos (show 0 ≤ beh (h 12) (h 13) (h 19) (h 7 0) (h 7 1) (h 7 2) a ∧ beh (h 12) (h 13) (h 19) (h 7 0) (h 7 1) (h 7 2) a ≤ 1000000 by omega), if_neg (show ¬ bad (h 12) (h 13) (h 19) (h 7 0) (h 7 1) (h 7 2) a from fun q => z3 q.2)]
  exact key 336 0 (by decide) (by decide)
end TCK
/-! settling: rows behind k cells; g what is gone, c what has come, of each cell -/
def stA (K A g c : Int → Int) (k : Nat) : Int → Int := fun j => if (0 ≤ j ∧ j < k) ∧ flw K j ∧ K j ≠ 3 then A j - g j + c j else A j
def stX (K A X c : Int → Int) (k : Nat) : Int → Int := fun j => if (0 ≤ j ∧ j < k) ∧ flw K j then (if K j = 3 then c j else if K j = 2 then A j else X j) else X j
def stB (K A B : Int → Int) (k : Nat) : Int → Int := fun j => if 0 ≤ j ∧ j < k then (if flw K j then A j else -1) else B j
def stW (K v : Int → Int) : Nat → Int → Int
  | 0, w => w
  | k + 1, w => if flw K k ∧ K k = 3 then w64 (stW K v k w + v k) else stW K v k w
theorem up_sw (f : Int → Int) {i j : Int} (v w : Int) (h : i ≠ j) : up (up f i v) j w = up (up f j w) i v := by
  funext k
  unfold up
  by_cases z : k = j
  · rw [if_pos z, if_neg (by omega), if_pos z]
  · rw [if_neg z, if_neg z]
theorem e_settle {n : Int} {d : Nat} {h : Hp} (hA : ∀ c : Int, isN c → 0 ≤ h 13 c ∧ h 13 c ≤ 1000000) (hgc : ∀ c : Int, isN c → (0 ≤ h 28 c ∧ h 28 c ≤ h 13 c) ∧ 0 ≤ h 29 c ∧ h 29 c ≤ 336000000) : ∀ Q, wpS (EF n) (d + 4) mX1_settle [(2, 26), (2, 11), (2, 7)] h Q = Q 0 (vT h (stA (h 12) (h 13) (h 28) (h 29) 336) (stX (h 12) (h 13) (h 15) (h 29) 336) (up (up (up (up (h 26) 4 (h 7 0)) 5 (h 7 1)) 6 (stW (h 12) (h 29) 336 (w64 (h 26 6 + h 26 3)))) 7 (stW (h 12) (h 28) 336 (h 26 7))) (stB (h 12) (h 13) (h 27) 336)) := by
  intro Q
  have e0 : hst (hst (hst h 26 4 (h 7 0)) 26 5 ((hst h 26 4 (h 7 0)) 7 1)) 26 6 (w64 ((hst (hst h 26 4 (h 7 0)) 26 5 ((hst h 26 4 (h 7 0)) 7 1)) 26 6 + (hst (hst h 26 4 (h 7 0)) 26 5 ((hst h 26 4 (h 7 0)) 7 1)) 26 3)) = vT h (stA (h 12) (h 13) (h 28) (h 29) 0) (stX (h 12) (h 13) (h 15) (h 29) 0) (up (up (up (up (h 26) 4 (h 7 0)) 5 (h 7 1)) 6 (stW (h 12) (h 29) 0 (w64 (h 26 6 + h 26 3)))) 7 (stW (h 12) (h 28) 0 (h 26 7))) (stB (h 12) (h 13) (h 27) 0) := by
    have a1 : stA (h 12) (h 13) (h 28) (h 29) 0 = h 13 := by funext j; exact if_neg (fun q => by have := q.1; omega)
    have a2 : stX (h 12) (h 13) (h 15) (h 29) 0 = h 15 := by funext j; exact if_neg (fun q => by have := q.1; omega)
    have a3 : stB (h 12) (h 13) (h 27) 0 = h 27 := by funext j; exact if_neg (fun q => by omega)
    have a4 : up (up (up (up (h 26) 4 (h 7 0)) 5 (h 7 1)) 6 (w64 (h 26 6 + h 26 3))) 7 (h 26 7) = up (up (up (h 26) 4 (h 7 0)) 5 (h 7 1)) 6 (w64 (h 26 6 + h 26 3)) := by
      funext j
      unfold up
      by_cases z : j = 7
      · subst z; rfl
      · rw [if_neg z]
    have q : h = vT h (h 13) (h 15) (h 26) (h 27) := vT_id.symm
    have b1 : hst h 26 4 (h 7 0) = vT h (h 13) (h 15) (up (h 26) 4 (h 7 0)) (h 27) := by
      conv => lhs; arg 1; rw [q]
      rw [vT_s26]
    rw [b1, vT_s26, vT_s26, a1, a2, a3]
    show vT h (h 13) (h 15) (up (up (up (h 26) 4 (h 7 0)) 5 (h 7 1)) 6 (w64 (h 26 6 + h 26 3))) (h 27) = vT h (h 13) (h 15) (up (up (up (up (h 26) 4 (h 7 0)) 5 (h 7 1)) 6 (w64 (h 26 6 + h 26 3))) 7 (h 26 7)) (h 27)
    rw [a4]
  have l := loop_n (P := fun k => Ws (EF n) (d + 3) mX1_settle Q 32 [(2, 26), (2, 11), (2, 7), (0, (k : Int))] [] (vT h (stA (h 12) (h 13) (h 28) (h 29) k) (stX (h 12) (h 13) (h 15) (h 29) k) (up (up (up (up (h 26) 4 (h 7 0)) 5 (h 7 1)) 6 (stW (h 12) (h 29) k (w64 (h 26 6 + h 26 3)))) 7 (stW (h 12) (h 28) k (h 26 7))) (stB (h 12) (h 13) (h 27) k))) 336 (by
    intro k hk
    have hc : 0 ≤ (k : Int) ∧ (k : Int) < 336 := by omega
    have aa := hA k hc
    obtain ⟨g1, g2⟩ := hgc k hc
    generalize hr : up (up (h 26) 4 (h 7 0)) 5 (h 7 1) = r0
    have nA : stA (h 12) (h 13) (h 28) (h 29) k k = h 13 k := if_neg (fun q => by have := q.1; omega)
    have nX : stX (h 12) (h 13) (h 15) (h 29) k k = h 15 k := if_neg (fun q => by have := q.1; omega)
    have uW : ∀ v w, stW (h 12) v (k + 1) w = if flw (h 12) k ∧ h 12 k = 3 then w64 (stW (h 12) v k w + v k) else stW (h 12) v k w := fun _ _ => rfl
    have uB : ∀ x : Int, x = (if flw (h 12) k then h 13 k else -1) → up (stB (h 12) (h 13) (h 27) k) k x = stB (h 12) (h 13) (h 27) (k + 1) := fun x hx => by
      funext j
      unfold up stB
      by_cases z : j = (k : Int)
      · rw [if_pos z, if_pos (by omega), z, hx]
      · rw [if_neg z]
        by_cases w : 0 ≤ j ∧ j < (k : Int)
        · rw [if_pos w, if_pos (show 0 ≤ j ∧ j < ((k + 1 : Nat) : Int) by omega)]
        · rw [if_neg w, if_neg (show ¬ (0 ≤ j ∧ j < ((k + 1 : Nat) : Int)) by omega)]
    have keepA : ¬ (flw (h 12) k ∧ h 12 k ≠ 3) → stA (h 12) (h 13) (h 28) (h 29) (k + 1) = stA (h 12) (h 13) (h 28) (h 29) k := fun hn => by
      funext j
      unfold stA
      by_cases w : (0 ≤ j ∧ j < (k : Int)) ∧ flw (h 12) j ∧ h 12 j ≠ 3
      · rw [if_pos w, if_pos ⟨by omega, w.2⟩]
      · rw [if_neg w, if_neg (fun q => by
          by_cases z : j = (k : Int)
          · exact hn (by rw [← z]; exact q.2)
          · exact w ⟨by omega, q.2⟩)]
    have newA : (flw (h 12) k ∧ h 12 k ≠ 3) → up (stA (h 12) (h 13) (h 28) (h 29) k) k (h 13 k - h 28 k + h 29 k) = stA (h 12) (h 13) (h 28) (h 29) (k + 1) := fun hn => by
      funext j
      unfold up stA
      by_cases z : j = (k : Int)
      · rw [if_pos z, if_pos ⟨by omega, by rw [z]; exact hn⟩, z]
      · rw [if_neg z]
        by_cases w : (0 ≤ j ∧ j < (k : Int)) ∧ flw (h 12) j ∧ h 12 j ≠ 3
        · rw [if_pos w, if_pos ⟨by omega, w.2⟩]
        · rw [if_neg w, if_neg (fun q => w ⟨by omega, q.2⟩)]
    have setX : ∀ x : Int, x = (if flw (h 12) k then (if h 12 k = 3 then h 29 k else if h 12 k = 2 then h 13 k else h 15 k) else h 15 k) → up (stX (h 12) (h 13) (h 15) (h 29) k) k x = stX (h 12) (h 13) (h 15) (h 29) (k + 1) := fun x hx => by
      funext j
      unfold up stX
      by_cases z : j = (k : Int)
      · rw [if_pos z, hx, z]
        by_cases y : flw (h 12) k
        · rw [if_pos y, if_pos (show (0 ≤ (k : Int) ∧ (k : Int) < ((k + 1 : Nat) : Int)) ∧ flw (h 12) k from ⟨by omega, y⟩)]
        · rw [if_neg y, if_neg (show ¬ ((0 ≤ (k : Int) ∧ (k : Int) < ((k + 1 : Nat) : Int)) ∧ flw (h 12) k) from fun q => y q.2)]
      · rw [if_neg z]
        by_cases w : (0 ≤ j ∧ j < (k : Int)) ∧ flw (h 12) j
        · rw [if_pos w, if_pos (show (0 ≤ j ∧ j < ((k + 1 : Nat) : Int)) ∧ flw (h 12) j from ⟨by omega, w.2⟩)]
        · rw [if_neg w, if_neg (show ¬ ((0 ≤ j ∧ j < ((k + 1 : Nat) : Int)) ∧ flw (h 12) j) from fun q => w ⟨by omega, q.2⟩)]
    have keepX : h 15 k = (if flw (h 12) k then (if h 12 k = 3 then h 29 k else if h 12 k = 2 then h 13 k else h 15 k) else h 15 k) → stX (h 12) (h 13) (h 15) (h 29) (k + 1) = stX (h 12) (h 13) (h 15) (h 29) k := fun hx => by
      rw [← setX _ hx, ← nX, up_self]
    have x12 : ∀ {a b c e}, vT h a b c e 12 = h 12 := rfl
    have x28 : ∀ {a b c e}, vT h a b c e 28 = h 28 := rfl
    have x29 : ∀ {a b c e}, vT h a b c e 29 = h 29 := rfl
    rw [b_X1_settle_32, if_pos (by omega), and_tl hc, vT_s27, e_isFlowing (EF_11 n), b2_if, x12, w32_n1 (by omega), uW, uW]
    by_cases y : flw (h 12) k
    · rw [if_pos (show (0 ≤ (k : Int) ∧ (k : Int) < 336) ∧ h 12 k ≠ -1 ∧ h 12 k ≠ 4 from y), and_tl hc, and_tl hc, vT_r13, nA, vT_s27, up_up, uB _ (by rw [if_pos y]), u_X1_settleCell, and_tl hc, x12]
      by_cases z3 : h 12 (k : Int) = 3
      · rw [if_pos z3, if_pos (show flw (h 12) k ∧ h 12 k = 3 from ⟨y, z3⟩), if_pos (show flw (h 12) k ∧ h 12 k = 3 from ⟨y, z3⟩), and_tl hc, and_tl hc, and_tl hc, and_tl hc, x28, vT_r26, up_s, vT_s26, up_up, vT_r26, x29, keepA (fun q => q.2 z3)]
        have q6 : ∀ a b : Int, up (up r0 6 a) 7 b 6 = a := fun a b => by rw [up_n _ _ (by decide), up_s]
        rw [q6, vT_s26, x29, vT_s15, setX _ (by rw [if_pos y, if_pos z3]), up_sw _ _ _ (show (7 : Int) ≠ 6 by decide), up_up]
      · have z3' : ¬ (flw (h 12) k ∧ h 12 k = 3) := fun q => z3 q.2
        have r77 : ∀ {b c e}, Ws (EF n) (d + 2) mX1_settleCell (fun r2 h2 => Ws (EF n) (d + 3) mX1_settle Q 32 [(2, 26), (2, 11), (2, 7), (0, ((k + 1 : Nat) : Int))] [] h2) 77 [(2, 26), (2, 11), (0, (k : Int))] [] (vT h (stA (h 12) (h 13) (h 28) (h 29) k) b c e) = Ws (EF n) (d + 3) mX1_settle Q 32 [(2, 26), (2, 11), (2, 7), (0, ((k + 1 : Nat) : Int))] [] (vT h (stA (h 12) (h 13) (h 28) (h 29) (k + 1)) b c e) := by
          intro b c e
          rw [b_X1_settleCell_77, u_X1_amountBehind, and_tl hc, and_tl hc, and_tl hc, and_tl hc, vT_r13, x28, x29, nA, w32_of (x := h 13 k - h 28 k) (by omega) (by omega), w32_of (x := h 13 k - h 28 k + h 29 k) (by omega) (by omega), vT_s13, newA ⟨y, z3⟩]
        rw [if_neg z3, if_neg z3', if_neg z3', and_tl hc]
        by_cases z2 : h 12 (k : Int) = 2
        · rw [if_pos z2, and_tl hc, and_tl hc, vT_r13, nA, vT_s15, setX _ (by rw [if_pos y, if_neg z3, if_pos z2]), r77]
        · rw [if_neg z2, r77, keepX (by rw [if_pos y, if_neg z3, if_neg z2])]
    · have y3 : ¬ (flw (h 12) k ∧ h 12 k = 3) := fun q => y q.1
      rw [if_neg (show ¬ ((0 ≤ (k : Int) ∧ (k : Int) < 336) ∧ h 12 k ≠ -1 ∧ h 12 k ≠ 4) from y), if_neg y3, if_neg y3, uB _ (by rw [if_neg y]), keepA (fun q => y q.1), keepX (by rw [if_neg y])])
  rw [u_X1_settle, e0]
  refine l.trans ?_
  show Ws (EF n) (d + 3) mX1_settle Q 32 [(2, 26), (2, 11), (2, 7), (0, ((336 : Nat) : Int))] [] _ = _
  rw [b_X1_settle_32, if_neg (by decide)]
