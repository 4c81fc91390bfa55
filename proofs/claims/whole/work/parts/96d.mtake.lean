/-! tick: the reference sets and takes its flows -/
/-- the rows 50, 58, 61 replaced -/
def vU (h : Hp) (r50 r58 r61 : Int → Int) : Hp := fun a => if a = 50 then r50 else if a = 58 then r58 else if a = 61 then r61 else h a
section VvU
variable {h : Hp} {r50 r58 r61 : Int → Int}
theorem vU_id : vU h (h 50) (h 58) (h 61) = h := by
  funext a
  unfold vU
  repeat' split
  all_goals first | rfl | (subst_vars; rfl)
theorem vU_r50 : vU h r50 r58 r61 50 = r50 := rfl
theorem vU_r58 : vU h r50 r58 r61 58 = r58 := rfl
theorem vU_r61 : vU h r50 r58 r61 61 = r61 := rfl
theorem vU_off {a : Int} (h50 : a ≠ 50) (h58 : a ≠ 58) (h61 : a ≠ 61) : vU h r50 r58 r61 a = h a := by
  unfold vU
  rw [if_neg h50, if_neg h58, if_neg h61]
theorem vU_w50 (f : Int → Int) : hrow (vU h r50 r58 r61) 50 f = vU h f r58 r61 := by
  funext a
  unfold hrow vU
  by_cases z : a = 50
  · subst z; rfl
  · simp only [if_neg z]
theorem vU_s50 (i v : Int) : hst (vU h r50 r58 r61) 50 i v = vU h (up r50 i v) r58 r61 := by
  rw [hst_row, vU_w50]
  rfl
theorem vU_w58 (f : Int → Int) : hrow (vU h r50 r58 r61) 58 f = vU h r50 f r61 := by
  funext a
  unfold hrow vU
  by_cases z : a = 58
  · subst z; rfl
  · simp only [if_neg z]
theorem vU_s58 (i v : Int) : hst (vU h r50 r58 r61) 58 i v = vU h r50 (up r58 i v) r61 := by
  rw [hst_row, vU_w58]
  rfl
theorem vU_w61 (f : Int → Int) : hrow (vU h r50 r58 r61) 61 f = vU h r50 r58 f := by
  funext a
  unfold hrow vU
  by_cases z : a = 61
  · subst z; rfl
  · simp only [if_neg z]
theorem vU_s61 (i v : Int) : hst (vU h r50 r58 r61) 61 i v = vU h r50 r58 (up r61 i v) := by
  rw [hst_row, vU_w61]
  rfl
end VvU
section MTK
variable {E : PvEnv} {d : Nat} {K A O : Int → Int} {n m o : Int}
theorem e_m_setFlows (hE : ∀ k, E 50 k = refT 50 k) {h : Hp} (P : Prt K O) (M : MF K A O n m o h) (hl : LwOK n m) (hA : ∀ c : Int, isN c → 0 ≤ A c ∧ A c ≤ 1000000) : ∃ g : Hp, InF K A O n m o h 336 g ∧ ∀ Q, wpS E (d + 5) mX10_setFlows [(2, 50)] h Q = Q (rmk K A n m o 336) g := by
  let g0 : Hp := hrow (hrow (hst h 50 37 0) 71 (zr6 (h 71) 336)) 72 (zr6 (h 72) 336)
  have e0 : ∀ Q, wpS E (d + 5) mX10_setFlows [(2, 50)] h Q = Ws E (d + 4) mX10_setFlows Q 38 [(2, 50), (1, 0), (9, 0), (0, 0), (9, 0), (9, 0)] [] g0 := by
    intro Q
    have l := loop_n (P := fun k => Ws E (d + 4) mX10_setFlows Q 9 [(2, 50), (1, 0), (9, 0), (0, (k : Int)), (9, 0), (9, 0)] [] (hrow (hrow (hst h 50 37 0) 71 (zr6 (h 71) k)) 72 (zr6 (h 72) k))) 336 (by
      intro k hk
      rw [b_X10_setFlows_9 hE, if_pos (by omega), and_tl (by omega), and_tl (by omega), hst_hn _ _ _ _ (by decide), hst_rr, hst_rr, zr6_s, zr6_s, w32_n1 (by omega)])
    have s71 : hrow (hst h 50 37 0) 71 (h 71) = hst h 50 37 0 := by
      have := hrow_self (hst h 50 37 0) 71
      rw [hst_off h (show (71 : Int) ≠ 50 by decide)] at this
      exact this
    have s72 : hrow (hst h 50 37 0) 72 (h 72) = hst h 50 37 0 := by
      have := hrow_self (hst h 50 37 0) 72
      rw [hst_off h (show (72 : Int) ≠ 50 by decide)] at this
      exact this
    rw [zr6_0, zr6_0, s71, s72] at l
    rw [u_X10_setFlows hE]
    refine l.trans ?_
    show Ws E (d + 4) mX10_setFlows Q 9 [(2, 50), (1, 0), (9, 0), (0, ((336 : Nat) : Int)), (9, 0), (9, 0)] [] _ = _
    rw [b_X10_setFlows_9 hE, if_neg (by decide)]
    rfl
  have i0 : InF K A O n m o h 0 g0 := by
    have x : ∀ a : Int, a ≠ 71 → a ≠ 72 → g0 a = hst h 50 37 0 a := fun a h1 h2 => by
      show hrow (hrow (hst h 50 37 0) 71 (zr6 (h 71) 336)) 72 (zr6 (h 72) 336) a = _
      rw [hrow_n _ _ h2, hrow_n _ _ h1]
    have x37 : g0 50 37 = 0 := by rw [x 50 (by decide) (by decide), hst_s]
    refine ⟨⟨fun a h1 h2 h3 h4 h5 h6 h7 h8 => ?_, fun i h1 h2 h3 => ?_⟩, ?_, fun c hc => ?_, fun b hb => ?_, fun a b ha hb => ?_⟩
    · rw [x a h7 h8, hst_off _ h1]
    · rw [x 50 (by decide) (by decide), hst_o _ _ _ h3]
    · rw [x37]; exact ⟨Int.le_refl _, Int.le_refl _⟩
    · have : g0 71 = zr6 (h 71) 336 := by
        show hrow (hrow (hst h 50 37 0) 71 (zr6 (h 71) 336)) 72 (zr6 (h 72) 336) 71 = _
        rw [hrow_n _ _ (by decide), hrow_s]
      rw [this, if_neg (show ¬ c < ((0 : Nat) : Int) by have := hc.1; omega)]
      exact if_pos hc
    · have : g0 72 = zr6 (h 72) 336 := by
        show hrow (hrow (hst h 50 37 0) 71 (zr6 (h 71) 336)) 72 (zr6 (h 72) 336) 72 = _
        rw [hrow_s]
      rw [this]
      exact if_pos hb
    · rw [x37, if_neg (fun q => by have := q.1; have := ha.1; omega)]
      rfl
  obtain ⟨⟨g, v⟩, i1, e1⟩ := loop_e (σ := Hp × PV × PV) (Inv := fun k s => InF K A O n m o h k s.1) (X := fun Q k s => Ws E (d + 4) mX10_setFlows Q 38 [(2, 50), (1, rmk K A n m o k), (9, 0), (0, (k : Int)), s.2.1, s.2.2] [] s.1) 336 (g0, (9, 0), (9, 0)) i0 (by
    rintro k ⟨g, v4, v5⟩ hk I
    have I : InF K A O n m o h k g := I
    have hc : 0 ≤ (k : Int) ∧ (k : Int) < 336 := by omega
    have Mg := MF_Fr I.1 M
    have mT := Mg.1.2.1 k hc
    by_cases y : flw K k
    · obtain ⟨g', v, I', e⟩ := e_m_cell (d := d) (v4 := v4) (v5 := v5) hE P M hl hA hk y I
      exact ⟨(g', v), I', e⟩
    · have ur : rmk K A n m o (k + 1) = rmk K A n m o k := by
        show rmk K A n m o k + (if flw K k then frm A n m o k else 0) = _
        rw [if_neg y, Int.add_zero]
      refine ⟨(g, v4, v5), ?_, fun Q => ?_⟩
      · obtain ⟨F, j1, j2, j3, j4⟩ := I
        have on := onK_n K k
        refine ⟨F, ?_, fun c hc => ?_, fun b hb => ?_, fun a b ha hb => ?_⟩
        · show 0 ≤ g 50 37 ∧ g 50 37 ≤ sm (onK K) k + onK K k
          omega
        · show g 71 c = _
          rw [j2 c hc]
          by_cases z : c = k
          · rw [z, if_neg (by omega), if_pos (by omega)]
            unfold gnC
            rw [if_neg y]
          · by_cases w : c < (k : Int)
            · rw [if_pos w, if_pos (by omega)]
            · rw [if_neg w, if_neg (by omega)]
        · show g 72 b = _
          rw [j3 b hb]
          show _ = cmk K A O n m k b + (if flw K k ∧ flw K b then fb A O n m k b else 0)
          rw [if_neg (fun q => y q.1), Int.add_zero]
        · show fl (g 68) (g 69) (g 70) a b (g 50 37).toNat = _
          rw [j4 a b ha hb]
          by_cases w : a < (k : Int) ∧ flw K a ∧ flw K b
          · rw [if_pos w, if_pos ⟨by omega, w.2⟩]
          · rw [if_neg w, if_neg (fun q => by
              by_cases z : a = k
              · exact y (by rw [← z]; exact q.2.1)
              · exact w ⟨by omega, q.2⟩)]
      · show Ws E (d + 4) mX10_setFlows Q 38 [(2, 50), (1, rmk K A n m o k), (9, 0), (0, (k : Int)), v4, v5] [] g = Ws E (d + 4) mX10_setFlows Q 38 [(2, 50), (1, rmk K A n m o (k + 1)), (9, 0), (0, ((k + 1 : Nat) : Int)), v4, v5] [] g
        rw [ur, b_X10_setFlows_38 hE, if_pos (by omega), and_tl hc, and_tl hc, w32_n1 (by omega)]
        by_cases z : K (k : Int) = -1
        · rw [if_pos (mT.1.mpr z)]
        · have z4 : K (k : Int) = 4 := Classical.not_not.mp (fun q => y ⟨hc, z, q⟩)
          rw [if_neg (fun q => z (mT.1.mp q)), if_pos (by rw [mT.2 z]; exact z4)])
  refine ⟨g, i1, fun Q => ?_⟩
  rw [e0]
  refine (e1 Q).trans ?_
  show Ws E (d + 4) mX10_setFlows Q 38 [(2, 50), (1, rmk K A n m o 336), (9, 0), (0, ((336 : Nat) : Int)), v.1, v.2] [] g = _
  rw [b_X10_setFlows_38 hE, if_neg (by decide)]
/-- would an amount be beyond? -/
theorem e_m_check (hE : ∀ k, E 50 k = refT 50 k) {h g : Hp} {ov : Int} (P : Prt K O) (M : MF K A O n m o h) (hl : LwOK n m) (hA : ∀ c : Int, isN c → 0 ≤ A c ∧ A c ≤ 1000000) (I : InF K A O n m o h 336 g) (hb : ∀ c : Int, isN c → isBit (h 57 c)) : (fst1 (bad K A O n m o) 336 0 = 336 → ∃ v : PV, ∀ Q, Ws E d mX10_tick Q 7 [(2, 50), (1, ov), (9, 0), (0, 0), (9, 0), (9, 0), (9, 0)] [] g = Ws E d mX10_tick Q 7 [(2, 50), (1, ov), (9, 0), (0, ((336 : Nat) : Int)), v, (9, 0), (9, 0)] [] (hrow g 73 (pf (h 57) (g 73) ((336 : Nat) : Int)))) ∧ (fst1 (bad K A O n m o) 336 0 ≠ 336 → ∃ k : Int, ∀ Q, Ws E d mX10_tick Q 7 [(2, 50), (1, ov), (9, 0), (0, 0), (9, 0), (9, 0), (9, 0)] [] g = Q (-4) (hrow g 73 (pf (h 57) (g 73) k))) := by
  obtain ⟨F, j1, j2, j3, j4⟩ := I
  have Mg := MF_Fr F M
  have x57 : g 57 = h 57 := F.1 57 (by decide) (by decide) (by decide) (by decide) (by decide) (by decide) (by decide) (by decide)
  have st : ∀ (k : Nat) (v : PV), k < 336 → ∃ v' : PV, ∀ Q, Ws E d mX10_tick Q 7 [(2, 50), (1, ov), (9, 0), (0, (k : Int)), v, (9, 0), (9, 0)] [] (hrow g 73 (pf (h 57) (g 73) k)) = if bad K A O n m o k then Q (-4) (hrow g 73 (pf (h 57) (g 73) k)) else Ws E d mX10_tick Q 7 [(2, 50), (1, ov), (9, 0), (0, ((k + 1 : Nat) : Int)), v', (9, 0), (9, 0)] [] (hrow g 73 (pf (h 57) (g 73) ((k + 1 : Nat) : Int))) := by
    intro k v hk
    have hc : 0 ≤ (k : Int) ∧ (k : Int) < 336 := by omega
    have mT := Mg.1.2.1 k hc
    have x : ∀ {f} (a : Int), a ≠ 73 → hrow g 73 f a = g a := fun a ha => hrow_n _ _ ha
    have r73 : ∀ (b : Int) Q, Ws E d mX10_tick Q 73 [(2, 50), (1, ov), (9, 0), (0, (k : Int)), (0, b), (9, 0), (9, 0)] [] (hrow g 73 (pf (h 57) (g 73) k)) = Ws E d mX10_tick Q 7 [(2, 50), (1, ov), (9, 0), (0, ((k + 1 : Nat) : Int)), (0, b), (9, 0), (9, 0)] [] (hrow g 73 (pf (h 57) (g 73) ((k + 1 : Nat) : Int))) := fun b Q => by
      rw [b_X10_tick_73 hE, and_tl hc, x 57 (by decide), x57, and_tl ⟨hb k hc, hc⟩, hst_rr, pf_s, w32_n1 (by omega)]
    by_cases z : K (k : Int) = -1 ∨ K (k : Int) = 3
    · refine ⟨(0, 0), fun Q => ?_⟩
      have nb : ¬ bad K A O n m o k := fun q => z.elim q.1.1 q.1.2
      rw [if_neg nb, b_X10_tick_7 hE, if_pos (by omega), and_tl hc, and_tl hc, x 57 (by decide), x 59 (by decide), b_X10_tick_37 hE, b_X10_tick_38 hE, if_pos rfl, r73]
      by_cases w : K (k : Int) = -1
      · rw [if_pos (mT.1.mpr w)]
      · rw [if_neg (fun q => w (mT.1.mp q)), if_pos (by rw [mT.2 w]; exact z.resolve_left w)]
    · have z1 : K (k : Int) ≠ -1 := fun q => z (Or.inl q)
      have z3 : K (k : Int) ≠ 3 := fun q => z (Or.inr q)
      refine ⟨(0, 1), fun Q => ?_⟩
      obtain ⟨b1, b2, b3⟩ := beh_b (o := o) P hl hA hc
      have aa := hA k hc
      have e58 := Mg.2 k hc z1
      have e71 := j2 k hc
      rw [if_pos (show (k : Int) < ((336 : Nat) : Int) by omega)] at e71
      have e72 := j3 k hc
      have eb : A k + cmk K A O n m 336 k - gnC K A O n m o k = beh K A O n m o k := by unfold beh; omega
      rw [b_X10_tick_7 hE, if_pos (by omega), and_tl hc, and_tl hc, x 57 (by decide), x 59 (by decide), if_neg (fun q => z1 (mT.1.mp q)), if_neg (by rw [mT.2 z1]; exact z3), b_X10_tick_38 hE, if_neg (by decide), and_tl hc, and_tl hc, and_tl hc, x 58 (by decide), x 71 (by decide), x 72 (by decide), e58, e71, e72, w32_of (x := A k + cmk K A O n m 336 k) (by omega) (by omega), w32_of (x := A k + cmk K A O n m 336 k - gnC K A O n m o k) (by omega) (by omega), eb, r73]
      by_cases w : 1000000 < beh K A O n m o k
      · rw [if_pos w, if_pos (show bad K A O n m o k from ⟨⟨z1, z3⟩, w⟩)]
      · rw [if_neg w, if_neg (show ¬ bad K A O n m o k from fun q => w q.2)]
  have upto : ∀ N : Nat, N ≤ 336 → (∀ j : Nat, j < N → ¬ bad K A O n m o j) → ∃ v : PV, ∀ Q, Ws E d mX10_tick Q 7 [(2, 50), (1, ov), (9, 0), (0, 0), (9, 0), (9, 0), (9, 0)] [] g = Ws E d mX10_tick Q 7 [(2, 50), (1, ov), (9, 0), (0, (N : Int)), v, (9, 0), (9, 0)] [] (hrow g 73 (pf (h 57) (g 73) (N : Int))) := by
    intro N
    induction N with
    | zero =>
      intro _ _
      refine ⟨(9, 0), fun Q => ?_⟩
      rw [pf_0, hrow_self]
      rfl
    | succ N ih =>
      intro hN hnb
      obtain ⟨v, e⟩ := ih (by omega) (fun j hj => hnb j (by omega))
      obtain ⟨v', e'⟩ := st N v (by omega)
      exact ⟨v', fun Q => (e Q).trans ((e' Q).trans (if_neg (hnb N (by omega))))⟩
  constructor
  · intro hf
    have al := fst1_all (p := bad K A O n m o) 336 0 hf
    exact upto 336 (Nat.le_refl _) (fun j hj => al j (by omega) (by omega))
  · intro hf
    rcases fst_fail (fun j : Nat => ¬ bad K A O n m o j) 336 with hb' | ⟨k, k1, k2, k3⟩
    · exfalso
      have fb := fst1_b (bad K A O n m o) 336 0
      have := fb.2.2 (by omega)
      have q := hb' (fst1 (bad K A O n m o) 336 0).toNat (by omega)
      rw [show (((fst1 (bad K A O n m o) 336 0).toNat : Nat) : Int) = fst1 (bad K A O n m o) 336 0 by omega] at q
      exact q this
    · obtain ⟨v, e⟩ := upto k (by omega) k2
      obtain ⟨v', e'⟩ := st k v k1
      exact ⟨k, fun Q => (e Q).trans ((e' Q).trans (if_pos (Classical.not_not.mp k3)))⟩
end MTK
/-- settling in the reference: T whether a cell is there -/
def mtA (T K A g c : Int → Int) (k : Nat) : Int → Int := fun j => if (0 ≤ j ∧ j < k) ∧ T j ≠ 0 ∧ K j ≠ 3 then A j + (c j - g j) else A j
def mtX (T K A X c : Int → Int) (k : Nat) : Int → Int := fun j => if (0 ≤ j ∧ j < k) ∧ T j ≠ 0 then (if K j = 3 then c j else if K j = 2 then A j else X j) else X j
def mtW (T K v : Int → Int) : Nat → Int → Int
  | 0, w => w
  | k + 1, w => if T k ≠ 0 ∧ K k = 3 then w64 (mtW T K v k w + v k) else mtW T K v k w
theorem e_m_takeFlows {E : PvEnv} {d : Nat} (hE : ∀ k, E 50 k = refT 50 k) {g : Hp} (hm : 0 ≤ g 50 37 ∧ g 50 37 ≤ 1024) (hb : ∀ c : Int, isN c → (-400000000 ≤ g 72 c - g 71 c ∧ g 72 c - g 71 c ≤ 400000000) ∧ -400000000 ≤ g 58 c + (g 72 c - g 71 c) ∧ g 58 c + (g 72 c - g 71 c) ≤ 400000000) : ∃ g1 : Hp, ((∀ a : Int, a ≠ 65 → a ≠ 66 → a ≠ 67 → a ≠ 50 → g1 a = g a) ∧ g1 50 = up (g 50) 33 (g 50 37) ∧ ∀ j : Nat, j < (g 50 37).toNat → g1 65 j = g 68 j ∧ g1 66 j = g 69 j ∧ g1 67 j = g 70 j) ∧ ∀ Q, wpS E (d + 1) mX10_takeFlows [(2, 50)] g Q = Q 0 (vU g1 (up (up (g1 50) 43 (mtW (g 57) (g 59) (g 72) 336 (g 50 43))) 44 (mtW (g 57) (g 59) (g 71) 336 (g 50 44))) (mtA (g 57) (g 59) (g 58) (g 71) (g 72) 336) (mtX (g 57) (g 59) (g 58) (g 61) (g 72) 336)) := by
  obtain ⟨g1, ⟨k1, k2, k3⟩, e1⟩ := loop_e (σ := Hp) (Inv := fun k s => (∀ a : Int, a ≠ 65 → a ≠ 66 → a ≠ 67 → a ≠ 50 → s a = g a) ∧ s 50 = up (g 50) 33 (g 50 37) ∧ ∀ j : Nat, j < k → s 65 j = g 68 j ∧ s 66 j = g 69 j ∧ s 67 j = g 70 j) (X := fun Q k s => Ws E d mX10_takeFlows Q 10 [(2, 50), (0, (k : Int))] [] s) (g 50 37).toNat (hst g 50 33 (g 50 37)) ⟨fun a h1 h2 h3 h4 => hst_off _ h4, by rw [hst_row, hrow_s], fun j hj => absurd hj (Nat.not_lt_zero _)⟩ (by
    rintro k s hk ⟨k1, k2, k3⟩
    refine ⟨hst (hst (hst s 65 k (g 68 k)) 66 k (g 69 k)) 67 k (g 70 k), ⟨fun a h1 h2 h3 h4 => ?_, ?_, fun j hj => ?_⟩, fun Q => ?_⟩
    · rw [hst_off _ h3, hst_off _ h2, hst_off _ h1]; exact k1 a h1 h2 h3 h4
    · rw [hst_off _ (by decide), hst_off _ (by decide), hst_off _ (by decide)]; exact k2
    · rw [hst_off _ (show (65 : Int) ≠ 67 by decide), hst_off _ (show (65 : Int) ≠ 66 by decide), hst_off _ (show (66 : Int) ≠ 67 by decide)]
      by_cases z : j = k
      · subst z
        rw [hst_s, hst_s, hst_s]
        exact ⟨rfl, rfl, rfl⟩
      · rw [hst_o _ _ _ (by omega), hst_o _ _ _ (by omega), hst_o _ _ _ (by omega), hst_off _ (show (66 : Int) ≠ 65 by decide), hst_off _ (show (67 : Int) ≠ 66 by decide), hst_off _ (show (67 : Int) ≠ 65 by decide)]
        exact k3 j (by omega)
    · have x37 : s 50 37 = g 50 37 := by rw [k2, up_n _ _ (by decide)]
      have x68 := k1 68 (by decide) (by decide) (by decide) (by decide)
      have x69 := k1 69 (by decide) (by decide) (by decide) (by decide)
      have x70 := k1 70 (by decide) (by decide) (by decide) (by decide)
      have y69 : (hst s 65 k (s 68 k)) 69 = s 69 := hst_off _ (by decide)
      have y70 : ∀ v, (hst (hst s 65 k (s 68 k)) 66 k v) 70 = s 70 := fun v => by rw [hst_off _ (by decide), hst_off _ (by decide)]
      rw [b_X10_takeFlows_10 hE, x37, if_pos (by omega), and_tl (by omega), and_tl (by omega), and_tl (by omega), and_tl (by omega), and_tl (by omega), and_tl (by omega), w32_n1 (by omega), y69, y70, x68, x69, x70])
  refine ⟨g1, ⟨k1, k2, k3⟩, fun Q => ?_⟩
  rw [u_X10_takeFlows hE]
  refine (e1 Q).trans ?_
  show Ws E d mX10_takeFlows Q 10 [(2, 50), (0, (((g 50 37).toNat : Nat) : Int))] [] g1 = _
  have x37 : g1 50 37 = g 50 37 := by rw [k2, up_n _ _ (by decide)]
  have q43 : g1 50 43 = g 50 43 := by rw [k2, up_n _ _ (by decide)]
  have q44 : g1 50 44 = g 50 44 := by rw [k2, up_n _ _ (by decide)]
  have y : ∀ a : Int, a ≠ 65 → a ≠ 66 → a ≠ 67 → a ≠ 50 → g1 a = g a := k1
  have y57 := y 57 (by decide) (by decide) (by decide) (by decide)
  have y58 := y 58 (by decide) (by decide) (by decide) (by decide)
  have y59 := y 59 (by decide) (by decide) (by decide) (by decide)
  have y61 := y 61 (by decide) (by decide) (by decide) (by decide)
  have y71 := y 71 (by decide) (by decide) (by decide) (by decide)
  have y72 := y 72 (by decide) (by decide) (by decide) (by decide)
  rw [b_X10_takeFlows_10 hE, x37, if_neg (by omega)]
  have l := loop_n (P := fun k => Ws E d mX10_takeFlows Q 62 [(2, 50), (0, (k : Int))] [] (vU g1 (up (up (g1 50) 43 (mtW (g 57) (g 59) (g 72) k (g 50 43))) 44 (mtW (g 57) (g 59) (g 71) k (g 50 44))) (mtA (g 57) (g 59) (g 58) (g 71) (g 72) k) (mtX (g 57) (g 59) (g 58) (g 61) (g 72) k))) 336 (by
    intro k hk
    have hc : 0 ≤ (k : Int) ∧ (k : Int) < 336 := by omega
    have bb := hb k hc
    have nA : mtA (g 57) (g 59) (g 58) (g 71) (g 72) k k = g 58 k := if_neg (fun q => by have := q.1; omega)
    have nX : mtX (g 57) (g 59) (g 58) (g 61) (g 72) k k = g 61 k := if_neg (fun q => by have := q.1; omega)
    have uW : ∀ v w, mtW (g 57) (g 59) v (k + 1) w = if g 57 k ≠ 0 ∧ g 59 k = 3 then w64 (mtW (g 57) (g 59) v k w + v k) else mtW (g 57) (g 59) v k w := fun _ _ => rfl
    have keepA : ¬ (g 57 k ≠ 0 ∧ g 59 k ≠ 3) → mtA (g 57) (g 59) (g 58) (g 71) (g 72) (k + 1) = mtA (g 57) (g 59) (g 58) (g 71) (g 72) k := fun hn => by
      funext j
      unfold mtA
      by_cases w : (0 ≤ j ∧ j < (k : Int)) ∧ g 57 j ≠ 0 ∧ g 59 j ≠ 3
      · rw [if_pos w, if_pos ⟨by omega, w.2⟩]
      · rw [if_neg w, if_neg (fun q => by
          by_cases z : j = (k : Int)
          · exact hn (by rw [← z]; exact q.2)
          · exact w ⟨by omega, q.2⟩)]
    have newA : (g 57 k ≠ 0 ∧ g 59 k ≠ 3) → up (mtA (g 57) (g 59) (g 58) (g 71) (g 72) k) k (g 58 k + (g 72 k - g 71 k)) = mtA (g 57) (g 59) (g 58) (g 71) (g 72) (k + 1) := fun hn => by
      funext j
      unfold up mtA
      by_cases z : j = (k : Int)
      · rw [if_pos z, if_pos ⟨by omega, by rw [z]; exact hn⟩, z]
      · rw [if_neg z]
        by_cases w : (0 ≤ j ∧ j < (k : Int)) ∧ g 57 j ≠ 0 ∧ g 59 j ≠ 3
        · rw [if_pos w, if_pos ⟨by omega, w.2⟩]
        · rw [if_neg w, if_neg (fun q => w ⟨by omega, q.2⟩)]
    have setX : ∀ x : Int, x = (if g 57 k ≠ 0 then (if g 59 k = 3 then g 72 k else if g 59 k = 2 then g 58 k else g 61 k) else g 61 k) → up (mtX (g 57) (g 59) (g 58) (g 61) (g 72) k) k x = mtX (g 57) (g 59) (g 58) (g 61) (g 72) (k + 1) := fun x hx => by
      funext j
      unfold up mtX
      by_cases z : j = (k : Int)
      · rw [if_pos z, hx, z]
        by_cases y : g 57 k ≠ 0
        · rw [if_pos y, if_pos (show (0 ≤ (k : Int) ∧ (k : Int) < ((k + 1 : Nat) : Int)) ∧ g 57 k ≠ 0 from ⟨by omega, y⟩)]
        · rw [if_neg y, if_neg (show ¬ ((0 ≤ (k : Int) ∧ (k : Int) < ((k + 1 : Nat) : Int)) ∧ g 57 k ≠ 0) from fun q => y q.2)]
      · rw [if_neg z]
        by_cases w : (0 ≤ j ∧ j < (k : Int)) ∧ g 57 j ≠ 0
        · rw [if_pos w, if_pos (show (0 ≤ j ∧ j < ((k + 1 : Nat) : Int)) ∧ g 57 j ≠ 0 from ⟨by omega, w.2⟩)]
        · rw [if_neg w, if_neg (show ¬ ((0 ≤ j ∧ j < ((k + 1 : Nat) : Int)) ∧ g 57 j ≠ 0) from fun q => w ⟨by omega, q.2⟩)]
    have keepX : g 61 k = (if g 57 k ≠ 0 then (if g 59 k = 3 then g 72 k else if g 59 k = 2 then g 58 k else g 61 k) else g 61 k) → mtX (g 57) (g 59) (g 58) (g 61) (g 72) (k + 1) = mtX (g 57) (g 59) (g 58) (g 61) (g 72) k := fun hx => by
      rw [← setX _ hx, ← nX, up_self]
    have x57 : ∀ {a b c}, vU g1 a b c 57 = g 57 := y57
    have x59 : ∀ {a b c}, vU g1 a b c 59 = g 59 := y59
    have x71 : ∀ {a b c}, vU g1 a b c 71 = g 71 := y71
    have x72 : ∀ {a b c}, vU g1 a b c 72 = g 72 := y72
    rw [b_X10_takeFlows_62 hE, if_pos (by omega), and_tl hc, x57, and_tl hc, x59, w32_n1 (by omega), uW, uW]
    by_cases z0 : g 57 (k : Int) = 0
    · have n3 : ¬ (g 57 (k : Int) ≠ 0 ∧ g 59 k = 3) := fun q => q.1 z0
      rw [if_pos z0, if_neg n3, if_neg n3, keepA (fun q => q.1 z0), keepX (by rw [if_neg (fun q => q z0)])]
    · rw [if_neg z0]
      by_cases z3 : g 59 (k : Int) = 3
      · have n3 : g 57 (k : Int) ≠ 0 ∧ g 59 k = 3 := ⟨z0, z3⟩
        have q44' : ∀ a b : Int, up (up (g1 50) 43 a) 44 b 44 = b := fun a b => up_s _ _ _
        have q43' : ∀ a b : Int, up (up (g1 50) 43 a) 44 b 43 = a := fun a b => by rw [up_n _ _ (by decide), up_s]
        rw [if_pos z3, if_pos n3, if_pos n3, and_tl hc, and_tl hc, and_tl hc, and_tl hc, vU_r50, q44', x71, vU_s50, up_up, vU_r50, q43', x72, vU_s50, x72, vU_s61, setX _ (by rw [if_pos z0, if_pos z3]), up_sw _ _ _ (show (44 : Int) ≠ 43 by decide), up_up, keepA (fun q => q.2 z3)]
      · have n3 : ¬ (g 57 (k : Int) ≠ 0 ∧ g 59 k = 3) := fun q => z3 q.2
        have r168 : ∀ x : Int, Ws E d mX10_takeFlows Q 168 [(2, 50), (0, (k : Int))] [(0, x), (0, (k : Int)), (2, 61)] (vU g1 (up (up (g1 50) 43 (mtW (g 57) (g 59) (g 72) k (g 50 43))) 44 (mtW (g 57) (g 59) (g 71) k (g 50 44))) (mtA (g 57) (g 59) (g 58) (g 71) (g 72) k) (mtX (g 57) (g 59) (g 58) (g 61) (g 72) k)) = Ws E d mX10_takeFlows Q 62 [(2, 50), (0, ((k + 1 : Nat) : Int))] [] (vU g1 (up (up (g1 50) 43 (mtW (g 57) (g 59) (g 72) k (g 50 43))) 44 (mtW (g 57) (g 59) (g 71) k (g 50 44))) (mtA (g 57) (g 59) (g 58) (g 71) (g 72) (k + 1)) (up (mtX (g 57) (g 59) (g 58) (g 61) (g 72) k) k x)) := fun x => by
          rw [b_X10_takeFlows_168 hE, and_tl hc, and_tl hc, and_tl hc, and_tl hc, and_tl hc, vU_s61, vU_r58, x72, x71, nA, w32_of (x := g 72 k - g 71 k) (by omega) (by omega), w32_of (x := g 58 k + (g 72 k - g 71 k)) (by omega) (by omega), vU_s58, newA ⟨z0, z3⟩, w32_n1 (by omega)]
        rw [if_neg z3, if_neg n3, if_neg n3, and_tl hc, and_tl hc, and_tl hc, vU_r58, vU_r61, nA, nX, r168, r168]
        by_cases z2 : g 59 (k : Int) = 2
        · rw [if_pos z2, setX _ (by rw [if_pos z0, if_neg z3, if_pos z2])]
        · rw [if_neg z2, setX _ (by rw [if_pos z0, if_neg z3, if_neg z2])])
  have e0 : g1 = vU g1 (up (up (g1 50) 43 (mtW (g 57) (g 59) (g 72) 0 (g 50 43))) 44 (mtW (g 57) (g 59) (g 71) 0 (g 50 44))) (mtA (g 57) (g 59) (g 58) (g 71) (g 72) 0) (mtX (g 57) (g 59) (g 58) (g 61) (g 72) 0) := by
    have a1 : mtA (g 57) (g 59) (g 58) (g 71) (g 72) 0 = g1 58 := by rw [y58]; funext j; exact if_neg (fun q => by have := q.1; omega)
    have a2 : mtX (g 57) (g 59) (g 58) (g 61) (g 72) 0 = g1 61 := by rw [y61]; funext j; exact if_neg (fun q => by have := q.1; omega)
    have a3 : up (up (g1 50) 43 (g 50 43)) 44 (g 50 44) = g1 50 := by rw [← q43, ← q44, up_self, up_self]
    rw [a1, a2]
    show g1 = vU g1 (up (up (g1 50) 43 (g 50 43)) 44 (g 50 44)) (g1 58) (g1 61)
    rw [a3, vU_id]
  have l' := l
  rw [← e0] at l'
  refine l'.trans ?_
  show Ws E d mX10_takeFlows Q 62 [(2, 50), (0, ((336 : Nat) : Int))] [] _ = _
  rw [b_X10_takeFlows_62 hE, if_neg (by decide)]
