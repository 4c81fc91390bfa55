/-! shares: the class's whole reckoning -/
def InR (h : Hp) (to : Int) (k : Nat) (g : Hp) : Prop := (∀ a : Int, a ≠ 45 → a ≠ 46 → a ≠ 47 → g a = h a) ∧ CSha (g 45 0) (g 45 1) ∧ g 45 2 = pw16 (h 7 1) k ∧ ∀ c : Int, isN c → g (g 45 0) c = shr (h 12) (h 19) (h 7 0) (h 7 1) (h 7 2) to k c
section RECK
variable {n : Int} {d : Nat} {h : Hp}
theorem e_fill_46 {to t : Int} (hp : h 45 0 = 46) : ∀ Q, wpS (EF n) (d + 1) mX6_reckon [(2, 45), (2, 11), (2, 20), (2, 7), (0, to), (0, t)] h Q = Ws (EF n) d mX6_reckon Q 44 [(2, 45), (2, 11), (2, 20), (2, 7), (0, to), (0, t), (0, 0), (9, 0), (9, 0)] [] (hst (hrow h 46 (pf (shr (h 12) (h 19) (h 7 0) (h 7 1) (h 7 2) to 0) (h 46) 336)) 45 2 1) := by
  intro Q
  rw [u_X6_reckon]
  have l := loop_n (P := fun k => Ws (EF n) d mX6_reckon Q 3 [(2, 45), (2, 11), (2, 20), (2, 7), (0, to), (0, t), (0, (k : Int)), (9, 0), (9, 0)] [] (hrow h 46 (pf (shr (h 12) (h 19) (h 7 0) (h 7 1) (h 7 2) to 0) (h 46) k))) 336 (by
    intro k hk
    have x45 : ∀ {f}, hrow h 46 f 45 = h 45 := hrow_n _ _ (by decide)
    rw [← pf_s (shr (h 12) (h 19) (h 7 0) (h 7 1) (h 7 2) to 0) (h 46) k]
    rw [b_X6_reckon_3, if_pos (by omega), x45, hp, b_X6_reckon_29, b_X6_reckon_29, and_tl (by omega), and_tl (by omega), hst_rr, hst_rr, w32_n1 (by omega)]
    show _ = Ws (EF n) d mX6_reckon Q 3 [(2, 45), (2, 11), (2, 20), (2, 7), (0, to), (0, t), (0, ((k + 1 : Nat) : Int)), (9, 0), (9, 0)] [] (hrow h 46 (up (pf (shr (h 12) (h 19) (h 7 0) (h 7 1) (h 7 2) to 0) (h 46) k) k (if (k : Int) = to then 1 else 0)))
    by_cases z : (k : Int) = to
    · rw [if_pos z, if_pos z]
    · rw [if_neg z, if_neg z])
  rw [pf_0, hrow_self] at l
  refine l.trans ?_
  show Ws (EF n) d mX6_reckon Q 3 [(2, 45), (2, 11), (2, 20), (2, 7), (0, to), (0, t), (0, ((336 : Nat) : Int)), (9, 0), (9, 0)] [] _ = _
  rw [b_X6_reckon_3, if_neg (by decide)]
  rfl
theorem e_back_46 {to t : Int} {k : Nat} {g : Hp} {v7 v8 : PV} (P : Prt (h 12) (h 19)) (hg : GeoOK h) (hL : LawC h) (hl : ∀ c : Int, 0 ≤ c → c < 336 → h 12 c ≠ -1 → LayC h c) (hk : (k : Int) < t) (ht : t ≤ 3) (I : InR h to k g) (hp : g 45 0 = 46) (hq : g 45 1 = 47) : ∃ (g' : Hp) (v : PV × PV), InR h to (k + 1) g' ∧ ∀ Q, Ws (EF n) (d + 4) mX6_reckon Q 44 [(2, 45), (2, 11), (2, 20), (2, 7), (0, to), (0, t), (0, (k : Int)), v7, v8] [] g = Ws (EF n) (d + 4) mX6_reckon Q 44 [(2, 45), (2, 11), (2, 20), (2, 7), (0, to), (0, t), (0, ((k + 1 : Nat) : Int)), v.1, v.2] [] g' := by
  obtain ⟨i1, i2, i3, i4⟩ := I
  rw [hp] at i4
  have hm := hL.2
  have pb := pw16_k hm (k := k) (by omega)
  have pu := pb.2.2 (by omega)
  have sb := shr_b (K := h 12) (O := h 19) (n := h 7 0) (m := h 7 1) (o := h 7 2) (to := to) P hL.1 hm k (by omega)
  let g1 : Hp := hst (hst g 45 0 47) 45 1 46
  have x0 : g1 45 0 = 47 := by
    show hst (hst g 45 0 47) 45 1 46 45 0 = 47
    rw [hst_o _ _ _ (by decide), hst_s]
  have x1 : g1 45 1 = 46 := hst_s _ _ _ _
  have x2 : g1 45 2 = pw16 (h 7 1) k := by
    show hst (hst g 45 0 47) 45 1 46 45 2 = _
    rw [hst_o _ _ _ (by decide), hst_o _ _ _ (by decide), i3]
  have xr : ∀ a : Int, a ≠ 45 → g1 a = g a := fun a ha => by
    show hst (hst g 45 0 47) 45 1 46 a = g a
    rw [hst_off _ ha, hst_off _ ha]
  have xh : ∀ a : Int, a ≠ 45 → a ≠ 46 → a ≠ 47 → g1 a = h a := fun a h1 h2 h3 => (xr a h1).trans (i1 a h1 h2 h3)
  have hr : ∀ (f : Int → Int) (a : Int), a ≠ 45 → a ≠ 46 → a ≠ 47 → hrow g1 47 f a = h a := fun f a h1 h2 h3 => by rw [hrow_n _ _ (by omega)]; exact xh a h1 h2 h3
  have l : ∀ Q, Ws (EF n) (d + 4) mX6_reckon Q 74 [(2, 45), (2, 11), (2, 20), (2, 7), (0, to), (0, t), (0, (k : Int)), (2, 46), (0, 0)] [] (hrow g1 47 (pf (shr (h 12) (h 19) (h 7 0) (h 7 1) (h 7 2) to (k + 1)) (g1 47) ((0 : Nat) : Int))) = Ws (EF n) (d + 4) mX6_reckon Q 74 [(2, 45), (2, 11), (2, 20), (2, 7), (0, to), (0, t), (0, (k : Int)), (2, 46), (0, ((336 : Nat) : Int))] [] (hrow g1 47 (pf (shr (h 12) (h 19) (h 7 0) (h 7 1) (h 7 2) to (k + 1)) (g1 47) ((336 : Nat) : Int))) := by
    intro Q
    refine loop_n (P := fun c => Ws (EF n) (d + 4) mX6_reckon Q 74 [(2, 45), (2, 11), (2, 20), (2, 7), (0, to), (0, t), (0, (k : Int)), (2, 46), (0, (c : Int))] [] (hrow g1 47 (pf (shr (h 12) (h 19) (h 7 0) (h 7 1) (h 7 2) to (k + 1)) (g1 47) c))) 336 (fun c hc => ?_)
    generalize hf : pf (shr (h 12) (h 19) (h 7 0) (h 7 1) (h 7 2) to (k + 1)) (g1 47) c = f
    have e12 := hr f 12 (by decide) (by decide) (by decide)
    have e19 := hr f 19 (by decide) (by decide) (by decide)
    have e7 := hr f 7 (by decide) (by decide) (by decide)
    have e45 : hrow g1 47 f 45 = g1 45 := hrow_n _ _ (by decide)
    have eq' : hrow g1 47 f 46 = g 46 := by rw [hrow_n _ _ (by decide), xr 46 (by decide)]
    rw [← pf_s (shr (h 12) (h 19) (h 7 0) (h 7 1) (h 7 2) to (k + 1)) (g1 47) c, hf]
    rw [b_X6_reckon_74, if_pos (by omega), e_w_isThere (EF_11 n), b2_if, e45, x0, e12]
    show _ = Ws (EF n) (d + 4) mX6_reckon Q 74 [(2, 45), (2, 11), (2, 20), (2, 7), (0, to), (0, t), (0, (k : Int)), (2, 46), (0, ((c + 1 : Nat) : Int))] [] (hrow g1 47 (up f c (if h 12 c = -1 then 0 else nxS (h 12) (h 19) (h 7 0) (h 7 1) (h 7 2) (shr (h 12) (h 19) (h 7 0) (h 7 1) (h 7 2) to k) c)))
    by_cases z : h 12 (c : Int) = -1
    · rw [if_neg (fun w => w.2 z), if_pos z, b_X6_reckon_110_1, and_tl (by omega), hst_rr, w32_n1 (by omega)]
    · have hc' : 0 ≤ (c : Int) ∧ (c : Int) < 336 := by omega
      obtain ⟨y1, y2, y3⟩ := hl c hc'.1 hc'.2 z
      have lc : LayC (hrow g1 47 f) c := by
        refine ⟨?_, ?_, ?_⟩
        · rw [hr f 24 (by decide) (by decide) (by decide)]; exact y1
        · rw [hr f 21 (by decide) (by decide) (by decide)]; exact y2
        · rw [hr f 21 (by decide) (by decide) (by decide), e19, hr f 22 (by decide) (by decide) (by decide), hr f 23 (by decide) (by decide) (by decide)]; exact y3
      have hgg : GeoOK (hrow g1 47 f) := fun c q1 q2 => by
        rw [hr f 16 (by decide) (by decide) (by decide), hr f 17 (by decide) (by decide) (by decide), hr f 18 (by decide) (by decide) (by decide)]
        exact hg c q1 q2
      have hLL : LawC (hrow g1 47 f) := by
        unfold LawC
        rw [e7]
        exact hL
      have st := fun Q => e_stepBack_46 (n := n) (d := d) (g := hrow g1 47 f) (c := (c : Int)) (U := pw16 (h 7 1) k) (Q := Q) (by rw [e12, e19]; exact P) hgg hLL hc' (by rw [e12]; exact z) lc (by rw [e45]; exact x1) (by omega) (fun b hb => by rw [eq', i4 b hb]; exact sb b hb)
      rw [if_pos (show (0 ≤ (c : Int) ∧ (c : Int) < 336) ∧ h 12 c ≠ -1 from ⟨hc', z⟩), if_neg z, st, b_X6_reckon_110_1, and_tl (by omega), hst_rr, w32_n1 (by omega), e12, e19, e7, eq', nxS_c (c := (c : Int)) hc' i4]
  refine ⟨hst (hrow g1 47 (pf (shr (h 12) (h 19) (h 7 0) (h 7 1) (h 7 2) to (k + 1)) (g1 47) 336)) 45 2 (pw16 (h 7 1) (k + 1)), ((2, 46), (0, 336)), ⟨fun a h1 h2 h3 => ?_, ?_, hst_s _ _ _ _, fun c hc => ?_⟩, fun Q => ?_⟩
  · rw [hst_off _ h1]
    exact hr _ a h1 h2 h3
  · rw [hst_o _ _ _ (by decide), hst_o _ _ _ (by decide), hrow_n _ _ (by decide), x0, x1]
    first | exact Or.inr ⟨rfl, rfl⟩ | exact Or.inl ⟨rfl, rfl⟩
  · rw [hst_o _ _ _ (by decide), hrow_n _ _ (show (45 : Int) ≠ 47 by decide), x0, hst_off _ (by decide), hrow_s, pf_in hc]
  · have ll := l Q
    rw [pf_0, hrow_self] at ll
    have e7 : hrow g1 47 (pf (shr (h 12) (h 19) (h 7 0) (h 7 1) (h 7 2) to (k + 1)) (g1 47) ((336 : Nat) : Int)) 7 = h 7 := hr _ 7 (by decide) (by decide) (by decide)
    have e45 : hrow g1 47 (pf (shr (h 12) (h 19) (h 7 0) (h 7 1) (h 7 2) to (k + 1)) (g1 47) ((336 : Nat) : Int)) 45 = g1 45 := hrow_n _ _ (by decide)
    have b := mulb (x := pw16 (h 7 1) k) (y := 16 * h 7 1) (X := 2509056) (Y := 1584) (by omega) (by omega)
    rw [b_X6_reckon_44, if_pos (by omega), hp, hq, and_tl (by decide), and_tl (by decide)]
    refine ll.trans ?_
    rw [b_X6_reckon_74, if_neg (by decide), e7, e45, x2, w64_of (x := 16 * h 7 1) (by omega) (by omega), w64_of (x := pw16 (h 7 1) k * (16 * h 7 1)) (by omega) (by omega), w32_n1 (by omega)]
    rfl
theorem e_fill_47 {to t : Int} (hp : h 45 0 = 47) : ∀ Q, wpS (EF n) (d + 1) mX6_reckon [(2, 45), (2, 11), (2, 20), (2, 7), (0, to), (0, t)] h Q = Ws (EF n) d mX6_reckon Q 44 [(2, 45), (2, 11), (2, 20), (2, 7), (0, to), (0, t), (0, 0), (9, 0), (9, 0)] [] (hst (hrow h 47 (pf (shr (h 12) (h 19) (h 7 0) (h 7 1) (h 7 2) to 0) (h 47) 336)) 45 2 1) := by
  intro Q
  rw [u_X6_reckon]
  have l := loop_n (P := fun k => Ws (EF n) d mX6_reckon Q 3 [(2, 45), (2, 11), (2, 20), (2, 7), (0, to), (0, t), (0, (k : Int)), (9, 0), (9, 0)] [] (hrow h 47 (pf (shr (h 12) (h 19) (h 7 0) (h 7 1) (h 7 2) to 0) (h 47) k))) 336 (by
    intro k hk
    have x45 : ∀ {f}, hrow h 47 f 45 = h 45 := hrow_n _ _ (by decide)
    rw [← pf_s (shr (h 12) (h 19) (h 7 0) (h 7 1) (h 7 2) to 0) (h 47) k]
    rw [b_X6_reckon_3, if_pos (by omega), x45, hp, b_X6_reckon_29_1, b_X6_reckon_29_1, and_tl (by omega), and_tl (by omega), hst_rr, hst_rr, w32_n1 (by omega)]
    show _ = Ws (EF n) d mX6_reckon Q 3 [(2, 45), (2, 11), (2, 20), (2, 7), (0, to), (0, t), (0, ((k + 1 : Nat) : Int)), (9, 0), (9, 0)] [] (hrow h 47 (up (pf (shr (h 12) (h 19) (h 7 0) (h 7 1) (h 7 2) to 0) (h 47) k) k (if (k : Int) = to then 1 else 0)))
    by_cases z : (k : Int) = to
    · rw [if_pos z, if_pos z]
    · rw [if_neg z, if_neg z])
  rw [pf_0, hrow_self] at l
  refine l.trans ?_
  show Ws (EF n) d mX6_reckon Q 3 [(2, 45), (2, 11), (2, 20), (2, 7), (0, to), (0, t), (0, ((336 : Nat) : Int)), (9, 0), (9, 0)] [] _ = _
  rw [b_X6_reckon_3, if_neg (by decide)]
  rfl
theorem e_back_47 {to t : Int} {k : Nat} {g : Hp} {v7 v8 : PV} (P : Prt (h 12) (h 19)) (hg : GeoOK h) (hL : LawC h) (hl : ∀ c : Int, 0 ≤ c → c < 336 → h 12 c ≠ -1 → LayC h c) (hk : (k : Int) < t) (ht : t ≤ 3) (I : InR h to k g) (hp : g 45 0 = 47) (hq : g 45 1 = 46) : ∃ (g' : Hp) (v : PV × PV), InR h to (k + 1) g' ∧ ∀ Q, Ws (EF n) (d + 4) mX6_reckon Q 44 [(2, 45), (2, 11), (2, 20), (2, 7), (0, to), (0, t), (0, (k : Int)), v7, v8] [] g = Ws (EF n) (d + 4) mX6_reckon Q 44 [(2, 45), (2, 11), (2, 20), (2, 7), (0, to), (0, t), (0, ((k + 1 : Nat) : Int)), v.1, v.2] [] g' := by
  obtain ⟨i1, i2, i3, i4⟩ := I
  rw [hp] at i4
  have hm := hL.2
  have pb := pw16_k hm (k := k) (by omega)
  have pu := pb.2.2 (by omega)
  have sb := shr_b (K := h 12) (O := h 19) (n := h 7 0) (m := h 7 1) (o := h 7 2) (to := to) P hL.1 hm k (by omega)
  let g1 : Hp := hst (hst g 45 0 46) 45 1 47
  have x0 : g1 45 0 = 46 := by
    show hst (hst g 45 0 46) 45 1 47 45 0 = 46
    rw [hst_o _ _ _ (by decide), hst_s]
  have x1 : g1 45 1 = 47 := hst_s _ _ _ _
  have x2 : g1 45 2 = pw16 (h 7 1) k := by
    show hst (hst g 45 0 46) 45 1 47 45 2 = _
    rw [hst_o _ _ _ (by decide), hst_o _ _ _ (by decide), i3]
  have xr : ∀ a : Int, a ≠ 45 → g1 a = g a := fun a ha => by
    show hst (hst g 45 0 46) 45 1 47 a = g a
    rw [hst_off _ ha, hst_off _ ha]
  have xh : ∀ a : Int, a ≠ 45 → a ≠ 46 → a ≠ 47 → g1 a = h a := fun a h1 h2 h3 => (xr a h1).trans (i1 a h1 h2 h3)
  have hr : ∀ (f : Int → Int) (a : Int), a ≠ 45 → a ≠ 46 → a ≠ 47 → hrow g1 46 f a = h a := fun f a h1 h2 h3 => by rw [hrow_n _ _ (by omega)]; exact xh a h1 h2 h3
  have l : ∀ Q, Ws (EF n) (d + 4) mX6_reckon Q 74 [(2, 45), (2, 11), (2, 20), (2, 7), (0, to), (0, t), (0, (k : Int)), (2, 47), (0, 0)] [] (hrow g1 46 (pf (shr (h 12) (h 19) (h 7 0) (h 7 1) (h 7 2) to (k + 1)) (g1 46) ((0 : Nat) : Int))) = Ws (EF n) (d + 4) mX6_reckon Q 74 [(2, 45), (2, 11), (2, 20), (2, 7), (0, to), (0, t), (0, (k : Int)), (2, 47), (0, ((336 : Nat) : Int))] [] (hrow g1 46 (pf (shr (h 12) (h 19) (h 7 0) (h 7 1) (h 7 2) to (k + 1)) (g1 46) ((336 : Nat) : Int))) := by
    intro Q
    refine loop_n (P := fun c => Ws (EF n) (d + 4) mX6_reckon Q 74 [(2, 45), (2, 11), (2, 20), (2, 7), (0, to), (0, t), (0, (k : Int)), (2, 47), (0, (c : Int))] [] (hrow g1 46 (pf (shr (h 12) (h 19) (h 7 0) (h 7 1) (h 7 2) to (k + 1)) (g1 46) c))) 336 (fun c hc => ?_)
    generalize hf : pf (shr (h 12) (h 19) (h 7 0) (h 7 1) (h 7 2) to (k + 1)) (g1 46) c = f
    have e12 := hr f 12 (by decide) (by decide) (by decide)
    have e19 := hr f 19 (by decide) (by decide) (by decide)
    have e7 := hr f 7 (by decide) (by decide) (by decide)
    have e45 : hrow g1 46 f 45 = g1 45 := hrow_n _ _ (by decide)
    have eq' : hrow g1 46 f 47 = g 47 := by rw [hrow_n _ _ (by decide), xr 47 (by decide)]
    rw [← pf_s (shr (h 12) (h 19) (h 7 0) (h 7 1) (h 7 2) to (k + 1)) (g1 46) c, hf]
    rw [b_X6_reckon_74, if_pos (by omega), e_w_isThere (EF_11 n), b2_if, e45, x0, e12]
    show _ = Ws (EF n) (d + 4) mX6_reckon Q 74 [(2, 45), (2, 11), (2, 20), (2, 7), (0, to), (0, t), (0, (k : Int)), (2, 47), (0, ((c + 1 : Nat) : Int))] [] (hrow g1 46 (up f c (if h 12 c = -1 then 0 else nxS (h 12) (h 19) (h 7 0) (h 7 1) (h 7 2) (shr (h 12) (h 19) (h 7 0) (h 7 1) (h 7 2) to k) c)))
    by_cases z : h 12 (c : Int) = -1
    · rw [if_neg (fun w => w.2 z), if_pos z, b_X6_reckon_110, and_tl (by omega), hst_rr, w32_n1 (by omega)]
    · have hc' : 0 ≤ (c : Int) ∧ (c : Int) < 336 := by omega
      obtain ⟨y1, y2, y3⟩ := hl c hc'.1 hc'.2 z
      have lc : LayC (hrow g1 46 f) c := by
        refine ⟨?_, ?_, ?_⟩
        · rw [hr f 24 (by decide) (by decide) (by decide)]; exact y1
        · rw [hr f 21 (by decide) (by decide) (by decide)]; exact y2
        · rw [hr f 21 (by decide) (by decide) (by decide), e19, hr f 22 (by decide) (by decide) (by decide), hr f 23 (by decide) (by decide) (by decide)]; exact y3
      have hgg : GeoOK (hrow g1 46 f) := fun c q1 q2 => by
        rw [hr f 16 (by decide) (by decide) (by decide), hr f 17 (by decide) (by decide) (by decide), hr f 18 (by decide) (by decide) (by decide)]
        exact hg c q1 q2
      have hLL : LawC (hrow g1 46 f) := by
        unfold LawC
        rw [e7]
        exact hL
      have st := fun Q => e_stepBack_47 (n := n) (d := d) (g := hrow g1 46 f) (c := (c : Int)) (U := pw16 (h 7 1) k) (Q := Q) (by rw [e12, e19]; exact P) hgg hLL hc' (by rw [e12]; exact z) lc (by rw [e45]; exact x1) (by omega) (fun b hb => by rw [eq', i4 b hb]; exact sb b hb)
      rw [if_pos (show (0 ≤ (c : Int) ∧ (c : Int) < 336) ∧ h 12 c ≠ -1 from ⟨hc', z⟩), if_neg z, st, b_X6_reckon_110, and_tl (by omega), hst_rr, w32_n1 (by omega), e12, e19, e7, eq', nxS_c (c := (c : Int)) hc' i4]
  refine ⟨hst (hrow g1 46 (pf (shr (h 12) (h 19) (h 7 0) (h 7 1) (h 7 2) to (k + 1)) (g1 46) 336)) 45 2 (pw16 (h 7 1) (k + 1)), ((2, 47), (0, 336)), ⟨fun a h1 h2 h3 => ?_, ?_, hst_s _ _ _ _, fun c hc => ?_⟩, fun Q => ?_⟩
  · rw [hst_off _ h1]
    exact hr _ a h1 h2 h3
  · rw [hst_o _ _ _ (by decide), hst_o _ _ _ (by decide), hrow_n _ _ (by decide), x0, x1]
    first | exact Or.inr ⟨rfl, rfl⟩ | exact Or.inl ⟨rfl, rfl⟩
  · rw [hst_o _ _ _ (by decide), hrow_n _ _ (show (45 : Int) ≠ 46 by decide), x0, hst_off _ (by decide), hrow_s, pf_in hc]
  · have ll := l Q
    rw [pf_0, hrow_self] at ll
    have e7 : hrow g1 46 (pf (shr (h 12) (h 19) (h 7 0) (h 7 1) (h 7 2) to (k + 1)) (g1 46) ((336 : Nat) : Int)) 7 = h 7 := hr _ 7 (by decide) (by decide) (by decide)
    have e45 : hrow g1 46 (pf (shr (h 12) (h 19) (h 7 0) (h 7 1) (h 7 2) to (k + 1)) (g1 46) ((336 : Nat) : Int)) 45 = g1 45 := hrow_n _ _ (by decide)
    have b := mulb (x := pw16 (h 7 1) k) (y := 16 * h 7 1) (X := 2509056) (Y := 1584) (by omega) (by omega)
    rw [b_X6_reckon_44, if_pos (by omega), hp, hq, and_tl (by decide), and_tl (by decide)]
    refine ll.trans ?_
    rw [b_X6_reckon_74, if_neg (by decide), e7, e45, x2, w64_of (x := 16 * h 7 1) (by omega) (by omega), w64_of (x := pw16 (h 7 1) k * (16 * h 7 1)) (by omega) (by omega), w32_n1 (by omega)]
    rfl
theorem e_reckon {to t : Int} (P : Prt (h 12) (h 19)) (hg : GeoOK h) (hL : LawC h) (hl : ∀ c : Int, 0 ≤ c → c < 336 → h 12 c ≠ -1 → LayC h c) (hS : CSha (h 45 0) (h 45 1)) (ht : 0 ≤ t ∧ t ≤ 3) : ∃ g : Hp, InR h to t.toNat g ∧ ∀ Q, wpS (EF n) (d + 5) mX6_reckon [(2, 45), (2, 11), (2, 20), (2, 7), (0, to), (0, t)] h Q = Q 0 g := by
  have start : ∃ g0 : Hp, InR h to 0 g0 ∧ ∀ Q, wpS (EF n) (d + 5) mX6_reckon [(2, 45), (2, 11), (2, 20), (2, 7), (0, to), (0, t)] h Q = Ws (EF n) (d + 4) mX6_reckon Q 44 [(2, 45), (2, 11), (2, 20), (2, 7), (0, to), (0, t), (0, 0), (9, 0), (9, 0)] [] g0 := by
    have ir : ∀ p : Int, (p = 46 ∨ p = 47) → h 45 0 = p → InR h to 0 (hst (hrow h p (pf (shr (h 12) (h 19) (h 7 0) (h 7 1) (h 7 2) to 0) (h p) 336)) 45 2 1) := by
      intro p hp e
      have x45 : ∀ {f}, hrow h p f 45 = h 45 := hrow_n _ _ (by omega)
      refine ⟨fun a h1 h2 h3 => ?_, ?_, hst_s _ _ _ _, fun c hc => ?_⟩
      · rw [hst_off _ h1, hrow_n _ _ (by omega)]
      · rw [hst_o _ _ _ (by decide), hst_o _ _ _ (by decide), x45]
        exact hS
      · rw [hst_o _ _ _ (by decide), x45, e, hst_off _ (by omega), hrow_s, pf_in hc]
    rcases hS with ⟨e, -⟩ | ⟨e, -⟩
    · exact ⟨_, ir 46 (Or.inl rfl) e, e_fill_46 e⟩
    · exact ⟨_, ir 47 (Or.inr rfl) e, e_fill_47 e⟩
  obtain ⟨g0, i0, e0⟩ := start
  obtain ⟨⟨g, v⟩, i1, e1⟩ := loop_e (σ := Hp × PV × PV) (Inv := fun k s => InR h to k s.1) (X := fun Q k s => Ws (EF n) (d + 4) mX6_reckon Q 44 [(2, 45), (2, 11), (2, 20), (2, 7), (0, to), (0, t), (0, (k : Int)), s.2.1, s.2.2] [] s.1) t.toNat (g0, (9, 0), (9, 0)) i0 (by
    rintro k ⟨g, v7, v8⟩ hk I
    have I : InR h to k g := I
    rcases I.2.1 with ⟨p1, p2⟩ | ⟨p1, p2⟩
    · obtain ⟨g', v, I', e⟩ := e_back_46 (n := n) (d := d) (v7 := v7) (v8 := v8) P hg hL hl (show (k : Int) < t by omega) ht.2 I p1 p2
      exact ⟨(g', v), I', e⟩
    · obtain ⟨g', v, I', e⟩ := e_back_47 (n := n) (d := d) (v7 := v7) (v8 := v8) P hg hL hl (show (k : Int) < t by omega) ht.2 I p1 p2
      exact ⟨(g', v), I', e⟩)
  refine ⟨g, i1, fun Q => ?_⟩
  rw [e0]
  refine (e1 Q).trans ?_
  show Ws (EF n) (d + 4) mX6_reckon Q 44 [(2, 45), (2, 11), (2, 20), (2, 7), (0, to), (0, t), (0, ((t.toNat : Nat) : Int)), v.1, v.2] [] g = _
  rw [b_X6_reckon_44, if_neg (by omega)]
theorem e_greatest_46 {to : Int} {g : Hp} (hp : g 45 0 = 46) (hs : ∀ c : Int, isN c → 0 ≤ g 46 c) (hto : isN to) (kto : g 12 to ≠ -1) : ∀ Q, wpS (EF n) (d + 3) mX6_greatest [(2, 45), (2, 11), (0, to)] g Q = Q (bt (fun c => g 12 c ≠ -1) (g 46) 336) g := by
  intro Q
  rw [u_X6_greatest]
  have l := loop_n (P := fun k => Ws (EF n) (d + 2) mX6_greatest Q 10 [(2, 45), (2, 11), (0, to), (0, if bt (fun c => g 12 c ≠ -1) (g 46) k < 0 then to else bt (fun c => g 12 c ≠ -1) (g 46) k), (1, if bt (fun c => g 12 c ≠ -1) (g 46) k < 0 then -1 else g 46 (bt (fun c => g 12 c ≠ -1) (g 46) k)), (9, 0), (0, (k : Int))] [] g) 336 (by
    intro k hk
    have bb := bt_b (fun c => g 12 c ≠ -1) (g 46) k
    have sk := hs k ⟨by omega, by omega⟩
    rw [b_X6_greatest_10, if_pos (by omega), e_w_isThere (EF_11 n), b2_if, w32_n1 (by omega), bt_s]
    generalize bt (fun c => g 12 c ≠ -1) (g 46) k = b at *
    by_cases z : g 12 (k : Int) = -1
    · rw [if_neg (fun w => w.2 z), if_neg (show ¬ (g 12 (k : Int) ≠ -1 ∧ (b < 0 ∨ g 46 b < g 46 k)) from fun w => w.1 z)]
    · rw [if_pos (show (0 ≤ (k : Int) ∧ (k : Int) < 336) ∧ g 12 k ≠ -1 from ⟨by omega, z⟩), hp, b_X6_greatest_33, and_tl (by omega), lc_if, hp, b_X6_greatest_46, and_tl (by omega), w32_n1 (by omega)]
      by_cases y : b < 0 ∨ g 46 b < g 46 k
      · rw [if_pos (show g 12 (k : Int) ≠ -1 ∧ (b < 0 ∨ g 46 b < g 46 k) from ⟨z, y⟩), if_neg (show ¬ (k : Int) < 0 by omega), if_neg (show ¬ (k : Int) < 0 by omega)]
        by_cases x : b < 0
        · rw [if_pos x, if_pos (by omega)]
        · rw [if_neg x, if_pos (by omega)]
      · rw [if_neg (show ¬ (g 12 (k : Int) ≠ -1 ∧ (b < 0 ∨ g 46 b < g 46 k)) from fun w => y w.2)]
        have x : ¬ b < 0 := fun w => y (Or.inl w)
        rw [if_neg x, if_neg x, if_neg (fun w => y (Or.inr w))])
  refine Eq.trans ?_ (l.trans ?_)
  · rfl
  · show Ws (EF n) (d + 2) mX6_greatest Q 10 [(2, 45), (2, 11), (0, to), (0, _), (1, _), (9, 0), (0, ((336 : Nat) : Int))] [] g = _
    have nn : ¬ bt (fun c => g 12 c ≠ -1) (g 46) 336 < 0 := by
      have key : ∀ k : Nat, to < k → ¬ bt (fun c => g 12 c ≠ -1) (g 46) k < 0 := by
        intro k
        induction k with
        | zero => intro w; have w : to < 0 := w; omega
        | succ k ih =>
          intro w
          rw [bt_s]
          by_cases e : to = k
          · subst e
            by_cases y : g 12 (k : Int) ≠ -1 ∧ (bt (fun c => g 12 c ≠ -1) (g 46) k < 0 ∨ g 46 (bt (fun c => g 12 c ≠ -1) (g 46) k) < g 46 k)
            · rw [if_pos y]; omega
            · rw [if_neg y]
              intro u
              exact y ⟨kto, Or.inl u⟩
          · have ih := ih (by omega)
            split
            · omega
            · exact ih
      exact key 336 hto.2
    rw [b_X6_greatest_10, if_neg (by decide), if_neg nn]
theorem e_greatest_47 {to : Int} {g : Hp} (hp : g 45 0 = 47) (hs : ∀ c : Int, isN c → 0 ≤ g 47 c) (hto : isN to) (kto : g 12 to ≠ -1) : ∀ Q, wpS (EF n) (d + 3) mX6_greatest [(2, 45), (2, 11), (0, to)] g Q = Q (bt (fun c => g 12 c ≠ -1) (g 47) 336) g := by
  intro Q
  rw [u_X6_greatest]
  have l := loop_n (P := fun k => Ws (EF n) (d + 2) mX6_greatest Q 10 [(2, 45), (2, 11), (0, to), (0, if bt (fun c => g 12 c ≠ -1) (g 47) k < 0 then to else bt (fun c => g 12 c ≠ -1) (g 47) k), (1, if bt (fun c => g 12 c ≠ -1) (g 47) k < 0 then -1 else g 47 (bt (fun c => g 12 c ≠ -1) (g 47) k)), (9, 0), (0, (k : Int))] [] g) 336 (by
    intro k hk
    have bb := bt_b (fun c => g 12 c ≠ -1) (g 47) k
    have sk := hs k ⟨by omega, by omega⟩
    rw [b_X6_greatest_10, if_pos (by omega), e_w_isThere (EF_11 n), b2_if, w32_n1 (by omega), bt_s]
    generalize bt (fun c => g 12 c ≠ -1) (g 47) k = b at *
    by_cases z : g 12 (k : Int) = -1
    · rw [if_neg (fun w => w.2 z), if_neg (show ¬ (g 12 (k : Int) ≠ -1 ∧ (b < 0 ∨ g 47 b < g 47 k)) from fun w => w.1 z)]
    · rw [if_pos (show (0 ≤ (k : Int) ∧ (k : Int) < 336) ∧ g 12 k ≠ -1 from ⟨by omega, z⟩), hp, b_X6_greatest_33_1, and_tl (by omega), lc_if, hp, b_X6_greatest_46_1, and_tl (by omega), w32_n1 (by omega)]
      by_cases y : b < 0 ∨ g 47 b < g 47 k
      · rw [if_pos (show g 12 (k : Int) ≠ -1 ∧ (b < 0 ∨ g 47 b < g 47 k) from ⟨z, y⟩), if_neg (show ¬ (k : Int) < 0 by omega), if_neg (show ¬ (k : Int) < 0 by omega)]
        by_cases x : b < 0
        · rw [if_pos x, if_pos (by omega)]
        · rw [if_neg x, if_pos (by omega)]
      · rw [if_neg (show ¬ (g 12 (k : Int) ≠ -1 ∧ (b < 0 ∨ g 47 b < g 47 k)) from fun w => y w.2)]
        have x : ¬ b < 0 := fun w => y (Or.inl w)
        rw [if_neg x, if_neg x, if_neg (fun w => y (Or.inr w))])
  refine Eq.trans ?_ (l.trans ?_)
  · rfl
  · show Ws (EF n) (d + 2) mX6_greatest Q 10 [(2, 45), (2, 11), (0, to), (0, _), (1, _), (9, 0), (0, ((336 : Nat) : Int))] [] g = _
    have nn : ¬ bt (fun c => g 12 c ≠ -1) (g 47) 336 < 0 := by
      have key : ∀ k : Nat, to < k → ¬ bt (fun c => g 12 c ≠ -1) (g 47) k < 0 := by
        intro k
        induction k with
        | zero => intro w; have w : to < 0 := w; omega
        | succ k ih =>
          intro w
          rw [bt_s]
          by_cases e : to = k
          · subst e
            by_cases y : g 12 (k : Int) ≠ -1 ∧ (bt (fun c => g 12 c ≠ -1) (g 47) k < 0 ∨ g 47 (bt (fun c => g 12 c ≠ -1) (g 47) k) < g 47 k)
            · rw [if_pos y]; omega
            · rw [if_neg y]
              intro u
              exact y ⟨kto, Or.inl u⟩
          · have ih := ih (by omega)
            split
            · omega
            · exact ih
      exact key 336 hto.2
    rw [b_X6_greatest_10, if_neg (by decide), if_neg nn]
end RECK
