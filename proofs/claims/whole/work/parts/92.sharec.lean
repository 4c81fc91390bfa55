/-! shares: the class -/
theorem nxS_c {K O : Int → Int} {n m o c : Int} {s s' : Int → Int} (hc : isN c) (h : ∀ b : Int, isN b → s b = s' b) : nxS K O n m o s c = nxS K O n m o s' c := by
  unfold nxS
  have e : nG2 K O c (fS n c) s = nG2 K O c (fS n c) s' := sm_c 336 (fun b hb => by simp only [h (b : Int) ⟨by omega, by omega⟩])
  rw [h c hc, e]
/-- the layout tells of c what lies around it -/
def LayC (g : Hp) (c : Int) : Prop := g 24 c = rm c ∧ (0 ≤ g 21 c ∧ g 21 c ≤ g 21 (c + 1) ∧ g 21 (c + 1) ≤ 960) ∧ NearOK (g 19) c (g 21 c) (g 21 (c + 1)) (g 22) (g 23)
def LawC (g : Hp) : Prop := (0 ≤ g 7 0 ∧ g 7 0 ≤ g 7 1) ∧ (1 ≤ g 7 1 ∧ g 7 1 ≤ 99)
section STEP
variable {n : Int} {d : Nat}
theorem e_stepBack_46 {g : Hp} {c U : Int} {Q : Int → Hp → Prop} (P : Prt (g 12) (g 19)) (hg : GeoOK g) (hL : LawC g) (hc : 0 ≤ c ∧ c < 336) (kc : g 12 c ≠ -1) (hl : LayC g c) (hq : g 45 1 = 46) (hU : 0 ≤ U ∧ U ≤ 2509056) (hs : ∀ b : Int, isN b → 0 ≤ g 46 b ∧ g 46 b ≤ U) : wpS (EF n) (d + 4) mX6_stepBack [(2, 45), (2, 11), (2, 20), (2, 7), (0, c)] g Q = Q (nxS (g 12) (g 19) (g 7 0) (g 7 1) (g 7 2) (g 46) c) g := by
  have gw3 : g 18 c = gw c := (hg c hc.1 hc.2).2.2
  have bw := gw_b c
  obtain ⟨L1, L2⟩ := hL
  have sb := hs c hc
  obtain ⟨l1, l2, l3⟩ := hl
  have k16 : w64 (16 * g 7 1) = 16 * g 7 1 := w64_of (by omega) (by omega)
  have r42 : Ws (EF n) (d + 3) mX6_stepBack Q 42 [(2, 45), (2, 11), (2, 20), (2, 7), (0, c), (1, 16 * g 7 1), (9, 0), (9, 0), (9, 0), (9, 0), (9, 0), (9, 0), (9, 0)] [] g = Q (16 * g 7 1 * g 46 c) g := by
    have b := mulb (x := 16 * g 7 1) (y := g 46 c) (X := 1584) (Y := 2509056) (by omega) (by omega)
    rw [b_X6_stepBack_42, hq, b_X6_stepBack_50, and_tl hc, w64_of (by omega) (by omega)]
  unfold nxS
  rw [u_X6_stepBack, e_isFlowing (EF_11 n), b2_if, k16, r42]
  by_cases z4 : g 12 c = 4
  · rw [if_neg (fun w => w.2.2 z4), if_pos (Or.inr z4)]
  · rw [if_pos (show (0 ≤ c ∧ c < 336) ∧ g 12 c ≠ -1 ∧ g 12 c ≠ 4 from ⟨hc, kc, z4⟩), and_tl hc]
    by_cases z3 : g 12 c = 3
    · rw [if_pos z3, if_pos (Or.inl z3)]
    · have ef : w64 (g 7 0 * w64 (Int.tdiv 4 (gw c))) = fS (g 7 0) c := by
        unfold fS
        rw [td (by decide)]
        rcases w3 c with e | e | e <;> rw [e]
        · show w64 (g 7 0 * w64 1) = g 7 0 * 1
          rw [w64_of (x := 1) (by decide) (by decide), w64_of (by omega) (by omega)]
        · show w64 (g 7 0 * w64 2) = g 7 0 * 2
          rw [w64_of (x := 2) (by decide) (by decide), w64_of (by omega) (by omega)]
        · show w64 (g 7 0 * w64 4) = g 7 0 * 4
          rw [w64_of (x := 4) (by decide) (by decide), w64_of (by omega) (by omega)]
      rw [if_neg z3, and_tl hc, gw3, if_neg (by omega), and_tl hc, and_tl (by omega), and_tl (by omega), ef, if_neg (fun w => w.elim z3 z4)]
      obtain ⟨⟨f1, f2⟩, f3⟩ := fS_b (c := c) L1 L2.2
      have bound := nG1_b (c := c) (f := fS (g 7 0) c) P f1
      have bound2 := nG2_b (c := c) (f := fS (g 7 0) c) P f1 hs
      have rb := rm_b c
      have frb := mulb (x := fS (g 7 0) c) (y := rm c) (X := 396) (Y := 16) ⟨f1, f2⟩ rb
      have g2b := mulb (x := nG1 (g 12) (g 19) c (fS (g 7 0) c)) (y := U) (X := 1584) (Y := 2509056) (by omega) hU
      have n1 : nG1 (g 12) (g 19) c (fS (g 7 0) c) = sm (fun j => if flw (g 12) (g 22 (g 21 c + j)) then fS (g 7 0) c * g 23 (g 21 c + j) else 0) (g 21 (c + 1) - g 21 c).toNat := (near_sum l3 (fun b x => if flw (g 12) b then fS (g 7 0) c * x else 0)).symm
      have n2 : nG2 (g 12) (g 19) c (fS (g 7 0) c) (g 46) = sm (fun j => if flw (g 12) (g 22 (g 21 c + j)) then fS (g 7 0) c * g 23 (g 21 c + j) * g 46 (g 22 (g 21 c + j)) else 0) (g 21 (c + 1) - g 21 c).toNat := (near_sum l3 (fun b x => if flw (g 12) b then fS (g 7 0) c * x * g 46 b else 0)).symm
      rw [n1] at bound bound2 g2b ⊢
      rw [n2] at bound2 ⊢
      clear n1 n2
      generalize fS (g 7 0) c = f at *
      have t1 : ∀ j : Nat, j < (g 21 (c + 1) - g 21 c).toNat → (0 ≤ f * g 23 (g 21 c + j) ∧ f * g 23 (g 21 c + j) ≤ 6336) ∧ (0 ≤ f * g 23 (g 21 c + j) * g 46 (g 22 (g 21 c + j)) ∧ f * g 23 (g 21 c + j) * g 46 (g 22 (g 21 c + j)) ≤ 15897378816) := by
        intro j hj
        obtain ⟨x1, x2, x3⟩ := l3.1 (g 21 c + j) (by omega) (by omega)
        have x4 := nb_b (g 19) c (g 22 (g 21 c + j))
        have x5 := mulb (x := f) (y := g 23 (g 21 c + j)) (X := 396) (Y := 16) ⟨f1, f2⟩ (by omega)
        have x6 := hs _ x1
        have x7 := mulb (x := f * g 23 (g 21 c + j)) (y := g 46 (g 22 (g 21 c + j))) (X := 6336) (Y := 2509056) (by omega) (by omega)
        exact ⟨by omega, by omega⟩
      have l := loop_x (α := PV) (P := fun v k => Ws (EF n) (d + 3) mX6_stepBack Q 85 [(2, 45), (2, 11), (2, 20), (2, 7), (0, c), (1, 16 * g 7 1 - sm (fun j => if flw (g 12) (g 22 (g 21 c + j)) then f * g 23 (g 21 c + j) else 0) k), (9, 0), (1, f), (9, 0), (1, sm (fun j => if flw (g 12) (g 22 (g 21 c + j)) then f * g 23 (g 21 c + j) * g 46 (g 22 (g 21 c + j)) else 0) k), (9, 0), (0, g 21 c + (k : Int)), v] [] g) (g 21 (c + 1) - g 21 c).toNat (9, 0) (by
        intro v k hk
        refine ⟨(0, g 22 (g 21 c + k)), ?_⟩
        have s1 := sm_b (f := fun j => if flw (g 12) (g 22 (g 21 c + j)) then f * g 23 (g 21 c + j) else 0) (lo := 0) (hi := 6336) k (fun j hj => by have := (t1 j (by omega)).1; split <;> omega)
        have s2 := sm_b (f := fun j => if flw (g 12) (g 22 (g 21 c + j)) then f * g 23 (g 21 c + j) * g 46 (g 22 (g 21 c + j)) else 0) (lo := 0) (hi := 15897378816) k (fun j hj => by have := (t1 j (by omega)).2; split <;> omega)
        have tk := t1 k hk
        obtain ⟨x1, -, -⟩ := l3.1 (g 21 c + k) (by omega) (by omega)
        have x1' : 0 ≤ g 22 (g 21 c + k) ∧ g 22 (g 21 c + k) < 336 := x1
        show _ = Ws (EF n) (d + 3) mX6_stepBack Q 85 [(2, 45), (2, 11), (2, 20), (2, 7), (0, c), (1, 16 * g 7 1 - (sm (fun j => if flw (g 12) (g 22 (g 21 c + j)) then f * g 23 (g 21 c + j) else 0) k + (if flw (g 12) (g 22 (g 21 c + k)) then f * g 23 (g 21 c + k) else 0))), (9, 0), (1, f), (9, 0), (1, sm (fun j => if flw (g 12) (g 22 (g 21 c + j)) then f * g 23 (g 21 c + j) * g 46 (g 22 (g 21 c + j)) else 0) k + (if flw (g 12) (g 22 (g 21 c + k)) then f * g 23 (g 21 c + k) * g 46 (g 22 (g 21 c + k)) else 0)), (9, 0), (0, g 21 c + ((k + 1 : Nat) : Int)), (0, g 22 (g 21 c + k))] [] g
        generalize sm (fun j => if flw (g 12) (g 22 (g 21 c + j)) then f * g 23 (g 21 c + j) else 0) k = A1 at *
        generalize sm (fun j => if flw (g 12) (g 22 (g 21 c + j)) then f * g 23 (g 21 c + j) * g 46 (g 22 (g 21 c + j)) else 0) k = A2 at *
        rw [b_X6_stepBack_85, w32_of (x := c + 1) (by omega) (by omega), and_tl (by omega), if_pos (by omega), if_pos (by omega), and_tl (by omega), e_isFlowing (EF_11 n), b2_if, w32_of (x := g 21 c + (k : Int) + 1) (by omega) (by omega), show g 21 c + ((k + 1 : Nat) : Int) = g 21 c + (k : Int) + 1 by omega]
        show (if flw (g 12) (g 22 (g 21 c + k)) then _ else _) = _
        by_cases y : flw (g 12) (g 22 (g 21 c + k))
        · rw [if_pos y, if_pos y, if_pos y, and_tl (show 0 ≤ g 21 c + (k : Int) ∧ g 21 c + (k : Int) < 960 by omega), and_tl (show 0 ≤ g 21 c + (k : Int) ∧ g 21 c + (k : Int) < 960 by omega), hq, b_X6_stepBack_160, and_tl x1', w32_of (x := g 21 c + (k : Int) + 1) (by omega) (by omega), w64_of (x := f * g 23 (g 21 c + k)) (by omega) (by omega), w64_of (x := f * g 23 (g 21 c + k) * g 46 (g 22 (g 21 c + k))) (by omega) (by omega), w64_of (x := 16 * g 7 1 - A1 - f * g 23 (g 21 c + k)) (by omega) (by omega), w64_of (x := A2 + f * g 23 (g 21 c + k) * g 46 (g 22 (g 21 c + k))) (by omega) (by omega), show 16 * g 7 1 - A1 - f * g 23 (g 21 c + k) = 16 * g 7 1 - (A1 + f * g 23 (g 21 c + k)) by omega]
        · rw [if_neg y, if_neg y, if_neg y, Int.add_zero, Int.add_zero])
      obtain ⟨v, l⟩ := l
      have e0 : Ws (EF n) (d + 3) mX6_stepBack Q 85 [(2, 45), (2, 11), (2, 20), (2, 7), (0, c), (1, 16 * g 7 1), (9, 0), (1, f), (9, 0), (1, 0), (9, 0), (0, g 21 c), (9, 0)] [] g = Ws (EF n) (d + 3) mX6_stepBack Q 85 [(2, 45), (2, 11), (2, 20), (2, 7), (0, c), (1, 16 * g 7 1 - sm (fun j => if flw (g 12) (g 22 (g 21 c + j)) then f * g 23 (g 21 c + j) else 0) 0), (9, 0), (1, f), (9, 0), (1, sm (fun j => if flw (g 12) (g 22 (g 21 c + j)) then f * g 23 (g 21 c + j) * g 46 (g 22 (g 21 c + j)) else 0) 0), (9, 0), (0, g 21 c + ((0 : Nat) : Int)), (9, 0)] [] g := by
        rw [show g 21 c + ((0 : Nat) : Int) = g 21 c by omega, show 16 * g 7 1 - sm (fun j => if flw (g 12) (g 22 (g 21 c + j)) then f * g 23 (g 21 c + j) else 0) 0 = 16 * g 7 1 from Int.sub_zero _]
        rfl
      refine e0.trans (l.trans ?_)
      show Ws (EF n) (d + 3) mX6_stepBack Q 85 [(2, 45), (2, 11), (2, 20), (2, 7), (0, c), (1, _), (9, 0), (1, f), (9, 0), (1, _), (9, 0), (0, g 21 c + (((g 21 (c + 1) - g 21 c).toNat : Nat) : Int)), v] [] g = _
      generalize sm (fun j => if flw (g 12) (g 22 (g 21 c + j)) then f * g 23 (g 21 c + j) else 0) (g 21 (c + 1) - g 21 c).toNat = A1 at *
      generalize sm (fun j => if flw (g 12) (g 22 (g 21 c + j)) then f * g 23 (g 21 c + j) * g 46 (g 22 (g 21 c + j)) else 0) (g 21 (c + 1) - g 21 c).toNat = A2 at *
      have r195 : ∀ K : Int, 0 ≤ K → K ≤ 1584 → Ws (EF n) (d + 3) mX6_stepBack Q 195 [(2, 45), (2, 11), (2, 20), (2, 7), (0, c), (1, K), (9, 0), (1, f), (9, 0), (1, A2), (9, 0), (0, g 21 c + (((g 21 (c + 1) - g 21 c).toNat : Nat) : Int)), v] [] g = Q (A2 + K * g 46 c) g := by
        intro K k0 k1
        have b := mulb (x := K) (y := g 46 c) (X := 1584) (Y := 2509056) (by omega) (by omega)
        rw [b_X6_stepBack_195, hq, b_X6_stepBack_205, and_tl hc, w64_of (x := K * g 46 c) (by omega) (by omega), w64_of (by omega) (by omega)]
      rw [b_X6_stepBack_85, w32_of (x := c + 1) (by omega) (by omega), and_tl (by omega), if_neg (by omega), b_X6_stepBack_171, and_tl hc, l1, w64_of (x := f * rm c) (by omega) (by omega), w64_of (x := 16 * g 7 1 - A1 - f * rm c) (by omega) (by omega)]
      by_cases y : g 7 2 = 1
      · rw [if_pos y, if_pos y, r195 _ (by omega) (by omega), show 16 * g 7 1 - A1 - f * rm c = 16 * g 7 1 - (A1 + f * rm c) by omega]
      · rw [if_neg y, if_neg y, r195 _ (by omega) (by omega), Int.add_zero]
theorem e_stepBack_47 {g : Hp} {c U : Int} {Q : Int → Hp → Prop} (P : Prt (g 12) (g 19)) (hg : GeoOK g) (hL : LawC g) (hc : 0 ≤ c ∧ c < 336) (kc : g 12 c ≠ -1) (hl : LayC g c) (hq : g 45 1 = 47) (hU : 0 ≤ U ∧ U ≤ 2509056) (hs : ∀ b : Int, isN b → 0 ≤ g 47 b ∧ g 47 b ≤ U) : wpS (EF n) (d + 4) mX6_stepBack [(2, 45), (2, 11), (2, 20), (2, 7), (0, c)] g Q = Q (nxS (g 12) (g 19) (g 7 0) (g 7 1) (g 7 2) (g 47) c) g := by
  have gw3 : g 18 c = gw c := (hg c hc.1 hc.2).2.2
  have bw := gw_b c
  obtain ⟨L1, L2⟩ := hL
  have sb := hs c hc
  obtain ⟨l1, l2, l3⟩ := hl
  have k16 : w64 (16 * g 7 1) = 16 * g 7 1 := w64_of (by omega) (by omega)
  have r42 : Ws (EF n) (d + 3) mX6_stepBack Q 42 [(2, 45), (2, 11), (2, 20), (2, 7), (0, c), (1, 16 * g 7 1), (9, 0), (9, 0), (9, 0), (9, 0), (9, 0), (9, 0), (9, 0)] [] g = Q (16 * g 7 1 * g 47 c) g := by
    have b := mulb (x := 16 * g 7 1) (y := g 47 c) (X := 1584) (Y := 2509056) (by omega) (by omega)
    rw [b_X6_stepBack_42, hq, b_X6_stepBack_50_1, and_tl hc, w64_of (by omega) (by omega)]
  unfold nxS
  rw [u_X6_stepBack, e_isFlowing (EF_11 n), b2_if, k16, r42]
  by_cases z4 : g 12 c = 4
  · rw [if_neg (fun w => w.2.2 z4), if_pos (Or.inr z4)]
  · rw [if_pos (show (0 ≤ c ∧ c < 336) ∧ g 12 c ≠ -1 ∧ g 12 c ≠ 4 from ⟨hc, kc, z4⟩), and_tl hc]
    by_cases z3 : g 12 c = 3
    · rw [if_pos z3, if_pos (Or.inl z3)]
    · have ef : w64 (g 7 0 * w64 (Int.tdiv 4 (gw c))) = fS (g 7 0) c := by
        unfold fS
        rw [td (by decide)]
        rcases w3 c with e | e | e <;> rw [e]
        · show w64 (g 7 0 * w64 1) = g 7 0 * 1
          rw [w64_of (x := 1) (by decide) (by decide), w64_of (by omega) (by omega)]
        · show w64 (g 7 0 * w64 2) = g 7 0 * 2
          rw [w64_of (x := 2) (by decide) (by decide), w64_of (by omega) (by omega)]
        · show w64 (g 7 0 * w64 4) = g 7 0 * 4
          rw [w64_of (x := 4) (by decide) (by decide), w64_of (by omega) (by omega)]
      rw [if_neg z3, and_tl hc, gw3, if_neg (by omega), and_tl hc, and_tl (by omega), and_tl (by omega), ef, if_neg (fun w => w.elim z3 z4)]
      obtain ⟨⟨f1, f2⟩, f3⟩ := fS_b (c := c) L1 L2.2
      have bound := nG1_b (c := c) (f := fS (g 7 0) c) P f1
      have bound2 := nG2_b (c := c) (f := fS (g 7 0) c) P f1 hs
      have rb := rm_b c
      have frb := mulb (x := fS (g 7 0) c) (y := rm c) (X := 396) (Y := 16) ⟨f1, f2⟩ rb
      have g2b := mulb (x := nG1 (g 12) (g 19) c (fS (g 7 0) c)) (y := U) (X := 1584) (Y := 2509056) (by omega) hU
      have n1 : nG1 (g 12) (g 19) c (fS (g 7 0) c) = sm (fun j => if flw (g 12) (g 22 (g 21 c + j)) then fS (g 7 0) c * g 23 (g 21 c + j) else 0) (g 21 (c + 1) - g 21 c).toNat := (near_sum l3 (fun b x => if flw (g 12) b then fS (g 7 0) c * x else 0)).symm
      have n2 : nG2 (g 12) (g 19) c (fS (g 7 0) c) (g 47) = sm (fun j => if flw (g 12) (g 22 (g 21 c + j)) then fS (g 7 0) c * g 23 (g 21 c + j) * g 47 (g 22 (g 21 c + j)) else 0) (g 21 (c + 1) - g 21 c).toNat := (near_sum l3 (fun b x => if flw (g 12) b then fS (g 7 0) c * x * g 47 b else 0)).symm
      rw [n1] at bound bound2 g2b ⊢
      rw [n2] at bound2 ⊢
      clear n1 n2
      generalize fS (g 7 0) c = f at *
      have t1 : ∀ j : Nat, j < (g 21 (c + 1) - g 21 c).toNat → (0 ≤ f * g 23 (g 21 c + j) ∧ f * g 23 (g 21 c + j) ≤ 6336) ∧ (0 ≤ f * g 23 (g 21 c + j) * g 47 (g 22 (g 21 c + j)) ∧ f * g 23 (g 21 c + j) * g 47 (g 22 (g 21 c + j)) ≤ 15897378816) := by
        intro j hj
        obtain ⟨x1, x2, x3⟩ := l3.1 (g 21 c + j) (by omega) (by omega)
        have x4 := nb_b (g 19) c (g 22 (g 21 c + j))
        have x5 := mulb (x := f) (y := g 23 (g 21 c + j)) (X := 396) (Y := 16) ⟨f1, f2⟩ (by omega)
        have x6 := hs _ x1
        have x7 := mulb (x := f * g 23 (g 21 c + j)) (y := g 47 (g 22 (g 21 c + j))) (X := 6336) (Y := 2509056) (by omega) (by omega)
        exact ⟨by omega, by omega⟩
      have l := loop_x (α := PV) (P := fun v k => Ws (EF n) (d + 3) mX6_stepBack Q 85 [(2, 45), (2, 11), (2, 20), (2, 7), (0, c), (1, 16 * g 7 1 - sm (fun j => if flw (g 12) (g 22 (g 21 c + j)) then f * g 23 (g 21 c + j) else 0) k), (9, 0), (1, f), (9, 0), (1, sm (fun j => if flw (g 12) (g 22 (g 21 c + j)) then f * g 23 (g 21 c + j) * g 47 (g 22 (g 21 c + j)) else 0) k), (9, 0), (0, g 21 c + (k : Int)), v] [] g) (g 21 (c + 1) - g 21 c).toNat (9, 0) (by
        intro v k hk
        refine ⟨(0, g 22 (g 21 c + k)), ?_⟩
        have s1 := sm_b (f := fun j => if flw (g 12) (g 22 (g 21 c + j)) then f * g 23 (g 21 c + j) else 0) (lo := 0) (hi := 6336) k (fun j hj => by have := (t1 j (by omega)).1; split <;> omega)
        have s2 := sm_b (f := fun j => if flw (g 12) (g 22 (g 21 c + j)) then f * g 23 (g 21 c + j) * g 47 (g 22 (g 21 c + j)) else 0) (lo := 0) (hi := 15897378816) k (fun j hj => by have := (t1 j (by omega)).2; split <;> omega)
        have tk := t1 k hk
        obtain ⟨x1, -, -⟩ := l3.1 (g 21 c + k) (by omega) (by omega)
        have x1' : 0 ≤ g 22 (g 21 c + k) ∧ g 22 (g 21 c + k) < 336 := x1
        show _ = Ws (EF n) (d + 3) mX6_stepBack Q 85 [(2, 45), (2, 11), (2, 20), (2, 7), (0, c), (1, 16 * g 7 1 - (sm (fun j => if flw (g 12) (g 22 (g 21 c + j)) then f * g 23 (g 21 c + j) else 0) k + (if flw (g 12) (g 22 (g 21 c + k)) then f * g 23 (g 21 c + k) else 0))), (9, 0), (1, f), (9, 0), (1, sm (fun j => if flw (g 12) (g 22 (g 21 c + j)) then f * g 23 (g 21 c + j) * g 47 (g 22 (g 21 c + j)) else 0) k + (if flw (g 12) (g 22 (g 21 c + k)) then f * g 23 (g 21 c + k) * g 47 (g 22 (g 21 c + k)) else 0)), (9, 0), (0, g 21 c + ((k + 1 : Nat) : Int)), (0, g 22 (g 21 c + k))] [] g
        generalize sm (fun j => if flw (g 12) (g 22 (g 21 c + j)) then f * g 23 (g 21 c + j) else 0) k = A1 at *
        generalize sm (fun j => if flw (g 12) (g 22 (g 21 c + j)) then f * g 23 (g 21 c + j) * g 47 (g 22 (g 21 c + j)) else 0) k = A2 at *
        rw [b_X6_stepBack_85, w32_of (x := c + 1) (by omega) (by omega), and_tl (by omega), if_pos (by omega), if_pos (by omega), and_tl (by omega), e_isFlowing (EF_11 n), b2_if, w32_of (x := g 21 c + (k : Int) + 1) (by omega) (by omega), show g 21 c + ((k + 1 : Nat) : Int) = g 21 c + (k : Int) + 1 by omega]
        show (if flw (g 12) (g 22 (g 21 c + k)) then _ else _) = _
        by_cases y : flw (g 12) (g 22 (g 21 c + k))
        · rw [if_pos y, if_pos y, if_pos y, and_tl (show 0 ≤ g 21 c + (k : Int) ∧ g 21 c + (k : Int) < 960 by omega), and_tl (show 0 ≤ g 21 c + (k : Int) ∧ g 21 c + (k : Int) < 960 by omega), hq, b_X6_stepBack_160_1, and_tl x1', w32_of (x := g 21 c + (k : Int) + 1) (by omega) (by omega), w64_of (x := f * g 23 (g 21 c + k)) (by omega) (by omega), w64_of (x := f * g 23 (g 21 c + k) * g 47 (g 22 (g 21 c + k))) (by omega) (by omega), w64_of (x := 16 * g 7 1 - A1 - f * g 23 (g 21 c + k)) (by omega) (by omega), w64_of (x := A2 + f * g 23 (g 21 c + k) * g 47 (g 22 (g 21 c + k))) (by omega) (by omega), show 16 * g 7 1 - A1 - f * g 23 (g 21 c + k) = 16 * g 7 1 - (A1 + f * g 23 (g 21 c + k)) by omega]
        · rw [if_neg y, if_neg y, if_neg y, Int.add_zero, Int.add_zero])
      obtain ⟨v, l⟩ := l
      have e0 : Ws (EF n) (d + 3) mX6_stepBack Q 85 [(2, 45), (2, 11), (2, 20), (2, 7), (0, c), (1, 16 * g 7 1), (9, 0), (1, f), (9, 0), (1, 0), (9, 0), (0, g 21 c), (9, 0)] [] g = Ws (EF n) (d + 3) mX6_stepBack Q 85 [(2, 45), (2, 11), (2, 20), (2, 7), (0, c), (1, 16 * g 7 1 - sm (fun j => if flw (g 12) (g 22 (g 21 c + j)) then f * g 23 (g 21 c + j) else 0) 0), (9, 0), (1, f), (9, 0), (1, sm (fun j => if flw (g 12) (g 22 (g 21 c + j)) then f * g 23 (g 21 c + j) * g 47 (g 22 (g 21 c + j)) else 0) 0), (9, 0), (0, g 21 c + ((0 : Nat) : Int)), (9, 0)] [] g := by
        rw [show g 21 c + ((0 : Nat) : Int) = g 21 c by omega, show 16 * g 7 1 - sm (fun j => if flw (g 12) (g 22 (g 21 c + j)) then f * g 23 (g 21 c + j) else 0) 0 = 16 * g 7 1 from Int.sub_zero _]
        rfl
      refine e0.trans (l.trans ?_)
      show Ws (EF n) (d + 3) mX6_stepBack Q 85 [(2, 45), (2, 11), (2, 20), (2, 7), (0, c), (1, _), (9, 0), (1, f), (9, 0), (1, _), (9, 0), (0, g 21 c + (((g 21 (c + 1) - g 21 c).toNat : Nat) : Int)), v] [] g = _
      generalize sm (fun j => if flw (g 12) (g 22 (g 21 c + j)) then f * g 23 (g 21 c + j) else 0) (g 21 (c + 1) - g 21 c).toNat = A1 at *
      generalize sm (fun j => if flw (g 12) (g 22 (g 21 c + j)) then f * g 23 (g 21 c + j) * g 47 (g 22 (g 21 c + j)) else 0) (g 21 (c + 1) - g 21 c).toNat = A2 at *
      have r195 : ∀ K : Int, 0 ≤ K → K ≤ 1584 → Ws (EF n) (d + 3) mX6_stepBack Q 195 [(2, 45), (2, 11), (2, 20), (2, 7), (0, c), (1, K), (9, 0), (1, f), (9, 0), (1, A2), (9, 0), (0, g 21 c + (((g 21 (c + 1) - g 21 c).toNat : Nat) : Int)), v] [] g = Q (A2 + K * g 47 c) g := by
        intro K k0 k1
        have b := mulb (x := K) (y := g 47 c) (X := 1584) (Y := 2509056) (by omega) (by omega)
        rw [b_X6_stepBack_195, hq, b_X6_stepBack_205_1, and_tl hc, w64_of (x := K * g 47 c) (by omega) (by omega), w64_of (by omega) (by omega)]
      rw [b_X6_stepBack_85, w32_of (x := c + 1) (by omega) (by omega), and_tl (by omega), if_neg (by omega), b_X6_stepBack_171, and_tl hc, l1, w64_of (x := f * rm c) (by omega) (by omega), w64_of (x := 16 * g 7 1 - A1 - f * rm c) (by omega) (by omega)]
      by_cases y : g 7 2 = 1
      · rw [if_pos y, if_pos y, r195 _ (by omega) (by omega), show 16 * g 7 1 - A1 - f * rm c = 16 * g 7 1 - (A1 + f * rm c) by omega]
      · rw [if_neg y, if_neg y, r195 _ (by omega) (by omega), Int.add_zero]
end STEP
