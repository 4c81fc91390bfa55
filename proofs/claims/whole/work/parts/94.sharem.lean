/-! shares: the reference -/
theorem near_sum0 {O : Int → Int} {c L : Int} {B D : Int → Int} (h : NearOK O c 0 L B D) (φ : Int → Int → Int) : sm (fun j => φ (B j) (D j)) L.toNat = nS O c φ := by
  have e := near_sum h φ
  rw [show (L - 0).toNat = L.toNat by omega] at e
  refine Eq.trans (sm_c _ (fun j _ => ?_)) e
  rw [Int.zero_add]
/-- the reference's neighbours may be written anew -/
def FrN (g g' : Hp) : Prop := (∀ a : Int, a ≠ 50 → a ≠ 63 → a ≠ 64 → g' a = g a) ∧ ∀ i : Int, i ≠ 29 → i ≠ 32 → g' 50 i = g 50 i
/-- what the reference's world is -/
def MS (K O : Int → Int) (n m o : Int) (g : Hp) : Prop := (∀ s : Int, 0 ≤ s → s < 256 → g 62 s = O s) ∧ (∀ c : Int, isN c → (g 57 c = 0 ↔ K c = -1) ∧ (K c ≠ -1 → g 59 c = K c)) ∧ (∀ c : Int, isN c → -1 ≤ K c ∧ K c ≤ 4) ∧ g 50 10 = n ∧ g 50 11 = m ∧ g 50 12 = o
theorem MS_S {K O : Int → Int} {n m o : Int} {g : Hp} (P : Prt K O) (M : MS K O n m o g) : ∀ s : Int, 0 ≤ s → s < 256 → isN (g 62 s) := fun s h0 h1 => by
  rw [M.1 s h0 h1]
  exact (P.1 s h0 h1).1
section SHM
variable {E : PvEnv} {d : Nat} {K O : Int → Int} {n m o : Int}
theorem e_m_nextShare (hE : ∀ k, E 50 k = refT 50 k) {g : Hp} {c U : Int} (P : Prt K O) (M : MS K O n m o g) (hn : 0 ≤ n ∧ n ≤ m) (hm : 1 ≤ m ∧ m ≤ 99) (hc : 0 ≤ c ∧ c < 336) (kc : K c ≠ -1) (hU : 0 ≤ U ∧ U ≤ 2509056) (hs : ∀ b : Int, isN b → 0 ≤ g 87 b ∧ g 87 b ≤ U) : ∃ g' : Hp, FrN g g' ∧ ∀ Q, wpS E (d + 4) mX10_nextShare [(2, 50), (0, c)] g Q = Q (nxS K O n m o (g 87) c) g' := by
  have sb := hs c hc
  have mc := M.2.1 c hc
  have kb := M.2.2.1 c hc
  have e59 := mc.2 kc
  have M' := M
  obtain ⟨-, -, -, m10, m11, m12⟩ := M'
  have k16 : w64 (16 * g 50 11) = 16 * m := by rw [m11]; exact w64_of (by omega) (by omega)
  unfold nxS
  by_cases z : K c = 3 ∨ K c = 4
  · refine ⟨g, ⟨fun _ _ _ _ => rfl, fun _ _ _ => rfl⟩, fun Q => ?_⟩
    have b := mulb (x := 16 * m) (y := g 87 c) (X := 1584) (Y := 2509056) (by omega) (by omega)
    rw [u_X10_nextShare hE, and_tl hc, if_neg (by omega), and_tl hc, k16, if_pos z, w64_of (by omega) (by omega)]
  · obtain ⟨L, B, D, q1, q2, q3⟩ := e_m_setNear (d := d) (h := g) (c := c) hE (MS_S P M) hc
    have q2' := near_c M.1 q2
    obtain ⟨⟨f1, f2⟩, f3⟩ := fS_b (c := c) hn hm.2
    have bound := nG1_b (c := c) (f := fS n c) P f1
    have bound2 := nG2_b (c := c) (f := fS n c) P f1 hs
    have rb := rm_b c
    have bw := gw_b c
    have frb := mulb (x := fS n c) (y := rm c) (X := 396) (Y := 16) ⟨f1, f2⟩ rb
    have g2b := mulb (x := nG1 K O c (fS n c)) (y := U) (X := 1584) (Y := 2509056) (by omega) hU
    have n1 : nG1 K O c (fS n c) = sm (fun j => if flw K (B j) then fS n c * D j else 0) L.toNat := (near_sum0 q2' (fun b x => if flw K b then fS n c * x else 0)).symm
    have n2 : nG2 K O c (fS n c) (g 87) = sm (fun j => if flw K (B j) then fS n c * D j * g 87 (B j) else 0) L.toNat := (near_sum0 q2' (fun b x => if flw K b then fS n c * x * g 87 b else 0)).symm
    refine ⟨vN g (up (up (g 50) 29 L) 32 (rm c)) B D, ⟨fun a h1 h2 h3 => vN_off h1 h2 h3, fun i h1 h2 => ?_⟩, fun Q => ?_⟩
    · show up (up (g 50) 29 L) 32 (rm c) i = g 50 i
      rw [up_n _ _ h2, up_n _ _ h1]
    · have g29 : (vN g (up (up (g 50) 29 L) 32 (rm c)) B D) 50 29 = L := by
        show up (up (g 50) 29 L) 32 (rm c) 29 = L
        rw [up_n _ _ (by decide), up_s]
      have g32 : (vN g (up (up (g 50) 29 L) 32 (rm c)) B D) 50 32 = rm c := by
        show up (up (g 50) 29 L) 32 (rm c) 32 = rm c
        exact up_s _ _ _
      have g10 : (vN g (up (up (g 50) 29 L) 32 (rm c)) B D) 50 10 = n := by
        show up (up (g 50) 29 L) 32 (rm c) 10 = n
        rw [up_n _ _ (by decide), up_n _ _ (by decide)]
        exact m10
      have g12 : (vN g (up (up (g 50) 29 L) 32 (rm c)) B D) 50 12 = o := by
        show up (up (g 50) 29 L) 32 (rm c) 12 = o
        rw [up_n _ _ (by decide), up_n _ _ (by decide)]
        exact m12
      have x87 : (vN g (up (up (g 50) 29 L) 32 (rm c)) B D) 87 = g 87 := rfl
      have x59 : (vN g (up (up (g 50) 29 L) 32 (rm c)) B D) 59 = g 59 := rfl
      have ef : w64 (n * w32 (Int.tdiv 4 (gw c))) = fS n c := by
        unfold fS
        rw [td (by decide)]
        rcases w3 c with e | e | e <;> rw [e]
        · show w64 (n * w32 1) = n * 1
          rw [w32_of (x := 1) (by decide) (by decide), w64_of (by omega) (by omega)]
        · show w64 (n * w32 2) = n * 2
          rw [w32_of (x := 2) (by decide) (by decide), w64_of (by omega) (by omega)]
        · show w64 (n * w32 4) = n * 4
          rw [w32_of (x := 4) (by decide) (by decide), w64_of (by omega) (by omega)]
      rw [u_X10_nextShare hE, and_tl hc, if_pos (by omega), q3, e_m_side, and_tl (by omega), g12, g10, g32, ef, k16, w64_of (x := fS n c * rm c) (by omega) (by omega), if_neg z]
      rw [n1] at bound bound2 g2b ⊢
      rw [n2] at bound2 ⊢
      clear n1 n2
      generalize fS n c = f at *
      have t1 : ∀ j : Nat, j < L.toNat → (0 ≤ f * D j ∧ f * D j ≤ 6336) ∧ (0 ≤ f * D j * g 87 (B j) ∧ f * D j * g 87 (B j) ≤ 15897378816) := by
        intro j hj
        obtain ⟨x1, x2, x3⟩ := q2'.1 j (by omega) (by omega)
        have x4 := nb_b O c (B j)
        have x5 := mulb (x := f) (y := D j) (X := 396) (Y := 16) ⟨f1, f2⟩ (by omega)
        have x6 := hs _ x1
        have x7 := mulb (x := f * D j) (y := g 87 (B j)) (X := 6336) (Y := 2509056) (by omega) (by omega)
        exact ⟨by omega, by omega⟩
      have r69 : ∀ x : Int, 0 ≤ x → x ≤ 6336 → sm (fun j => if flw K (B j) then f * D j else 0) L.toNat + x ≤ 16 * m → Ws E (d + 3) mX10_nextShare Q 69 [(2, 50), (0, c), (1, 16 * m), (9, 0), (1, f), (9, 0), (9, 0), (9, 0), (9, 0), (9, 0), (9, 0)] [(1, x)] (vN g (up (up (g 50) 29 L) 32 (rm c)) B D) = Q (sm (fun j => if flw K (B j) then f * D j * g 87 (B j) else 0) L.toNat + (16 * m - (sm (fun j => if flw K (B j) then f * D j else 0) L.toNat + x)) * g 87 c) (vN g (up (up (g 50) 29 L) 32 (rm c)) B D) := by
        intro x x0 x1 x2
        have l := loop_n (P := fun k => Ws E (d + 3) mX10_nextShare Q 77 [(2, 50), (0, c), (1, 16 * m), (9, 0), (1, f), (9, 0), (1, sm (fun j => if flw K (B j) then f * D j else 0) k + x), (9, 0), (1, sm (fun j => if flw K (B j) then f * D j * g 87 (B j) else 0) k), (9, 0), (0, (k : Int))] [] (vN g (up (up (g 50) 29 L) 32 (rm c)) B D)) L.toNat (by
          intro k hk
          have s1 := sm_b (f := fun j => if flw K (B j) then f * D j else 0) (lo := 0) (hi := 6336) k (fun j hj => by have := (t1 j (by omega)).1; split <;> omega)
          have s2 := sm_b (f := fun j => if flw K (B j) then f * D j * g 87 (B j) else 0) (lo := 0) (hi := 15897378816) k (fun j hj => by have := (t1 j (by omega)).2; split <;> omega)
          have tk := t1 k hk
          obtain ⟨y1, y2, y3⟩ := q2'.1 k (by omega) (by omega)
          have y1' : 0 ≤ B k ∧ B k < 336 := y1
          have kB := (nb_in P (show 1 ≤ nb O c (B k) by omega)).2
          have eB := (M.2.1 (B k) y1).2 kB
          show _ = Ws E (d + 3) mX10_nextShare Q 77 [(2, 50), (0, c), (1, 16 * m), (9, 0), (1, f), (9, 0), (1, (sm (fun j => if flw K (B j) then f * D j else 0) k + (if flw K (B k) then f * D k else 0)) + x), (9, 0), (1, sm (fun j => if flw K (B j) then f * D j * g 87 (B j) else 0) k + (if flw K (B k) then f * D k * g 87 (B k) else 0)), (9, 0), (0, ((k + 1 : Nat) : Int))] [] (vN g (up (up (g 50) 29 L) 32 (rm c)) B D)
          generalize sm (fun j => if flw K (B j) then f * D j else 0) k = A1 at *
          generalize sm (fun j => if flw K (B j) then f * D j * g 87 (B j) else 0) k = A2 at *
          rw [b_X10_nextShare_77 hE, g29, if_pos (by omega), and_tl (by omega), vN_r63, and_tl y1', x59, eB, and_tl (by omega), and_tl (by omega), and_tl (by omega), and_tl y1', vN_r64, x87, w32_n1 (by omega), w64_of (x := f * D k) (by omega) (by omega), w64_of (x := f * D k * g 87 (B k)) (by omega) (by omega), w64_of (x := A1 + x + f * D k) (by omega) (by omega), w64_of (x := A2 + f * D k * g 87 (B k)) (by omega) (by omega)]
          by_cases y : K (B k) = 4
          · rw [if_pos y, if_neg (fun w => w.2.2 y), if_neg (fun w => w.2.2 y), Int.add_zero, Int.add_zero]
          · rw [if_neg y, if_pos (show flw K (B k) from ⟨y1', kB, y⟩), if_pos (show flw K (B k) from ⟨y1', kB, y⟩), show A1 + x + f * D k = A1 + f * D k + x by omega])
        have e0 : Ws E (d + 3) mX10_nextShare Q 69 [(2, 50), (0, c), (1, 16 * m), (9, 0), (1, f), (9, 0), (9, 0), (9, 0), (9, 0), (9, 0), (9, 0)] [(1, x)] (vN g (up (up (g 50) 29 L) 32 (rm c)) B D) = Ws E (d + 3) mX10_nextShare Q 77 [(2, 50), (0, c), (1, 16 * m), (9, 0), (1, f), (9, 0), (1, sm (fun j => if flw K (B j) then f * D j else 0) 0 + x), (9, 0), (1, sm (fun j => if flw K (B j) then f * D j * g 87 (B j) else 0) 0), (9, 0), (0, ((0 : Nat) : Int))] [] (vN g (up (up (g 50) 29 L) 32 (rm c)) B D) := by
          rw [b_X10_nextShare_69 hE, show sm (fun j => if flw K (B j) then f * D j else 0) 0 + x = x from Int.zero_add x]
          rfl
        refine e0.trans (l.trans ?_)
        show Ws E (d + 3) mX10_nextShare Q 77 [(2, 50), (0, c), (1, 16 * m), (9, 0), (1, f), (9, 0), (1, _), (9, 0), (1, _), (9, 0), (0, ((L.toNat : Nat) : Int))] [] (vN g (up (up (g 50) 29 L) 32 (rm c)) B D) = _
        generalize sm (fun j => if flw K (B j) then f * D j else 0) L.toNat = A1 at *
        generalize sm (fun j => if flw K (B j) then f * D j * g 87 (B j) else 0) L.toNat = A2 at *
        have b := mulb (x := 16 * m - (A1 + x)) (y := g 87 c) (X := 1584) (Y := 2509056) (by omega) (by omega)
        rw [b_X10_nextShare_77 hE, g29, if_neg (by omega), and_tl hc, x87, w64_of (x := 16 * m - (A1 + x)) (by omega) (by omega), w64_of (x := (16 * m - (A1 + x)) * g 87 c) (by omega) (by omega), w64_of (by omega) (by omega)]
      by_cases y : o = 1
      · rw [if_pos y, if_pos y, r69 (f * rm c) (by omega) (by omega) (by omega)]
      · rw [if_neg y, if_neg y, r69 0 (by decide) (by decide) (by omega)]
/-- of the heap, what stays -/
def FrS (h g : Hp) : Prop := (∀ a : Int, a ≠ 50 → a ≠ 63 → a ≠ 64 → a ≠ 87 → a ≠ 88 → g a = h a) ∧ ∀ i : Int, i ≠ 29 → i ≠ 32 → g 50 i = h 50 i
theorem MS_Fr {h g : Hp} (F : FrS h g) (M : MS K O n m o h) : MS K O n m o g := by
  obtain ⟨f1, f2⟩ := F
  obtain ⟨m1, m2, m3, m4, m5, m6⟩ := M
  refine ⟨fun s h0 h1 => ?_, fun c hc => ?_, m3, ?_, ?_, ?_⟩
  · rw [f1 62 (by decide) (by decide) (by decide) (by decide) (by decide)]; exact m1 s h0 h1
  · rw [f1 57 (by decide) (by decide) (by decide) (by decide) (by decide), f1 59 (by decide) (by decide) (by decide) (by decide) (by decide)]; exact m2 c hc
  · rw [f2 10 (by decide) (by decide)]; exact m4
  · rw [f2 11 (by decide) (by decide)]; exact m5
  · rw [f2 12 (by decide) (by decide)]; exact m6
theorem FrS_row {h g : Hp} {a i v : Int} (F : FrS h g) (ha : a = 87 ∨ a = 88) : FrS h (hst g a i v) := by
  refine ⟨fun b h1 h2 h3 h4 h5 => ?_, fun j h1 h2 => ?_⟩
  · rw [hst_off _ (by omega)]; exact F.1 b h1 h2 h3 h4 h5
  · rw [hst_off _ (by omega)]; exact F.2 j h1 h2
theorem e_m_setShares (hE : ∀ k, E 50 k = refT 50 k) {h : Hp} {to t : Int} (P : Prt K O) (M : MS K O n m o h) (hn : 0 ≤ n ∧ n ≤ m) (hm : 1 ≤ m ∧ m ≤ 99) (ht : 0 ≤ t ∧ t ≤ 3) : ∃ g : Hp, (FrS h g ∧ ∀ c : Int, isN c → g 87 c = shr K O n m o to t.toNat c) ∧ ∀ Q, wpS E (d + 5) mX10_setShares [(2, 50), (0, to), (0, t)] h Q = Q 0 g := by
  have l1 : ∀ Q, wpS E (d + 5) mX10_setShares [(2, 50), (0, to), (0, t)] h Q = Ws E (d + 4) mX10_setShares Q 33 [(2, 50), (0, to), (0, t), (0, 0), (9, 0)] [] (hrow h 87 (pf (shr K O n m o to 0) (h 87) 336)) := by
    intro Q
    have l := loop_n (P := fun k => Ws E (d + 4) mX10_setShares Q 2 [(2, 50), (0, to), (0, t), (0, (k : Int)), (9, 0)] [] (hrow h 87 (pf (shr K O n m o to 0) (h 87) k))) 336 (by
      intro k hk
      rw [← pf_s (shr K O n m o to 0) (h 87) k, b_X10_setShares_2 hE, if_pos (by omega), and_tl (by omega), and_tl (by omega), hst_rr, hst_rr, w32_n1 (by omega)]
      show _ = Ws E (d + 4) mX10_setShares Q 2 [(2, 50), (0, to), (0, t), (0, ((k + 1 : Nat) : Int)), (9, 0)] [] (hrow h 87 (up (pf (shr K O n m o to 0) (h 87) k) k (if (k : Int) = to then 1 else 0)))
      by_cases z : (k : Int) = to
      · rw [if_pos z, if_pos z]
      · rw [if_neg z, if_neg z])
    rw [pf_0, hrow_self] at l
    rw [u_X10_setShares hE]
    refine l.trans ?_
    show Ws E (d + 4) mX10_setShares Q 2 [(2, 50), (0, to), (0, t), (0, ((336 : Nat) : Int)), (9, 0)] [] _ = _
    rw [b_X10_setShares_2 hE, if_neg (by decide)]
    rfl
  have step : ∀ (k : Nat) (g : Hp) (v : PV), (k : Int) < t → (FrS h g ∧ ∀ c : Int, isN c → g 87 c = shr K O n m o to k c) → ∃ (g' : Hp) (v' : PV), (FrS h g' ∧ ∀ c : Int, isN c → g' 87 c = shr K O n m o to (k + 1) c) ∧ ∀ Q, Ws E (d + 4) mX10_setShares Q 33 [(2, 50), (0, to), (0, t), (0, (k : Int)), v] [] g = Ws E (d + 4) mX10_setShares Q 33 [(2, 50), (0, to), (0, t), (0, ((k + 1 : Nat) : Int)), v'] [] g' := by
    intro k g v hk I
    have pb := pw16_k hm (k := k) (by omega)
    have pu := pb.2.2 (by omega)
    have sb := shr_b (K := K) (O := O) (n := n) (m := m) (o := o) (to := to) P hn hm k (by omega)
    obtain ⟨g1, j1, e1⟩ := loop_e (σ := Hp) (Inv := fun c g => FrS h g ∧ (∀ b : Int, isN b → g 87 b = shr K O n m o to k b) ∧ ∀ j : Nat, j < c → g 88 j = shr K O n m o to (k + 1) j) (X := fun Q c g => Ws E (d + 4) mX10_setShares Q 41 [(2, 50), (0, to), (0, t), (0, (k : Int)), (0, (c : Int))] [] g) 336 g ⟨I.1, I.2, fun j hj => absurd hj (Nat.not_lt_zero _)⟩ (by
      rintro c g hc ⟨F, i1, i2⟩
      have Mg := MS_Fr F M
      have hc' : 0 ≤ (c : Int) ∧ (c : Int) < 336 := by omega
      have mT := (Mg.2.1 c hc').1
      have un : shr K O n m o to (k + 1) c = if K c = -1 then 0 else nxS K O n m o (shr K O n m o to k) c := rfl
      have fin : ∀ (g' : Hp) (x : Int), FrS h g' → (∀ b : Int, isN b → g' 87 b = shr K O n m o to k b) → (∀ j : Nat, j < c → g' 88 j = shr K O n m o to (k + 1) j) → x = shr K O n m o to (k + 1) c → FrS h (hst g' 88 c x) ∧ (∀ b : Int, isN b → hst g' 88 c x 87 b = shr K O n m o to k b) ∧ ∀ j : Nat, j < c + 1 → hst g' 88 c x 88 j = shr K O n m o to (k + 1) j := by
        intro g' x F' i1' i2' hx
        refine ⟨FrS_row F' (Or.inr rfl), fun b hb => ?_, fun j hj => ?_⟩
        · rw [hst_off _ (by decide)]; exact i1' b hb
        · by_cases y : j = c
          · subst y; rw [hst_s]; exact hx
          · rw [hst_o _ _ _ (by omega)]; exact i2' j (by omega)
      by_cases z : K (c : Int) = -1
      · refine ⟨hst g 88 c 0, fin g 0 F i1 i2 (by rw [un, if_pos z]), fun Q => ?_⟩
        rw [b_X10_setShares_41 hE, if_pos (by omega), and_tl (by omega), if_pos (mT.mpr z), and_tl (by omega), w32_n1 (by omega)]
      · obtain ⟨g', F', e'⟩ := e_m_nextShare (d := d) (U := pw16 m k) hE P Mg hn hm hc' z (by omega) (fun b hb => by rw [i1 b hb]; exact sb b hb)
        have F2 : FrS h g' := by
          refine ⟨fun a h1 h2 h3 h4 h5 => (F'.1 a h1 h2 h3).trans (F.1 a h1 h2 h3 h4 h5), fun i h1 h2 => (F'.2 i h1 h2).trans (F.2 i h1 h2)⟩
        have ev : nxS K O n m o (g 87) c = shr K O n m o to (k + 1) c := by
          rw [un, if_neg z]
          exact nxS_c hc' i1
        refine ⟨hst g' 88 c (nxS K O n m o (g 87) c), fin g' _ F2 (fun b hb => ?_) (fun j hj => ?_) ev, fun Q => ?_⟩
        · rw [F'.1 87 (by decide) (by decide) (by decide)]; exact i1 b hb
        · rw [F'.1 88 (by decide) (by decide) (by decide)]; exact i2 j hj
        · rw [b_X10_setShares_41 hE, if_pos (by omega), and_tl (by omega), if_neg (fun w => z (mT.mp w)), e', and_tl (by omega), w32_n1 (by omega)])
    obtain ⟨F1, -, i88⟩ := j1
    obtain ⟨g2, j2, e2⟩ := loop_e (σ := Hp) (Inv := fun c g => FrS h g ∧ (∀ j : Nat, j < 336 → g 88 j = shr K O n m o to (k + 1) j) ∧ ∀ j : Nat, j < c → g 87 j = shr K O n m o to (k + 1) j) (X := fun Q c g => Ws E (d + 4) mX10_setShares Q 85 [(2, 50), (0, to), (0, t), (0, (k : Int)), (0, (c : Int))] [] g) 336 g1 ⟨F1, i88, fun j hj => absurd hj (Nat.not_lt_zero _)⟩ (by
      rintro c g hc ⟨F, i1, i2⟩
      refine ⟨hst g 87 c (g 88 c), ⟨FrS_row F (Or.inl rfl), fun j hj => ?_, fun j hj => ?_⟩, fun Q => ?_⟩
      · rw [hst_off _ (by decide)]; exact i1 j hj
      · by_cases y : j = c
        · subst y; rw [hst_s]; exact i1 j hc
        · rw [hst_o _ _ _ (by omega)]; exact i2 j (by omega)
      · rw [b_X10_setShares_85 hE, if_pos (by omega), and_tl (by omega), and_tl (by omega), w32_n1 (by omega)])
    obtain ⟨F2, -, i87⟩ := j2
    refine ⟨g2, (0, 336), ⟨F2, fun c hc => ?_⟩, fun Q => ?_⟩
    · have hc' : 0 ≤ c ∧ c < 336 := hc
      have := i87 c.toNat (by omega)
      rw [show ((c.toNat : Nat) : Int) = c by omega] at this
      exact this
    · rw [b_X10_setShares_33 hE, if_pos (by omega)]
      refine (e1 Q).trans ?_
      show Ws E (d + 4) mX10_setShares Q 41 [(2, 50), (0, to), (0, t), (0, (k : Int)), (0, ((336 : Nat) : Int))] [] g1 = _
      rw [b_X10_setShares_41 hE, if_neg (by decide)]
      refine (e2 Q).trans ?_
      show Ws E (d + 4) mX10_setShares Q 85 [(2, 50), (0, to), (0, t), (0, (k : Int)), (0, ((336 : Nat) : Int))] [] g2 = _
      rw [b_X10_setShares_85 hE, if_neg (by decide), w32_n1 (by omega)]
      rfl
  have init : FrS h (hrow h 87 (pf (shr K O n m o to 0) (h 87) 336)) ∧ ∀ c : Int, isN c → hrow h 87 (pf (shr K O n m o to 0) (h 87) 336) 87 c = shr K O n m o to 0 c := ⟨⟨fun a h1 h2 h3 h4 h5 => hrow_n _ _ h4, fun i h1 h2 => by rw [hrow_n _ _ (by decide)]⟩, fun c hc => by rw [hrow_s]; exact pf_in hc⟩
  obtain ⟨⟨g, v⟩, i1, e1⟩ := loop_e (σ := Hp × PV) (Inv := fun k s => FrS h s.1 ∧ ∀ c : Int, isN c → s.1 87 c = shr K O n m o to k c) (X := fun Q k s => Ws E (d + 4) mX10_setShares Q 33 [(2, 50), (0, to), (0, t), (0, (k : Int)), s.2] [] s.1) t.toNat (hrow h 87 (pf (shr K O n m o to 0) (h 87) 336), (9, 0)) init (by
    rintro k ⟨g, v⟩ hk I
    obtain ⟨g', v', I', e⟩ := step k g v (by omega) I
    exact ⟨(g', v'), I', e⟩)
  refine ⟨g, i1, fun Q => ?_⟩
  rw [l1]
  refine (e1 Q).trans ?_
  show Ws E (d + 4) mX10_setShares Q 33 [(2, 50), (0, to), (0, t), (0, ((t.toNat : Nat) : Int)), v] [] g = _
  rw [b_X10_setShares_33 hE, if_neg (by omega)]
end SHM
