/-! constructors: the world -/
theorem e_layOut {E : PvEnv} (hE : ∀ k, E 11 k = refT 11 k) {d : Nat} {Q : Int → Hp → Prop} {h : Hp} {c : Int} (hc : isN c) (hp : 16 ≤ c → h 16 (gp c) = gx (gp c) ∧ h 17 (gp c) = gy (gp c)) : wpS E (d + 2) mX8_layOut [(2, 11), (0, c)] h Q = Q 0 (hst (hst (hst h 18 c (gw c)) 16 c (gx c)) 17 c (gy c)) := by
  have hc' : 0 ≤ c ∧ c < 336 := hc
  rw [u_X8_layOut hE]
  by_cases h1 : c < 16
  · rw [if_pos h1, and_tl hc', and_tl hc', and_tl hc', td hc'.1, tm hc'.1, w32_of (x := c / 4) (by omega) (by omega), w32_of (by omega) (by omega), w32_of (by omega) (by omega)]
    have e1 : gw c = 4 := by unfold gw; rw [if_pos h1]
    have e2 : gx c = c % 4 * 4 := by unfold gx; rw [if_pos h1]; omega
    have e3 : gy c = c / 4 * 4 := by unfold gy; rw [if_pos h1]; omega
    rw [e1, e2, e3]
  · obtain ⟨p1, p2⟩ := hp (by omega)
    have hg : 0 ≤ gp c ∧ gp c < 336 := by unfold gp; omega
    have key : ∀ w : Int, w = gw c → (w = 1 ∨ w = 2) → Ws E (d + 1) mX8_layOut Q 57 [(2, 11), (0, c), (0, gp c)] [(0, w), (0, c), (2, 18)] h = Q 0 (hst (hst (hst h 18 c (gw c)) 16 c (gx c)) 17 c (gy c)) := by
      intro w hw h12
      rw [b_X8_layOut_57 hE, and_tl hc', and_tl hg, and_tl hc', and_tl hc', and_tl hg, and_tl hc', and_tl hc', td hc'.1, tm hc'.1]
      simp only [hst_at, up_at, Int.reduceEq, if_true, if_false, reduceIte]
      rw [p1, p2]
      have e1 : w32 (gx (gp c) + w32 (c % 2 * w)) = gx c := by
        have bx := gx_b (c := gp c) hg
        rw [w32_of (x := c % 2 * w) (by rcases h12 with z | z <;> rw [z] <;> omega) (by rcases h12 with z | z <;> rw [z] <;> omega), w32_of (by rcases h12 with z | z <;> rw [z] <;> omega) (by rcases h12 with z | z <;> rw [z] <;> unfold gx gp <;> repeat' split <;> omega)]
        rw [hw]
        unfold gx gw gp
        repeat' split
        all_goals omega
      have e2 : w32 (gy (gp c) + w32 (Int.tmod (w32 (c / 2)) 2 * w)) = gy c := by
        have bx := gy_b (c := gp c) hg
        rw [w32_of (x := c / 2) (by omega) (by omega), tm (by omega)]
        rw [w32_of (x := c / 2 % 2 * w) (by rcases h12 with z | z <;> rw [z] <;> omega) (by rcases h12 with z | z <;> rw [z] <;> omega), w32_of (by rcases h12 with z | z <;> rw [z] <;> omega) (by rcases h12 with z | z <;> rw [z] <;> unfold gy gp <;> repeat' split <;> omega)]
        rw [hw]
        unfold gy gw gp
        repeat' split
        all_goals omega
      rw [e1, e2, hw]
    rw [if_neg h1, e_parentOf (by omega)]
    by_cases h2 : c < 80
    · rw [if_pos h2]
      exact key 2 (by unfold gw; rw [if_neg h1, if_pos h2]) (Or.inr rfl)
    · rw [if_neg h2]
      exact key 1 (by unfold gw; rw [if_neg h1, if_neg h2]) (Or.inl rfl)
/-- whose a square is at the start -/
def bc (s : Int) : Int := 4 * (s / 64) + s % 16 / 4
def ow (f : Int → Int) (k : Int) : Int → Int := fun s => if (0 ≤ s ∧ s < 256) ∧ bc s < k then bc s else f s
theorem pnt_ow (f : Int → Int) {k : Int} (h0 : 0 ≤ k) (h1 : k < 16) : pnt (ow f k) k = ow f (k + 1) := by
  funext s
  unfold pnt ow bc gx gy gw
  simp only [h1, if_true]
  repeat' split
  all_goals first | rfl | (exfalso; omega) | omega
theorem ow_0 (f : Int → Int) : ow f 0 = f := by
  funext s
  unfold ow bc
  refine if_neg ?_
  omega
theorem e_paintAll0 {E : PvEnv} (hE : ∀ k, E 11 k = refT 11 k) {d : Nat} {Q : Int → Hp → Prop} {g : Hp} (hg : GeoOK g) (hk : ∀ c : Int, 0 ≤ c → c < 336 → g 12 c = if c < 16 then 0 else -1) : wpS E (d + 3) mX8_paintAll [(2, 11)] g Q = Q 0 (hrow (hrow g 11 (up (g 11) 9 1)) 19 (ow (g 19) 16)) := by
  let G : Nat → Hp := fun k => hrow (hrow g 11 (if k = 0 then g 11 else up (g 11) 9 1)) 19 (ow (g 19) k)
  have g0 : G 0 = g := by
    show hrow (hrow g 11 (g 11)) 19 (ow (g 19) ((0 : Nat) : Int)) = g
    rw [show ((0 : Nat) : Int) = 0 from rfl, ow_0, hrow_self, hrow_self]
  have gG : ∀ k, GeoOK (G k) := fun k c q1 q2 => by
    have := hg c q1 q2
    simp only [G, hrow_at, Int.reduceEq, if_false, reduceIte]
    exact this
  have g12 : ∀ k, G k 12 = g 12 := fun k => by simp only [G, hrow_at, Int.reduceEq, if_false, reduceIte]
  rw [u_X8_paintAll hE]
  have l1 := loop_n (P := fun k => Ws E (d + 2) mX8_paintAll Q 2 [(2, 11), (0, (k : Int))] [] (G k)) 16 (fun k hk' => by
    show Ws E (d + 2) mX8_paintAll Q 2 [(2, 11), (0, (k : Int))] [] (G k) = Ws E (d + 2) mX8_paintAll Q 2 [(2, 11), (0, ((k + 1 : Nat) : Int))] [] (G (k + 1))
    rw [b_X8_paintAll_2 hE, if_pos (by omega), e_w_isThere hE, b2_t ⟨by omega, by rw [g12, hk k (by omega) (by omega), if_pos (by omega)]; decide⟩, if_neg (by decide), e_paint hE (show isN (k : Int) by unfold isN; omega) (gG k), w32_of (by omega) (by omega)]
    have e : hrow (hst (G k) 11 9 1) 19 (pnt (G k 19) k) = G (k + 1) := by
      have e1 : G k 19 = ow (g 19) k := hrow_s _ _ _
      rw [e1, pnt_ow _ (by omega) (by omega)]
      funext a
      simp only [G, hrow_at, hst_at]
      by_cases z : a = 19
      · rw [if_pos z, if_pos z]; rfl
      · rw [if_neg z, if_neg z, if_neg z]
        by_cases y : a = 11
        · rw [if_pos y, if_pos y, if_neg (by omega)]
          simp only [Int.reduceEq, if_false, if_true, reduceIte]
          rw [if_neg (by omega : ¬ k + 1 = 0)]
          by_cases x : k = 0
          · rw [if_pos x]
          · rw [if_neg x]
            funext i
            simp only [up_at]
            repeat' split
            all_goals rfl
        · rw [if_neg y, if_neg y, if_neg y]
    rw [e]
    rfl)
  have l2 := loop_from (P := fun k => Ws E (d + 2) mX8_paintAll Q 2 [(2, 11), (0, (k : Int))] [] (G 16)) 16 336 (by decide) (fun k h1 h2 => by
    show Ws E (d + 2) mX8_paintAll Q 2 [(2, 11), (0, (k : Int))] [] (G 16) = Ws E (d + 2) mX8_paintAll Q 2 [(2, 11), (0, ((k + 1 : Nat) : Int))] [] (G 16)
    rw [b_X8_paintAll_2 hE, if_pos (by omega), e_w_isThere hE, b2_f (fun z => z.2 (by rw [g12, hk k (by omega) (by omega), if_neg (by omega)])), if_pos rfl, w32_of (by omega) (by omega)]
    rfl)
  rw [g0] at l1
  refine l1.trans (l2.trans ?_)
  show Ws E (d + 2) mX8_paintAll Q 2 [(2, 11), (0, ((336 : Nat) : Int))] [] (G 16) = _
  rw [b_X8_paintAll_2 hE, if_neg (by decide)]
  rfl

def lK (k : Int) : Int → Int := fun i => if 0 ≤ i ∧ i < k then (if i < 16 then 0 else -1) else 0
def lX (k : Int) : Int → Int := fun i => if 0 ≤ i ∧ i < k then gx i else 0
def lY (k : Int) : Int → Int := fun i => if 0 ≤ i ∧ i < k then gy i else 0
def lW (k : Int) : Int → Int := fun i => if 0 ≤ i ∧ i < k then gw i else 0
def lG (g : Hp) (k : Int) : Hp := hrow (hrow (hrow (hrow g 12 (lK k)) 16 (lX k)) 17 (lY k)) 18 (lW k)
theorem lG_step (g : Hp) {k : Int} (h0 : 0 ≤ k) : hst (hst (hst (hst (lG g k) 18 k (gw k)) 16 k (gx k)) 17 k (gy k)) 12 k (if k < 16 then 0 else -1) = lG g (k + 1) := by
  have u : ∀ (p : Int → Int) (f : Int → Int), f = (fun i => if 0 ≤ i ∧ i < k then p i else 0) → ∀ v : Int, v = p k → up f k v = fun i => if 0 ≤ i ∧ i < k + 1 then p i else 0 := fun p f hf v hv => by
    subst hf
    subst hv
    funext i
    simp only [up_at]
    by_cases z : i = k
    · rw [if_pos z, if_pos (by omega), z]
    · rw [if_neg z]
      by_cases y : 0 ≤ i ∧ i < k
      · rw [if_pos y, if_pos (by omega)]
      · rw [if_neg y, if_neg (by omega)]
  have e1 := u (fun i => if i < 16 then 0 else -1) (lK k) rfl _ rfl
  have e2 := u gx (lX k) rfl _ rfl
  have e3 := u gy (lY k) rfl _ rfl
  have e4 := u gw (lW k) rfl _ rfl
  funext a
  unfold lG
  simp only [hst_at, hrow_at, Int.reduceEq, if_false, if_true, reduceIte]
  by_cases z1 : a = 12
  · subst z1
    simp only [Int.reduceEq, if_false, if_true, reduceIte]
    exact e1
  · rw [if_neg z1, if_neg z1]
    by_cases z2 : a = 17
    · subst z2
      simp only [Int.reduceEq, if_false, if_true, reduceIte]
      exact e3
    · rw [if_neg z2, if_neg z2]
      by_cases z3 : a = 16
      · subst z3
        simp only [Int.reduceEq, if_false, if_true, reduceIte]
        exact e2
      · rw [if_neg z3, if_neg z3]
        by_cases z4 : a = 18
        · subst z4
          simp only [Int.reduceEq, if_false, if_true, reduceIte]
          exact e4
        · rw [if_neg z4, if_neg z4, if_neg z4, if_neg z2, if_neg z3, if_neg z1]
theorem j_X8 {E : PvEnv} {Lx dd : Nat} {h : Hp} {Q : Int → Hp → Prop} (hE : HM E Lx) (hn : h (-3) 0 = 12) (hq : ∀ g : Hp, Mk h g 11 12 20 2608 (up (up (up (up (up (up (up (up (up (h 11) 0 12) 1 13) 2 14) 3 15) 4 16) 5 17) 6 18) 7 19) 9 1) (hrow (hrow (hrow (hrow (hrow (fun _ _ => 0) 12 (lK 336)) 16 (lX 336)) 17 (lY 336)) 18 (lW 336)) 19 (ow (fun _ => 0) 16)) → Q 0 g) : wpM E (dd + 4) mX8_init [(2, 11)] h Q := by
  have hc := wpM_mono E (dd + 3)
  obtain ⟨s, s3, s4⟩ := sl_h (M := mX8_init) (h := h) (by decide) hE
  have m1 : mMc mX8_init = 8 := rfl
  have m2 : mMs mX8_init = 2608 := rfl
  show WpC (setLim E mX8_init h) (dd + 3) mX8_init (wpM E (dd + 3)) (postM mX8_init h Q) 0 [(2, 11), (9, 0)] [] h
  rw [m1, hn] at s3
  rw [m2] at s4
  generalize setLim E mX8_init h = F at *
  refine y_obj hc dX8_init_0 dX8_init_1 (M' := mX9_init) rfl (by decide) (by omega) (by decide) ?_
  have K := Mk.rf hn (by decide : (0 : Int) ≤ 11) (by decide) (fun _ _ => 0)
  refine y_row (Lx := Lx) hc K (ty := .int) (n := 336) dX8_init_4 dX8_init_5 rfl (fun _ _ _ q => q) dX8_init_8 dX8_init_10 (pc' := 13) rfl sk_12 (by decide) sn_12 (by decide) s (by decide) (by omega) (by omega) fl_8_9 sk_11 (Or.inr ⟨rfl, rfl, rfl⟩) rfl (m' := 13) rfl (b' := 336) rfl ?_
  clear K
  intro g1 K
  refine y_row (Lx := Lx) hc K (ty := .int) (n := 336) dX8_init_13 dX8_init_14 rfl (fun _ _ _ q => q) dX8_init_17 dX8_init_19 (pc' := 22) rfl sk_13 (by decide) sn_13 (by decide) s (by decide) (by omega) (by omega) fl_8_15 sk_11 (Or.inr ⟨rfl, rfl, rfl⟩) rfl (m' := 14) rfl (b' := 672) rfl ?_
  clear K
  intro g2 K
  refine y_row (Lx := Lx) hc K (ty := .int) (n := 336) dX8_init_22 dX8_init_23 rfl (fun _ _ _ q => q) dX8_init_26 dX8_init_28 (pc' := 31) rfl sk_14 (by decide) sn_14 (by decide) s (by decide) (by omega) (by omega) fl_8_18 sk_11 (Or.inr ⟨rfl, rfl, rfl⟩) rfl (m' := 15) rfl (b' := 1008) rfl ?_
  clear K
  intro g3 K
  refine y_row (Lx := Lx) hc K (ty := .int) (n := 336) dX8_init_31 dX8_init_32 rfl (fun _ _ _ q => q) dX8_init_35 dX8_init_37 (pc' := 40) rfl sk_15 (by decide) sn_15 (by decide) s (by decide) (by omega) (by omega) fl_8_21 sk_11 (Or.inr ⟨rfl, rfl, rfl⟩) rfl (m' := 16) rfl (b' := 1344) rfl ?_
  clear K
  intro g4 K
  refine y_row (Lx := Lx) hc K (ty := .int) (n := 336) dX8_init_40 dX8_init_41 rfl (fun _ _ _ q => q) dX8_init_44 dX8_init_46 (pc' := 49) rfl sk_16 (by decide) sn_16 (by decide) s (by decide) (by omega) (by omega) fl_8_24 sk_11 (Or.inr ⟨rfl, rfl, rfl⟩) rfl (m' := 17) rfl (b' := 1680) rfl ?_
  clear K
  intro g5 K
  refine y_row (Lx := Lx) hc K (ty := .int) (n := 336) dX8_init_49 dX8_init_50 rfl (fun _ _ _ q => q) dX8_init_53 dX8_init_55 (pc' := 58) rfl sk_17 (by decide) sn_17 (by decide) s (by decide) (by omega) (by omega) fl_8_27 sk_11 (Or.inr ⟨rfl, rfl, rfl⟩) rfl (m' := 18) rfl (b' := 2016) rfl ?_
  clear K
  intro g6 K
  refine y_row (Lx := Lx) hc K (ty := .int) (n := 336) dX8_init_58 dX8_init_59 rfl (fun _ _ _ q => q) dX8_init_62 dX8_init_64 (pc' := 67) rfl sk_18 (by decide) sn_18 (by decide) s (by decide) (by omega) (by omega) fl_8_30 sk_11 (Or.inr ⟨rfl, rfl, rfl⟩) rfl (m' := 19) rfl (b' := 2352) rfl ?_
  clear K
  intro g7 K
  refine y_row (Lx := Lx) hc K (ty := .int) (n := 256) dX8_init_67 dX8_init_68 rfl (fun _ _ _ q => q) dX8_init_71 dX8_init_73 (pc' := 76) rfl sk_19 (by decide) sn_19 (by decide) s (by decide) (by omega) (by omega) fl_8_33 sk_11 (Or.inr ⟨rfl, rfl, rfl⟩) rfl (m' := 20) rfl (b' := 2608) rfl ?_
  clear K
  intro g8 K
  have hP : ∀ kk, EP Lx 11 11 kk = refT 11 kk := EP_o (by decide)
  refine W_switch (E := EP Lx 11) (Lx := Lx) (Q := postM mX8_init h Q) (EP_still (by decide)) rfl s.1 hE.1 (by rw [K.1.2.1]; decide) (EP_refs K.2.2.2.1 [(11, 0, 12), (11, 1, 13), (11, 2, 14), (11, 3, 15), (11, 4, 16), (11, 5, 17), (11, 6, 18), (11, 7, 19)] (by decide) ?_) (fun _ _ _ _ _ q => q) ?_
  · intro q hq'
    simp only [List.mem_cons, List.not_mem_nil, or_false] at hq'
    rcases hq' with rfl | rfl | rfl | rfl | rfl | rfl | rfl | rfl
    all_goals rfl
  rw [b_X8_init_e_76 hP]
  have z : ∀ r : Int, 12 ≤ r → r < 20 → g8 r = fun _ => 0 := fun r q1 q2 => K.2.2.1 r q1 q2
  have l := loop_n (P := fun i => Ws (EP Lx 11) (dd + 3) mX8_init (postM mX8_init h Q) 78 [(2, 11), (0, (i : Int))] [] (lG g8 i)) 336 (fun i hi => by
    show Ws (EP Lx 11) (dd + 3) mX8_init (postM mX8_init h Q) 78 [(2, 11), (0, (i : Int))] [] (lG g8 i) = Ws (EP Lx 11) (dd + 3) mX8_init (postM mX8_init h Q) 78 [(2, 11), (0, ((i + 1 : Nat) : Int))] [] (lG g8 ((i + 1 : Nat) : Int))
    have hp : (16 : Int) ≤ i → lG g8 i 16 (gp i) = gx (gp i) ∧ lG g8 i 17 (gp i) = gy (gp i) := fun q => by
      have q1 : 0 ≤ gp (i : Int) ∧ gp (i : Int) < i := by unfold gp; omega
      unfold lG
      simp only [hrow_at, Int.reduceEq, if_false, if_true, reduceIte]
      exact ⟨if_pos q1, if_pos q1⟩
    rw [b_X8_init_e_78 hP, if_pos (by omega), e_layOut hP (show isN (i : Int) by unfold isN; omega) hp, and_tl (by omega), and_tl (by omega), w32_of (by omega) (by omega)]
    have e := lG_step g8 (k := (i : Int)) (by omega)
    rw [show ((i + 1 : Nat) : Int) = (i : Int) + 1 from rfl, ← e]
    by_cases q : (i : Int) < 16
    · rw [if_pos q, if_pos q]
    · rw [if_neg q, if_neg q])
  have l0 : lG g8 ((0 : Nat) : Int) = g8 := by
    have y : ∀ p : Int → Int, (fun i : Int => if 0 ≤ i ∧ i < ((0 : Nat) : Int) then p i else 0) = fun _ => 0 := fun p => funext fun i => if_neg (by omega)
    unfold lG lK lX lY lW
    rw [y, y, y, y, ← z 12 (by decide) (by decide), hrow_self]
    rw [show g8 12 = g8 16 from (z 12 (by decide) (by decide)).trans (z 16 (by decide) (by decide)).symm, hrow_self, show g8 16 = g8 17 from (z 16 (by decide) (by decide)).trans (z 17 (by decide) (by decide)).symm, hrow_self, show g8 17 = g8 18 from (z 17 (by decide) (by decide)).trans (z 18 (by decide) (by decide)).symm, hrow_self]
  rw [l0] at l
  refine l.mpr ?_
  show Ws (EP Lx 11) (dd + 3) mX8_init (postM mX8_init h Q) 78 [(2, 11), (0, ((336 : Nat) : Int))] [] (lG g8 ((336 : Nat) : Int))
  rw [b_X8_init_e_78 hP, if_neg (by decide)]
  rw [e_paintAll0 hP (fun c q1 q2 => ?_) (fun c q1 q2 => ?_)]
  · have K' := (((((K.re (r := 12) (by decide) (by decide) (lK 336)).re (r := 16) (by decide) (by decide) (lX 336)).re (r := 17) (by decide) (by decide) (lY 336)).re (r := 18) (by decide) (by decide) (lW 336)).obj (F' := up (g8 11) 9 1)).re (r := 19) (by decide) (by decide) (ow (fun _ => 0) 16)
    have e1 : lG g8 ((336 : Nat) : Int) 11 = g8 11 := rfl
    have e2 : lG g8 ((336 : Nat) : Int) 19 = fun _ => 0 := z 19 (by decide) (by decide)
    rw [e1, e2]
    have e3 := K.2.2.2.1
    rw [e3] at K'
    rw [e3]
    exact y_post (by decide) K' (by rw [m1]; rfl) (by rw [m2]; rfl) (hq _ K')
  · exact ⟨if_pos ⟨q1, q2⟩, if_pos ⟨q1, q2⟩, if_pos ⟨q1, q2⟩⟩
  · exact if_pos ⟨q1, q2⟩
