/-! the layout made anew -/
abbrev ebI (a : Int) : Int := i32op (fun x y => x ||| y) (i32op (fun x y => x ||| y) (i32op (fun x y => x ||| y) (i32op (fun x y => x &&& y) a 1) (i32op (fun x y => x &&& y) (i32op (fun x y => x >>> (y &&& 31)) a 1) 2)) (i32op (fun x y => x &&& y) (i32op (fun x y => x >>> (y &&& 31)) a 2) 4)) (i32op (fun x y => x &&& y) (i32op (fun x y => x >>> (y &&& 31)) a 3) 8)
theorem eb_fin : ∀ p : Fin 256, ebI (p.val : Nat) = zx (p.val : Nat) ∧ ebI (i32op (fun x y => x >>> (y &&& 31)) (p.val : Nat) 1) = zy (p.val : Nat) := by decide +kernel
theorem zx_b (p : Int) : 0 ≤ zx p ∧ zx p < 16 := by unfold zx; omega
theorem zy_b (p : Int) : 0 ≤ zy p ∧ zy p < 16 := by unfold zy; omega
theorem e_evenBits {E : PvEnv} {d : Nat} {Q : Int → Hp → Prop} {h : Hp} {p : Nat} (hp : p < 256) : wpS E (d + 1) mX5_evenBits [(0, (p : Int))] h Q = Q (zx p) h := by
  rw [u_X5_evenBits]
  show Q (ebI (p : Nat)) h = _
  rw [(eb_fin ⟨p, hp⟩).1]
theorem e_evenBits1 {E : PvEnv} {d : Nat} {Q : Int → Hp → Prop} {h : Hp} {p : Nat} (hp : p < 256) : wpS E (d + 1) mX5_evenBits [(0, i32op (fun x y => x >>> (y &&& 31)) (p : Int) 1)] h Q = Q (zy p) h := by
  rw [u_X5_evenBits]
  show Q (ebI (i32op (fun x y => x >>> (y &&& 31)) (p : Nat) 1)) h = _
  rw [(eb_fin ⟨p, hp⟩).2]
def InO (O : Int → Int) (p : Nat) (m : Int) (V : Int → Int) : Prop := m = cnt (crn O) p ∧ ∀ q : Nat, q < p → crn O q → V (cnt (crn O) q) = O (16 * zy q + zx q)
theorem InO_t {O : Int → Int} {p : Nat} {m : Int} {V : Int → Int} (h : InO O p m V) (hc : crn O p) : InO O (p + 1) (m + 1) (up V m (O (16 * zy p + zx p))) := by
  refine ⟨by rw [cnt_t hc, h.1], fun q hq hc' => ?_⟩
  by_cases z : q = p
  · subst z
    rw [h.1, up_s]
  · have : cnt (crn O) q ≠ m := by
      have m1 := cnt_mono (p := crn O) (show q + 1 ≤ p by omega)
      rw [cnt_t hc'] at m1
      rw [h.1]
      omega
    rw [up_n _ _ this]
    exact h.2 q (by omega) hc'
theorem InO_f {O : Int → Int} {p : Nat} {m : Int} {V : Int → Int} (h : InO O p m V) (hc : ¬ crn O p) : InO O (p + 1) m V := by
  refine ⟨by rw [cnt_f hc, h.1], fun q hq hc' => ?_⟩
  have : q ≠ p := fun e => hc (by rw [← e]; exact hc')
  exact h.2 q (by omega) hc'
section LAY
variable {n : Int} {d : Nat} {h : Hp}
theorem e_lineUp {K r11 r20 F B D R V : Int → Int} (hg : GeoOK h) (P : Prt K (h 19)) : ∃ (m : Int) (V' : Int → Int), OrdOK (h 19) m V' ∧ ∀ Q, wpS (EF n) (d + 3) mX5_lineUp [(2, 20), (2, 11)] (vL h r11 r20 F B D R V) Q = Q 0 (vL h r11 (up r20 6 m) F B D R V') := by
  obtain ⟨s, i1, e1⟩ := loop_e (σ := (Int × (Int → Int)) × PV × PV × PV) (Inv := fun k s => InO (h 19) k s.1.1 s.1.2) (X := fun Q k s => Ws (EF n) (d + 2) mX5_lineUp Q 7 [(2, 20), (2, 11), (0, (k : Int)), s.2.1, s.2.2.1, s.2.2.2] [] (vL h r11 (up r20 6 s.1.1) F B D R s.1.2)) 256 ((0, V), (9, 0), (9, 0), (9, 0)) ⟨rfl, fun q hq => absurd hq (Nat.not_lt_zero _)⟩ (by
    rintro k ⟨⟨m, V1⟩, v3, v4, v5⟩ hk I
    have I : InO (h 19) k m V1 := I
    have zb := zx_b k
    have zc := zy_b k
    have q := P.1 (16 * zy k + zx k) (by omega) (by omega)
    have q1 : 0 ≤ h 19 (16 * zy k + zx k) ∧ h 19 (16 * zy k + zx k) < 336 := q.1
    obtain ⟨g1, g2, -⟩ := hg _ q1.1 q1.2
    have mb := cnt_b (crn (h 19)) k
    have me := I.1
    have x19 : ∀ {r20 V}, vL h r11 r20 F B D R V 19 = h 19 := rfl
    have x16 : ∀ {r20 V}, vL h r11 r20 F B D R V 16 = h 16 := rfl
    have x17 : ∀ {r20 V}, vL h r11 r20 F B D R V 17 = h 17 := rfl
    have st : ∀ Q, Ws (EF n) (d + 2) mX5_lineUp Q 7 [(2, 20), (2, 11), (0, (k : Int)), v3, v4, v5] [] (vL h r11 (up r20 6 m) F B D R V1) = if crn (h 19) k then Ws (EF n) (d + 2) mX5_lineUp Q 7 [(2, 20), (2, 11), (0, ((k + 1 : Nat) : Int)), (0, zx k), (0, zy k), (0, h 19 (16 * zy k + zx k))] [] (vL h r11 (up r20 6 (m + 1)) F B D R (up V1 m (h 19 (16 * zy k + zx k)))) else Ws (EF n) (d + 2) mX5_lineUp Q 7 [(2, 20), (2, 11), (0, ((k + 1 : Nat) : Int)), (0, zx k), (0, zy k), (0, h 19 (16 * zy k + zx k))] [] (vL h r11 (up r20 6 m) F B D R V1) := by
      intro Q
      rw [b_X5_lineUp_7, if_pos (by omega), e_evenBits hk, e_evenBits1 hk, e_ownerAt (EF_11 n), if_pos ⟨zb, zc⟩, x19, e_isName, b2_if, if_pos q1, and_tl q1, and_tl q1, x16, x17, g1, g2, vL_r20, up_s, and_tl (by omega), vL_s25, vL_r20, up_s, vL_s20, up_up, w32_n1 (by omega), w32_of (x := m + 1) (by omega) (by omega)]
      by_cases y1 : gx (h 19 (16 * zy k + zx k)) = zx k
      · rw [if_pos y1]
        by_cases y2 : gy (h 19 (16 * zy k + zx k)) = zy k
        · rw [if_pos y2, if_pos ⟨y1, y2⟩]
        · rw [if_neg y2, if_neg (fun w => y2 w.2)]
      · rw [if_neg y1, if_neg (fun w => y1 w.1)]
    by_cases hc : crn (h 19) k
    · refine ⟨((m + 1, up V1 m (h 19 (16 * zy k + zx k))), (0, zx k), (0, zy k), (0, h 19 (16 * zy k + zx k))), InO_t I hc, fun Q => ?_⟩
      exact (st Q).trans (if_pos hc)
    · refine ⟨((m, V1), (0, zx k), (0, zy k), (0, h 19 (16 * zy k + zx k))), InO_f I hc, fun Q => ?_⟩
      exact (st Q).trans (if_neg hc))
  refine ⟨s.1.1, s.1.2, i1, fun Q => ?_⟩
  have e0 : hst (vL h r11 r20 F B D R V) 20 6 0 = vL h r11 (up r20 6 0) F B D R V := vL_s20 6 0
  rw [u_X5_lineUp, e0]
  refine (e1 Q).trans ?_
  show Ws (EF n) (d + 2) mX5_lineUp Q 7 [(2, 20), (2, 11), (0, ((256 : Nat) : Int)), s.2.1, s.2.2.1, s.2.2.2] [] _ = _
  rw [b_X5_lineUp_7, if_neg (by decide)]
theorem NearOK_c {O : Int → Int} {c lo hi L : Int} {B D B' D' : Int → Int} (h : NearOK O c lo hi B D) (hL : hi ≤ L) (e : ∀ k : Int, k < L → B' k = B k ∧ D' k = D k) : NearOK O c lo hi B' D' := by
  obtain ⟨h1, h2, h3⟩ := h
  refine ⟨fun k k1 k2 => ?_, fun k k' k1 k2 k3 k4 q => ?_, fun b hb => ?_⟩
  · rw [(e k (by omega)).1, (e k (by omega)).2]
    exact h1 k k1 k2
  · rw [(e k (by omega)).1, (e k' (by omega)).1] at q
    exact h2 k k' k1 k2 k3 k4 q
  · obtain ⟨k, k1, k2, k3⟩ := h3 b hb
    exact ⟨k, k1, k2, by rw [(e k (by omega)).1]; exact k3⟩
/-- k cells are linked -/
def InL (K O : Int → Int) (k : Nat) (L : Int) (F B D R : Int → Int) : Prop := (0 ≤ L ∧ L ≤ sm (onK K) k) ∧ ∀ c : Nat, c < k → (0 ≤ up F k L c ∧ up F k L c ≤ up F k L (c + 1) ∧ up F k L (c + 1) ≤ L) ∧ (K c ≠ -1 → R c = rm c ∧ NearOK O c (up F k L c) (up F k L (c + 1)) B D)
theorem e_refresh1 (hg : GeoOK h) (P : Prt (h 12) (h 19)) (hr : h 11 9 ≠ 0) : ∃ (L m : Int) (F B D R V : Int → Int), CLay 0 m F B D R V (h 12) (h 19) ∧ ∀ Q, wpS (EF n) (d + 5) mX5_refresh [(2, 20), (2, 11)] h Q = Q 0 (vL h (up (h 11) 9 0) (up (up (h 20) 5 L) 6 m) F B D R V) := by
  obtain ⟨⟨L, F, B, D, R⟩, i1, e1⟩ := loop_e (σ := Int × (Int → Int) × (Int → Int) × (Int → Int) × (Int → Int)) (Inv := fun k s => InL (h 12) (h 19) k s.1 s.2.1 s.2.2.1 s.2.2.2.1 s.2.2.2.2) (X := fun Q k s => Ws (EF n) (d + 4) mX5_refresh Q 20 [(2, 20), (2, 11), (0, (k : Int))] [] (vL h (up (h 11) 9 0) (up (h 20) 5 s.1) s.2.1 s.2.2.1 s.2.2.2.1 s.2.2.2.2 (h 25))) 336 (0, h 21, h 22, h 23, h 24) ⟨⟨Int.le_refl _, Int.le_refl _⟩, fun c hc => absurd hc (Nat.not_lt_zero _)⟩ (by
    rintro k ⟨L, F, B, D, R⟩ hk ⟨I1, I2⟩
    have I1 : 0 ≤ L ∧ L ≤ sm (onK (h 12)) k := I1
    have I2 : ∀ c : Nat, c < k → (0 ≤ up F k L c ∧ up F k L c ≤ up F k L (c + 1) ∧ up F k L (c + 1) ≤ L) ∧ (h 12 c ≠ -1 → R c = rm c ∧ NearOK (h 19) c (up F k L c) (up F k L (c + 1)) B D) := I2
    have b960 := links_960 P
    have mono := sm_mono (f := onK (h 12)) (onK_n (h 12)) (show k + 1 ≤ 336 by omega)
    have ek : sm (onK (h 12)) (k + 1) = sm (onK (h 12)) k + onK (h 12) k := rfl
    have e0 : ∀ Q, Ws (EF n) (d + 4) mX5_refresh Q 20 [(2, 20), (2, 11), (0, (k : Int))] [] (vL h (up (h 11) 9 0) (up (h 20) 5 L) F B D R (h 25)) = if h 12 k ≠ -1 then wpS (EF n) (d + 4) mX5_linkAll [(2, 20), (2, 11), (0, (k : Int))] (vL h (up (h 11) 9 0) (up (h 20) 5 L) (up F k L) B D (up R k 0) (h 25)) (fun r2 h2 => Ws (EF n) (d + 4) mX5_refresh Q 20 [(2, 20), (2, 11), (0, ((k + 1 : Nat) : Int))] [] h2) else Ws (EF n) (d + 4) mX5_refresh Q 20 [(2, 20), (2, 11), (0, ((k + 1 : Nat) : Int))] [] (vL h (up (h 11) 9 0) (up (h 20) 5 L) (up F k L) B D (up R k 0) (h 25)) := by
      intro Q
      have x12 : ∀ {r20 F R}, vL h (up (h 11) 9 0) r20 F B D R (h 25) 12 = h 12 := rfl
      rw [b_X5_refresh_20, if_pos (by omega), and_tl (by omega), and_tl (by omega), vL_r20, up_s, vL_s21, vL_s24, e_w_isThere (EF_11 n), b2_if, x12, w32_n1 (by omega)]
      by_cases z : h 12 (k : Int) = -1
      · rw [if_neg (fun q => q.2 z), if_neg (fun q => q z)]
      · rw [if_pos (show (0 ≤ (k : Int) ∧ (k : Int) < 336) ∧ h 12 (k : Int) ≠ -1 from ⟨by omega, z⟩), if_pos z]
    have fk : ∀ (L' : Int) (c : Nat), c ≤ k → up (up F k L) ((k + 1 : Nat) : Int) L' c = up F k L c := fun L' c hc => up_n _ _ (by omega)
    have fk1 : ∀ (L' : Int), up (up F k L) ((k + 1 : Nat) : Int) L' ((k : Int) + 1) = L' := fun L' => by
      rw [show ((k + 1 : Nat) : Int) = (k : Int) + 1 by omega, up_s]
    by_cases z : h 12 (k : Int) = -1
    · refine ⟨(L, up F k L, B, D, up R k 0), ⟨⟨I1.1, ?_⟩, fun c hc => ?_⟩, fun Q => (e0 Q).trans (if_neg (fun q => q z))⟩
      · show L ≤ sm (onK (h 12)) k + onK (h 12) k
        have := onK_n (h 12) k
        omega
      · show (0 ≤ up (up F k L) ((k + 1 : Nat) : Int) L c ∧ up (up F k L) ((k + 1 : Nat) : Int) L c ≤ up (up F k L) ((k + 1 : Nat) : Int) L ((c : Int) + 1) ∧ up (up F k L) ((k + 1 : Nat) : Int) L ((c : Int) + 1) ≤ L) ∧ (h 12 c ≠ -1 → up R k 0 c = rm c ∧ NearOK (h 19) c (up (up F k L) ((k + 1 : Nat) : Int) L c) (up (up F k L) ((k + 1 : Nat) : Int) L ((c : Int) + 1)) B D)
        by_cases y : c = k
        · subst y
          rw [fk L c (Nat.le_refl _), fk1, up_s]
          exact ⟨⟨I1.1, Int.le_refl _, Int.le_refl _⟩, fun q => absurd z q⟩
        · rw [fk L c (by omega), show (c : Int) + 1 = ((c + 1 : Nat) : Int) by omega, fk L (c + 1) (by omega), up_n R 0 (show (c : Int) ≠ k by omega)]
          exact I2 c (by omega)
    · have hO : onK (h 12) k = onw k := if_neg z
      have hP : L + onw k ≤ 960 := by omega
      obtain ⟨L', B', D', ⟨⟨q1, q2⟩, q3, q4⟩, e2⟩ := e_linkAll (n := n) (d := d) (h := h) (r11 := up (h 11) 9 0) (r20 := h 20) (F := up F k L) (R := R) (V := h 25) (K := h 12) (c := (k : Int)) (F0 := L) (B0 := B) (D0 := D) hg P ⟨by omega, by omega⟩ z (up_s _ _ _) I1.1 hP
      refine ⟨(L', up F k L, B', D', up R k (rm k)), ⟨⟨by omega, ?_⟩, fun c hc => ?_⟩, fun Q => (e0 Q).trans ((if_pos z).trans ?_)⟩
      · show L' ≤ sm (onK (h 12)) k + onK (h 12) k
        omega
      · show (0 ≤ up (up F k L) ((k + 1 : Nat) : Int) L' c ∧ up (up F k L) ((k + 1 : Nat) : Int) L' c ≤ up (up F k L) ((k + 1 : Nat) : Int) L' ((c : Int) + 1) ∧ up (up F k L) ((k + 1 : Nat) : Int) L' ((c : Int) + 1) ≤ L') ∧ (h 12 c ≠ -1 → up R k (rm k) c = rm c ∧ NearOK (h 19) c (up (up F k L) ((k + 1 : Nat) : Int) L' c) (up (up F k L) ((k + 1 : Nat) : Int) L' ((c : Int) + 1)) B' D')
        by_cases y : c = k
        · subst y
          rw [fk L' c (Nat.le_refl _), fk1, up_s, up_s]
          exact ⟨⟨I1.1, q1, Int.le_refl _⟩, fun _ => ⟨rfl, q4⟩⟩
        · rw [fk L' c (by omega), show (c : Int) + 1 = ((c + 1 : Nat) : Int) by omega, fk L' (c + 1) (by omega), up_n R _ (show (c : Int) ≠ k by omega)]
          have I := I2 c (by omega)
          rw [show (c : Int) + 1 = ((c + 1 : Nat) : Int) by omega] at I
          exact ⟨⟨I.1.1, I.1.2.1, by omega⟩, fun q => ⟨(I.2 q).1, NearOK_c (I.2 q).2 I.1.2.2 q3⟩⟩
      · exact e2 _)
  have i1 : InL (h 12) (h 19) 336 L F B D R := i1
  obtain ⟨m, V', o1, o2⟩ := e_lineUp (n := n) (d := d + 1) (K := h 12) (r11 := up (h 11) 9 0) (r20 := up (h 20) 5 L) (F := up F 336 L) (B := B) (D := D) (R := R) (V := h 25) hg P
  have b960 := links_960 P
  refine ⟨L, m, up F 336 L, B, D, R, V', ⟨Or.inl rfl, fun _ => ⟨fun c c0 c1 kc => ?_, o1⟩⟩, fun Q => ?_⟩
  · obtain ⟨c', rfl⟩ : ∃ c' : Nat, c = (c' : Int) := ⟨c.toNat, by omega⟩
    have I := i1.2 c' (by omega)
    have i0 := i1.1
    have I : (0 ≤ up F 336 L c' ∧ up F 336 L c' ≤ up F 336 L (c' + 1) ∧ up F 336 L (c' + 1) ≤ L) ∧ (h 12 c' ≠ -1 → R c' = rm c' ∧ NearOK (h 19) c' (up F 336 L c') (up F 336 L (c' + 1)) B D) := I
    exact ⟨(I.2 kc).1, ⟨I.1.1, I.1.2.1, by omega⟩, (I.2 kc).2⟩
  · have ea : hst (hst h 11 9 0) 20 5 0 = vL h (up (h 11) 9 0) (up (h 20) 5 0) (h 21) (h 22) (h 23) (h 24) (h 25) := by
      have e0 : h = vL h (h 11) (h 20) (h 21) (h 22) (h 23) (h 24) (h 25) := vL_id.symm
      conv => lhs; arg 1; arg 1; rw [e0]
      rw [vL_s11, vL_s20]
    rw [u_X5_refresh, if_neg hr, ea]
    refine (e1 Q).trans ?_
    show Ws (EF n) (d + 4) mX5_refresh Q 20 [(2, 20), (2, 11), (0, ((336 : Nat) : Int))] [] (vL h (up (h 11) 9 0) (up (h 20) 5 L) F B D R (h 25)) = _
    rw [b_X5_refresh_20, if_neg (by decide), and_tl (by decide), vL_r20, up_s, vL_s21, o2]
/-- the class's layout is fresh behind this, and all else as it was -/
theorem e_refresh (hC : Cpl h) : ∃ h' : Hp, (∀ Q, wpS (EF n) 8 mX5_refresh [(2, 20), (2, 11)] h Q = Q 0 h') ∧ Cpl h' ∧ h' 11 9 = 0 ∧ ∀ a : Int, a ≠ 11 → a < 20 ∨ 25 < a → h' a = h a := by
  have hC' := hC
  obtain ⟨c1, c2, c3, c4, c5, c6, c7, c8, c9, c10, c11, c12, c13, c14, c15⟩ := hC
  by_cases z : h 11 9 = 0
  · refine ⟨h, fun Q => ?_, hC', z, fun _ _ _ => rfl⟩
    rw [u_X5_refresh, if_pos z]
  · obtain ⟨L, m, F, B, D, R, V, q1, q2⟩ := e_refresh1 (n := n) (d := 3) c6 c7.2.2.1 z
    refine ⟨_, q2, ?_, rfl, fun a h1 h2 => vL_off h1 (by omega) (by omega) (by omega) (by omega) (by omega) (by omega)⟩
    unfold Cpl
    simp only [vL, up_at, Int.reduceEq, if_true, if_false, reduceIte]
    exact ⟨c1, c2, c3, c4, c5, c6, c7, q1, c9, c10, c11, c12, c13, c14, c15⟩
end LAY
