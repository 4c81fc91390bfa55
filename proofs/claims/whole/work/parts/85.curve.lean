/-! curve -/
def sqX (p : Int) : Nat → Int
  | 0 => 0
  | k + 1 => i32op (fun x y => x ||| y) (sqX p k) (i32op (fun x y => x <<< (y &&& 31)) (i32op (fun x y => x &&& y) (i32op (fun x y => x >>> (y &&& 31)) p (w32 (2 * (k : Int)))) 1) k)
def sqY (p : Int) : Nat → Int
  | 0 => 0
  | k + 1 => i32op (fun x y => x ||| y) (sqY p k) (i32op (fun x y => x <<< (y &&& 31)) (i32op (fun x y => x &&& y) (i32op (fun x y => x >>> (y &&& 31)) p (w32 (w32 (2 * (k : Int)) + 1))) 1) k)
theorem sq_fin : ∀ p : Fin 256, sqX (p.val : Nat) 4 = zx (p.val : Nat) ∧ sqY (p.val : Nat) 4 = zy (p.val : Nat) := by decide +kernel
theorem e_m_squareAt {E : PvEnv} {d : Nat} {Q : Int → Hp → Prop} {h : Hp} {p : Nat} (hp : p < 256) : wpS E (d + 1) mX10_squareAt [(0, (p : Int))] h Q = Q (16 * zy p + zx p) h := by
  rw [u_X10_squareAt]
  have l := loop_n (P := fun k => Ws E d mX10_squareAt Q 6 [(0, (p : Int)), (0, sqX p k), (0, sqY p k), (0, (k : Int))] [] h) 4 (by
    intro k hk
    rw [b_X10_squareAt_6, if_pos (by omega), w32_n1 (by omega)]
    rfl)
  refine l.trans ?_
  show Ws E d mX10_squareAt Q 6 [(0, (p : Int)), (0, sqX (p : Nat) 4), (0, sqY (p : Nat) 4), (0, ((4 : Nat) : Int))] [] h = _
  have zb := zx_b p
  have zc := zy_b p
  rw [b_X10_squareAt_6, if_neg (by decide), (sq_fin ⟨p, hp⟩).1, (sq_fin ⟨p, hp⟩).2]
  show Q (w32 (w32 (16 * zy p) + zx p)) h = _
  rw [w32_of (x := 16 * zy p) (by omega) (by omega), w32_of (by omega) (by omega)]
theorem cnt_at {p : Int → Prop} [DecidablePred p] {i : Int} (h0 : 0 ≤ i) : ∀ {N : Nat}, i < cnt p N → ∃ q : Nat, q < N ∧ p q ∧ cnt p q = i
  | 0, h => by
    have h : i < 0 := h
    omega
  | N + 1, h => by
    by_cases z : p N
    · rw [cnt_t z] at h
      by_cases y : cnt p N = i
      · exact ⟨N, by omega, z, y⟩
      · obtain ⟨q, q1, q2, q3⟩ := cnt_at (p := p) h0 (N := N) (by omega)
        exact ⟨q, by omega, q2, q3⟩
    · rw [cnt_f z] at h
      obtain ⟨q, q1, q2, q3⟩ := cnt_at (p := p) h0 (N := N) h
      exact ⟨q, by omega, q2, q3⟩
theorem ord_at {K O : Int → Int} {m : Int} {V : Int → Int} (P : Prt K O) (h : OrdOK O m V) {i : Int} (h0 : 0 ≤ i) (h1 : i < m) : isN (V i) ∧ K (V i) ≠ -1 := by
  rw [h.1] at h1
  obtain ⟨q, q1, q2, q3⟩ := cnt_at h0 h1
  have e := h.2 q q1 q2
  rw [q3] at e
  have zb := zx_b q
  have zc := zy_b q
  have r := P.1 (16 * zy q + zx q) (by omega) (by omega)
  rw [e]
  exact ⟨r.1, r.2.1⟩
theorem ord_eq {O : Int → Int} {m m' : Int} {V V' : Int → Int} (h : OrdOK O m V) (h' : OrdOK O m' V') : m' = m ∧ ∀ i : Int, 0 ≤ i → i < m → V' i = V i := by
  refine ⟨h'.1.trans h.1.symm, fun i h0 h1 => ?_⟩
  rw [h.1] at h1
  obtain ⟨q, q1, q2, q3⟩ := cnt_at h0 h1
  have e1 := h.2 q q1 q2
  have e2 := h'.2 q q1 q2
  rw [q3] at e1 e2
  rw [e1, e2]
theorem ord_m {O : Int → Int} {m : Int} {V : Int → Int} (h : OrdOK O m V) : 0 ≤ m ∧ m ≤ 256 := by
  rw [h.1]
  exact cnt_b (crn O) 256
theorem crn_c {O O' : Int → Int} (e : ∀ s : Int, 0 ≤ s → s < 256 → O' s = O s) (p : Int) : crn O' p ↔ crn O p := by
  have zb := zx_b p
  have zc := zy_b p
  unfold crn
  rw [e _ (by omega) (by omega)]
theorem ord_c {O O' : Int → Int} {m : Int} {V : Int → Int} (e : ∀ s : Int, 0 ≤ s → s < 256 → O' s = O s) (h : OrdOK O' m V) : OrdOK O m V := by
  have ec : ∀ k : Nat, cnt (crn O') k = cnt (crn O) k := fun k => cnt_c k (fun j _ => crn_c e j)
  refine ⟨by rw [h.1, ec], fun p hp hc => ?_⟩
  have zb := zx_b p
  have zc := zy_b p
  rw [← ec, h.2 p hp ((crn_c e p).mpr hc), e _ (by omega) (by omega)]
section CRV
variable {n : Int} {d : Nat} {h : Hp}
theorem e_m_setCurve {E : PvEnv} (hE : ∀ k, E 50 k = refT 50 k) (hS : ∀ s : Int, 0 ≤ s → s < 256 → isN (h 62 s)) : ∃ (m : Int) (V : Int → Int), OrdOK (h 62) m V ∧ ∀ Q, wpS E (d + 3) mX10_setCurve [(2, 50)] h Q = Q 0 (hrow (hst h 50 47 m) 75 V) := by
  obtain ⟨s, i1, e1⟩ := loop_e (σ := (Int × (Int → Int)) × PV × PV) (Inv := fun k s => InO (h 62) k s.1.1 s.1.2) (X := fun Q k s => Ws E (d + 2) mX10_setCurve Q 7 [(2, 50), (0, (k : Int)), s.2.1, s.2.2] [] (hrow (hst h 50 47 s.1.1) 75 s.1.2)) 256 ((0, h 75), (9, 0), (9, 0)) ⟨rfl, fun q hq => absurd hq (Nat.not_lt_zero _)⟩ (by
    rintro k ⟨⟨m, V1⟩, v3, v4⟩ hk I
    have I : InO (h 62) k m V1 := I
    have zb := zx_b k
    have zc := zy_b k
    have q := hS (16 * zy k + zx k) (by omega) (by omega)
    have bx := gx_b q
    have bY := gy_b q
    have bw := gw_b (h 62 (16 * zy k + zx k))
    have mb := cnt_b (crn (h 62)) k
    have me := I.1
    have x62 : ∀ {m V}, hrow (hst h 50 47 m) 75 V 62 = h 62 := rfl
    have x47 : ∀ {m : Int} {V}, hrow (hst h 50 47 m) 75 V 50 47 = m := fun {m V} => by rw [hrow_n _ _ (by decide), hst_s]
    have w75 : ∀ i v, hst (hrow (hst h 50 47 m) 75 V1) 75 i v = hrow (hst h 50 47 m) 75 (up V1 i v) := fun i v => hst_rr _ _ _ _ _
    have w47 : ∀ {V : Int → Int} (v : Int), hst (hrow (hst h 50 47 m) 75 V) 50 47 v = hrow (hst h 50 47 v) 75 V := fun {V} v => by rw [hst_hn _ _ _ _ (by decide), hst_2]
    have st : ∀ Q, Ws E (d + 2) mX10_setCurve Q 7 [(2, 50), (0, (k : Int)), v3, v4] [] (hrow (hst h 50 47 m) 75 V1) = if crn (h 62) k then Ws E (d + 2) mX10_setCurve Q 7 [(2, 50), (0, ((k + 1 : Nat) : Int)), (0, 16 * zy k + zx k), (0, h 62 (16 * zy k + zx k))] [] (hrow (hst h 50 47 (m + 1)) 75 (up V1 m (h 62 (16 * zy k + zx k)))) else Ws E (d + 2) mX10_setCurve Q 7 [(2, 50), (0, ((k + 1 : Nat) : Int)), (0, 16 * zy k + zx k), (0, h 62 (16 * zy k + zx k))] [] (hrow (hst h 50 47 m) 75 V1) := by
      intro Q
      rw [b_X10_setCurve_7 hE, if_pos (by omega), e_m_squareAt hk, and_tl (by omega), x62, e_m_topOf q, e_m_leftOf q, x47, and_tl (by omega), w75, x47, w47, w32_n1 (by omega), w32_of (x := m + 1) (by omega) (by omega), w32_of (x := 16 * gy (h 62 (16 * zy k + zx k))) (by omega) (by omega), w32_of (x := 16 * gy (h 62 (16 * zy k + zx k)) + gx (h 62 (16 * zy k + zx k))) (by omega) (by omega)]
      by_cases y : crn (h 62) k
      · rw [if_pos y, if_pos (by unfold crn at y; omega)]
      · rw [if_neg y, if_neg (fun w => y (by unfold crn; omega))]
    by_cases hc : crn (h 62) k
    · exact ⟨((m + 1, up V1 m (h 62 (16 * zy k + zx k))), (0, 16 * zy k + zx k), (0, h 62 (16 * zy k + zx k))), InO_t I hc, fun Q => (st Q).trans (if_pos hc)⟩
    · exact ⟨((m, V1), (0, 16 * zy k + zx k), (0, h 62 (16 * zy k + zx k))), InO_f I hc, fun Q => (st Q).trans (if_neg hc)⟩)
  refine ⟨s.1.1, s.1.2, i1, fun Q => ?_⟩
  have e0 : hst h 50 47 0 = hrow (hst h 50 47 0) 75 (h 75) := by
    have := hrow_self (hst h 50 47 0) 75
    rw [hst_off h (by decide)] at this
    exact this.symm
  rw [u_X10_setCurve hE, e0]
  refine (e1 Q).trans ?_
  show Ws E (d + 2) mX10_setCurve Q 7 [(2, 50), (0, ((256 : Nat) : Int)), s.2.1, s.2.2] [] _ = _
  rw [b_X10_setCurve_7 hE, if_neg (by decide)]
theorem Cpl_47 {m : Int} {V : Int → Int} (hC : Cpl h) : Cpl (hrow (hst h 50 47 m) 75 V) := by
  unfold Cpl
  simp only [hst_at, hrow_at, up_at, Int.reduceEq, if_true, if_false, reduceIte]
  exact hC
theorem p_curve {i : Int} : Pr n mX9_curve mX10_curve [(0, i)] := by
  intro h hC
  by_cases z : i < 0
  · exact ⟨-1, h, h, fun Q => by rw [u_X9_curve, if_pos z], fun Q => by rw [u_X10_curve (EF_50 n), if_pos z], hC⟩
  · obtain ⟨h', r1, r2, r3, r4⟩ := e_refresh (n := n) hC
    have hC' := r2
    obtain ⟨c1, c2, c3, c4, c5, c6, c7, c8, c9, c10, c11, c12, c13, c14, c15⟩ := r2
    have o1 := (c8.2 r3).2
    obtain ⟨m, V, o2, e2⟩ := e_m_setCurve (d := 5) (h := h') (EF_50 n) (cw_S c7)
    obtain ⟨em, eV⟩ := ord_eq o1 (ord_c c7.2.2.2 o2)
    have mb := ord_m o1
    refine ⟨if i < h' 20 6 then h' 25 i else -9, h', hrow (hst h' 50 47 m) 75 V, fun Q => ?_, fun Q => ?_, Cpl_47 hC'⟩
    · rw [u_X9_curve, if_neg z, r1]
      by_cases y : i < h' 20 6
      · rw [if_pos y, if_pos y, u_X5_cellAt, if_neg z, if_pos y, if_pos (by omega), and_tl (by omega)]
      · rw [if_neg y, if_neg y]
    · rw [u_X10_curve (EF_50 n), if_neg z, e2]
      have x47 : hrow (hst h' 50 47 m) 75 V 50 47 = m := by rw [hrow_n _ _ (by decide), hst_s]
      rw [x47, hrow_s, em]
      by_cases y : i < h' 20 6
      · rw [if_pos y, if_pos y, and_tl (by omega), eV i (by omega) y]
      · rw [if_neg y, if_neg y]
end CRV
