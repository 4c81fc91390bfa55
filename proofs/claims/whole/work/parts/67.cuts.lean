/-! cuts: which machines lie beside which -/
theorem loop_x {α : Type} {P : α → Nat → Prop} (N : Nat) (v : α) (hs : ∀ v k, k < N → ∃ v', P v k = P v' (k + 1)) : ∃ v', P v 0 = P v' N := by
  have : ∀ k, k ≤ N → ∃ v', P v 0 = P v' k := by
    intro k
    induction k with
    | zero => intro _; exact ⟨v, rfl⟩
    | succ k ih =>
      intro hk
      obtain ⟨v1, e1⟩ := ih (by omega)
      obtain ⟨v2, e2⟩ := hs v1 k (by omega)
      exact ⟨v2, e1.trans e2⟩
  exact this N (Nat.le_refl N)
abbrev orI (a b : Int) : Int := i32op (fun x y => x ||| y) a b
abbrev shI (a b : Int) : Int := i32op (fun x y => x <<< (y &&& 31)) a b
abbrev bitI (v k : Int) : Prop := i32op (fun x y => x &&& y) (i32op (fun x y => x >>> (y &&& 31)) v k) 1 = 1
theorem bit_fin : ∀ v : Fin 64, ∀ b k : Fin 6, (0 ≤ orI (v.val : Nat) (shI 1 (b.val : Nat)) ∧ orI (v.val : Nat) (shI 1 (b.val : Nat)) < 64) ∧ (bitI (orI (v.val : Nat) (shI 1 (b.val : Nat))) (k.val : Nat) ↔ bitI (v.val : Nat) (k.val : Nat) ∨ k = b) := by decide +kernel
theorem bit_z : ∀ k : Fin 6, ¬ bitI 0 (k.val : Nat) := by decide +kernel
theorem bit_or {v b : Int} (hv : 0 ≤ v ∧ v < 64) (hb : 0 ≤ b ∧ b < 6) : (0 ≤ orI v (shI 1 b) ∧ orI v (shI 1 b) < 64) ∧ ∀ k : Int, 0 ≤ k → k < 6 → (bitI (orI v (shI 1 b)) k ↔ bitI v k ∨ k = b) := by
  have ev : v = ((v.toNat : Nat) : Int) := by omega
  have eb : b = ((b.toNat : Nat) : Int) := by omega
  refine ⟨?_, fun k k0 k1 => ?_⟩
  · have := (bit_fin ⟨v.toNat, by omega⟩ ⟨b.toNat, by omega⟩ ⟨0, by decide⟩).1
    rw [ev, eb]
    exact this
  · have ek : k = ((k.toNat : Nat) : Int) := by omega
    have := (bit_fin ⟨v.toNat, by omega⟩ ⟨b.toNat, by omega⟩ ⟨k.toNat, by omega⟩).2
    rw [ev, eb, ek]
    refine this.trans (or_congr Iff.rfl ?_)
    constructor
    · intro z
      have := congrArg Fin.val z
      simp only at this
      omega
    · intro z
      apply Fin.ext
      show k.toNat = b.toNat
      omega
theorem bit_0 {k : Int} (h : 0 ≤ k ∧ k < 6) : ¬ bitI 0 k := by
  have e : k = ((k.toNat : Nat) : Int) := by omega
  have := bit_z ⟨k.toNat, by omega⟩
  rw [e]
  exact this
theorem e_isIn {E : PvEnv} {d : Nat} {Q : Int → Hp → Prop} {h : Hp} {s m : Int} : wpS E (d + 1) mX0_isIn [(0, s), (0, m)] h Q = Q (b2 (bitI s m)) h := by
  rw [u_X0_isIn]
  by_cases z : bitI s m
  · rw [if_pos z, b2_t z]
  · rw [if_neg z, b2_f z]
/-- two machines meet -/
def mtB (B : Int → Int) (a b : Int) : Int → Int := if a = b then B else up (up B a (orI (B a) (shI 1 b))) b (orI (up B a (orI (B a) (shI 1 b)) b) (shI 1 a))
def mtN (a b : Int) : Int := if a = b then 0 else 1
theorem e_meet {n : Int} {d : Nat} {Q : Int → Hp → Prop} {h : Hp} {B : Int → Int} {a b : Int} (ha : 0 ≤ a ∧ a < 6) (hb : 0 ≤ b ∧ b < 6) : wpS (EF n) (d + 2) mX0_meet [(2, 30), (0, a), (0, b)] (hrow h 36 B) Q = Q (mtN a b) (hrow h 36 (mtB B a b)) := by
  rw [u_X0_meet]
  unfold mtN mtB
  by_cases z : a = b
  · rw [if_pos z, if_pos z, if_pos z]
  · rw [if_neg z, if_neg z, if_neg z, e_isMachine, b2_if, if_pos ha, e_isMachine, b2_if, if_pos hb, and_tl ha, and_tl ha, and_tl hb, and_tl hb, hst_rr, hst_rr, hrow_s, hrow_s]
/-- the sides of the first s squares, each to the right and below -/
def lkN (g : Int → Int) : Nat → Int
  | 0 => 0
  | s + 1 => lkN g s + (if (s : Int) % 16 < 15 then mtN (g s) (g (s + 1)) else 0) + (if (s : Int) < 240 then mtN (g s) (g (s + 16)) else 0)
def lkR (g : Int → Int) (B : Int → Int) (s : Int) : Int → Int := if s % 16 < 15 then mtB B (g s) (g (s + 1)) else B
def lkB (g : Int → Int) : Nat → (Int → Int) → (Int → Int)
  | 0, B => B
  | s + 1, B => if (s : Int) < 240 then mtB (lkR g (lkB g s B) s) (g s) (g (s + 16)) else lkR g (lkB g s B) s
theorem mtN_b (a b : Int) : 0 ≤ mtN a b ∧ mtN a b ≤ 1 := by unfold mtN; split <;> omega
theorem lkN_b (g : Int → Int) : ∀ s, 0 ≤ lkN g s ∧ lkN g s ≤ 2 * (s : Int)
  | 0 => ⟨Int.le_refl _, Int.le_refl _⟩
  | s + 1 => by
    have ih := lkN_b g s
    have h1 := mtN_b (g s) (g (s + 1))
    have h2 := mtN_b (g s) (g (s + 16))
    show 0 ≤ lkN g s + (if (s : Int) % 16 < 15 then mtN (g s) (g (s + 1)) else 0) + (if (s : Int) < 240 then mtN (g s) (g (s + 16)) else 0) ∧ lkN g s + (if (s : Int) % 16 < 15 then mtN (g s) (g (s + 1)) else 0) + (if (s : Int) < 240 then mtN (g s) (g (s + 16)) else 0) ≤ 2 * ((s + 1 : Nat) : Int)
    split <;> split <;> omega
def zr6 (B : Int → Int) (k : Int) : Int → Int := fun j => if 0 ≤ j ∧ j < k then 0 else B j
/-- whose each square is -/
abbrev giv (h : Hp) : Int → Int := fun s => h 14 (h 19 s)
theorem e_lookAround {n : Int} {d : Nat} {Q : Int → Hp → Prop} {h : Hp} (hO : ∀ s : Int, 0 ≤ s → s < 256 → isN (h 19 s)) (hG : ∀ c : Int, 0 ≤ c → c < 336 → 0 ≤ h 14 c ∧ h 14 c < 6) : wpS (EF n) (d + 4) mX0_lookAround [(2, 30), (2, 11)] h Q = Q (lkN (giv h) 256) (hrow h 36 (lkB (giv h) 256 (zr6 (h 36) 6))) := by
  have hg : ∀ s : Int, 0 ≤ s → s < 256 → 0 ≤ giv h s ∧ giv h s < 6 := fun s h0 h1 => hG _ (hO s h0 h1).1 (hO s h0 h1).2
  rw [u_X0_lookAround]
  have l0 := loop_n (P := fun k => Ws (EF n) (d + 3) mX0_lookAround Q 4 [(2, 30), (2, 11), (0, 0), (0, (k : Int)), (9, 0), (9, 0)] [] (hrow h 36 (zr6 (h 36) k))) 6 (by
    intro k hk
    have e : up (zr6 (h 36) (k : Int)) k 0 = zr6 (h 36) ((k + 1 : Nat) : Int) := by
      funext j
      unfold up zr6
      by_cases z : j = (k : Int)
      · rw [if_pos z, if_pos (by omega)]
      · rw [if_neg z]
        by_cases w : 0 ≤ j ∧ j < (k : Int)
        · rw [if_pos w, if_pos (by omega)]
        · rw [if_neg w, if_neg (by omega)]
    rw [b_X0_lookAround_4, if_pos (by omega), and_tl (by omega), w32_n1 (by omega), hst_rr, e])
  have e0 : zr6 (h 36) ((0 : Nat) : Int) = h 36 := by
    funext j
    unfold zr6
    exact if_neg (by omega)
  rw [e0, hrow_self] at l0
  refine l0.trans ?_
  rw [b_X0_lookAround_4, if_neg (by decide)]
  have giver : ∀ {x y : Int} {B : Int → Int} {Q : Int → Hp → Prop}, (0 ≤ x ∧ x < 16) ∧ 0 ≤ y ∧ y < 16 → wpS (EF n) (d + 3) mX8_giverAt [(2, 11), (0, x), (0, y)] (hrow h 36 B) Q = Q (giv h (16 * y + x)) (hrow h 36 B) := by
    intro x y B Q ho
    have e19 : hrow h 36 B 19 = h 19 := hrow_n _ _ (by decide)
    have e14 : hrow h 36 B 14 = h 14 := hrow_n _ _ (by decide)
    rw [e_giverAt (EF_11 n) ho (by rw [e19]; exact hO _ (by omega) (by omega)), e14, e19]
  have inner : ∀ (y : Nat) (v : PV), y < 16 → ∃ v', Ws (EF n) (d + 3) mX0_lookAround Q 34 [(2, 30), (2, 11), (0, lkN (giv h) (16 * y)), (0, (y : Int)), (0, 0), v] [] (hrow h 36 (lkB (giv h) (16 * y) (zr6 (h 36) 6))) = Ws (EF n) (d + 3) mX0_lookAround Q 34 [(2, 30), (2, 11), (0, lkN (giv h) (16 * y + 16)), (0, (y : Int)), (0, ((16 : Nat) : Int)), v'] [] (hrow h 36 (lkB (giv h) (16 * y + 16) (zr6 (h 36) 6))) := by
    intro y v hy
    refine loop_x (P := fun v k => Ws (EF n) (d + 3) mX0_lookAround Q 34 [(2, 30), (2, 11), (0, lkN (giv h) (16 * y + k)), (0, (y : Int)), (0, (k : Int)), v] [] (hrow h 36 (lkB (giv h) (16 * y + k) (zr6 (h 36) 6)))) 16 v (fun v k hk => ⟨(0, giv h ((16 * y + k : Nat) : Int)), ?_⟩)
    have hc : ((16 * y + k : Nat) : Int) = 16 * (y : Int) + (k : Int) := by omega
    have hm : ((16 * y + k : Nat) : Int) % 16 = k := by omega
    have hb := lkN_b (giv h) (16 * y + k)
    show _ = Ws (EF n) (d + 3) mX0_lookAround Q 34 [(2, 30), (2, 11), (0, lkN (giv h) (16 * y + k) + (if ((16 * y + k : Nat) : Int) % 16 < 15 then mtN (giv h ((16 * y + k : Nat) : Int)) (giv h (((16 * y + k : Nat) : Int) + 1)) else 0) + (if ((16 * y + k : Nat) : Int) < 240 then mtN (giv h ((16 * y + k : Nat) : Int)) (giv h (((16 * y + k : Nat) : Int) + 16)) else 0)), (0, (y : Int)), (0, ((k + 1 : Nat) : Int)), (0, giv h ((16 * y + k : Nat) : Int))] [] (hrow h 36 (if ((16 * y + k : Nat) : Int) < 240 then mtB (lkR (giv h) (lkB (giv h) (16 * y + k) (zr6 (h 36) 6)) ((16 * y + k : Nat) : Int)) (giv h ((16 * y + k : Nat) : Int)) (giv h (((16 * y + k : Nat) : Int) + 16)) else lkR (giv h) (lkB (giv h) (16 * y + k) (zr6 (h 36) 6)) ((16 * y + k : Nat) : Int)))
    unfold lkR
    generalize lkB (giv h) (16 * y + k) (zr6 (h 36) 6) = B
    generalize lkN (giv h) (16 * y + k) = a at *
    generalize ((16 * y + k : Nat) : Int) = s at *
    have g1 := hg s (by omega) (by omega)
    have m1 := mtN_b (giv h s) (giv h (s + 1))
    have m2 := mtN_b (giv h s) (giv h (s + 16))
    have second : ∀ (a : Int) (B : Int → Int), 0 ≤ a → a ≤ 1000 → Ws (EF n) (d + 3) mX0_lookAround Q 77 [(2, 30), (2, 11), (0, a), (0, (y : Int)), (0, (k : Int)), (0, giv h s)] [] (hrow h 36 B) = Ws (EF n) (d + 3) mX0_lookAround Q 34 [(2, 30), (2, 11), (0, a + (if s < 240 then mtN (giv h s) (giv h (s + 16)) else 0)), (0, (y : Int)), (0, ((k + 1 : Nat) : Int)), (0, giv h s)] [] (hrow h 36 (if s < 240 then mtB B (giv h s) (giv h (s + 16)) else B)) := by
      intro a B a0 a1
      rw [b_X0_lookAround_77, w32_of (x := (y : Int) + 1) (by omega) (by omega), w32_n1 (k := k) (by omega)]
      by_cases z : s < 240
      · have g2 := hg (s + 16) (by omega) (by omega)
        rw [if_pos z, if_pos z, if_pos (by omega), giver (by omega), show 16 * ((y : Int) + 1) + (k : Int) = s + 16 by omega, e_meet g1 g2, w32_of (by omega) (by omega)]
      · rw [if_neg z, if_neg z, if_neg (by omega), Int.add_zero]
    rw [b_X0_lookAround_34, if_pos (by omega), giver (by omega), show 16 * (y : Int) + (k : Int) = s by omega, w32_of (x := (k : Int) + 1) (by omega) (by omega)]
    by_cases z : s % 16 < 15
    · have g2 := hg (s + 1) (by omega) (by omega)
      rw [if_pos z, if_pos z, if_pos (by omega), giver (by omega), show 16 * (y : Int) + ((k : Int) + 1) = s + 1 by omega, e_meet g1 g2, w32_of (by omega) (by omega), second _ _ (by omega) (by omega)]
    · rw [if_neg z, if_neg z, if_neg (by omega), second _ _ (by omega) (by omega), Int.add_zero]
  obtain ⟨v, l⟩ := loop_x (α := PV × PV) (P := fun v k => Ws (EF n) (d + 3) mX0_lookAround Q 25 [(2, 30), (2, 11), (0, lkN (giv h) (16 * k)), (0, (k : Int)), v.1, v.2] [] (hrow h 36 (lkB (giv h) (16 * k) (zr6 (h 36) 6)))) 16 ((9, 0), (9, 0)) (by
    intro v k hk
    obtain ⟨v', e⟩ := inner k v.2 hk
    refine ⟨((0, 16), v'), ?_⟩
    rw [b_X0_lookAround_25, if_pos (by omega), e, b_X0_lookAround_34, if_neg (by decide), w32_n1 (by omega)]
    rfl)
  refine l.trans ?_
  show Ws (EF n) (d + 3) mX0_lookAround Q 25 [(2, 30), (2, 11), (0, _), (0, ((16 : Nat) : Int)), v.1, v.2] [] _ = _
  rw [b_X0_lookAround_25, if_neg (by decide)]
/-- the reference -/
abbrev mgiv (h : Hp) : Int → Int := fun s => h 60 (h 62 s)
theorem e_m_areUnlike {E : PvEnv} (hE : ∀ k, E 50 k = refT 50 k) {d : Nat} {Q : Int → Hp → Prop} {h : Hp} {a b : Int} (hO : ∀ s : Int, 0 ≤ s → s < 256 → isN (h 62 s)) (ha : 0 ≤ a ∧ a < 256) (hb : 0 ≤ b ∧ b < 256) : wpS E (d + 1) mX10_areUnlike [(2, 50), (0, a), (0, b)] h Q = Q (mtN (mgiv h a) (mgiv h b)) h := by
  rw [u_X10_areUnlike hE, and_tl ha, and_tl (hO a ha.1 ha.2), and_tl hb, and_tl (hO b hb.1 hb.2)]
  unfold mtN
  by_cases z : h 60 (h 62 a) = h 60 (h 62 b)
  · rw [if_pos z, if_pos z]
  · rw [if_neg z, if_neg z]
theorem mtN_0 {a b : Int} {A B : Prop} : (if mtN a b = 0 then A else B) = if a = b then A else B := by
  unfold mtN
  by_cases z : a = b
  · rw [if_pos z, if_pos z, if_pos rfl]
  · rw [if_neg z, if_neg z, if_neg (by decide)]
theorem e_m_cuts {E : PvEnv} (hE : ∀ k, E 50 k = refT 50 k) {d : Nat} {Q : Int → Hp → Prop} {h : Hp} (hO : ∀ s : Int, 0 ≤ s → s < 256 → isN (h 62 s)) : wpS E (d + 2) mX10_cuts [(2, 50)] h Q = Q (lkN (mgiv h) 256) h := by
  rw [u_X10_cuts hE]
  have l := loop_n (P := fun k => Ws E (d + 1) mX10_cuts Q 4 [(2, 50), (0, lkN (mgiv h) k), (0, (k : Int))] [] h) 256 (by
    intro k hk
    have hb := lkN_b (mgiv h) k
    show _ = Ws E (d + 1) mX10_cuts Q 4 [(2, 50), (0, lkN (mgiv h) k + (if (k : Int) % 16 < 15 then mtN (mgiv h k) (mgiv h (k + 1)) else 0) + (if (k : Int) < 240 then mtN (mgiv h k) (mgiv h (k + 16)) else 0)), (0, ((k + 1 : Nat) : Int))] [] h
    generalize lkN (mgiv h) k = a at *
    have m1 := mtN_b (mgiv h k) (mgiv h (k + 1))
    have m2 := mtN_b (mgiv h k) (mgiv h (k + 16))
    have r64 : ∀ a b : Int, 0 ≤ a → a ≤ 1000 → 0 ≤ b → b ≤ 1 → Ws E (d + 1) mX10_cuts Q 64 [(2, 50), (0, a), (0, (k : Int))] [(0, b), (0, a)] h = Ws E (d + 1) mX10_cuts Q 4 [(2, 50), (0, a + b), (0, ((k + 1 : Nat) : Int))] [] h := by
      intro a b h0 h1 h2 h3
      rw [b_X10_cuts_64 hE, w32_of (x := a + b) (by omega) (by omega), w32_n1 (by omega)]
    have r37 : ∀ b : Int, 0 ≤ b → b ≤ 1 → Ws E (d + 1) mX10_cuts Q 37 [(2, 50), (0, a), (0, (k : Int))] [(0, b), (0, a)] h = Ws E (d + 1) mX10_cuts Q 4 [(2, 50), (0, a + b + (if (k : Int) < 240 then mtN (mgiv h k) (mgiv h (k + 16)) else 0)), (0, ((k + 1 : Nat) : Int))] [] h := by
      intro b h2 h3
      rw [b_X10_cuts_37 hE, w32_of (x := a + b) (by omega) (by omega), w32_of (x := (k : Int) + 16) (by omega) (by omega)]
      by_cases z : (k : Int) < 240
      · rw [if_pos z, if_pos z, e_m_areUnlike hE hO (by omega) (by omega), b_X10_cuts_63 hE, r64 _ _ (by omega) (by omega) (by decide) (by decide), r64 _ _ (by omega) (by omega) (by decide) (by decide), mtN_0]
        unfold mtN
        by_cases w : mgiv h k = mgiv h (k + 16)
        · rw [if_pos w, if_pos w]
        · rw [if_neg w, if_neg w]
      · rw [if_neg z, if_neg z, b_X10_cuts_63 hE, r64 _ _ (by omega) (by omega) (by decide) (by decide)]
    rw [b_X10_cuts_4 hE, if_pos (by omega), tm (by omega), w32_of (x := (k : Int) + 1) (by omega) (by omega), b_X10_cuts_36 hE, r37 0 (by decide) (by decide)]
    by_cases z : (k : Int) % 16 < 15
    · rw [if_pos z, if_pos z, e_m_areUnlike hE hO (by omega) (by omega), b_X10_cuts_36 hE, r37 0 (by decide) (by decide), r37 1 (by decide) (by decide), mtN_0]
      by_cases w : mgiv h k = mgiv h (k + 1)
      · rw [if_pos w, show mtN (mgiv h k) (mgiv h (k + 1)) = 0 from if_pos w]
      · rw [if_neg w, show mtN (mgiv h k) (mgiv h (k + 1)) = 1 from if_neg w]
    · rw [if_neg z, if_neg z])
  refine l.trans ?_
  show Ws E (d + 1) mX10_cuts Q 4 [(2, 50), (0, _), (0, ((256 : Nat) : Int))] [] h = _
  rw [b_X10_cuts_4 hE, if_neg (by decide)]
theorem lkN_c {g g' : Int → Int} : ∀ k : Nat, k ≤ 256 → (∀ s : Int, 0 ≤ s → s < 256 → g s = g' s) → lkN g k = lkN g' k
  | 0, _, _ => rfl
  | s + 1, hs, h => by
    have ih := lkN_c s (by omega) h
    show lkN g s + (if (s : Int) % 16 < 15 then mtN (g s) (g (s + 1)) else 0) + (if (s : Int) < 240 then mtN (g s) (g (s + 16)) else 0) = lkN g' s + (if (s : Int) % 16 < 15 then mtN (g' s) (g' (s + 1)) else 0) + (if (s : Int) < 240 then mtN (g' s) (g' (s + 16)) else 0)
    rw [ih, h s (by omega) (by omega)]
    by_cases z : (s : Int) % 16 < 15
    · rw [if_pos z, if_pos z, h (s + 1) (by omega) (by omega)]
      by_cases w : (s : Int) < 240
      · rw [if_pos w, if_pos w, h (s + 16) (by omega) (by omega)]
      · rw [if_neg w, if_neg w]
    · rw [if_neg z, if_neg z]
      by_cases w : (s : Int) < 240
      · rw [if_pos w, if_pos w, h (s + 16) (by omega) (by omega)]
      · rw [if_neg w, if_neg w]
theorem cw_O {t t' : Int} {K A G X O T A' K' G' X' S : Int → Int} (w : CWld t t' K A G X O T A' K' G' X' S) : ∀ s : Int, 0 ≤ s → s < 256 → isN (O s) := fun s a b => (w.2.2.1.1 s a b).1
theorem cw_S {t t' : Int} {K A G X O T A' K' G' X' S : Int → Int} (w : CWld t t' K A G X O T A' K' G' X' S) : ∀ s : Int, 0 ≤ s → s < 256 → isN (S s) := fun s a b => by rw [w.2.2.2 s a b]; exact cw_O w s a b
theorem cw_G {t t' : Int} {K A G X O T A' K' G' X' S : Int → Int} (w : CWld t t' K A G X O T A' K' G' X' S) : ∀ c : Int, 0 ≤ c → c < 336 → 0 ≤ G c ∧ G c < 6 := fun c a b => (w.2.1 c a b).1.2.2.1.2.2.1
theorem cw_giv {t t' : Int} {K A G X O T A' K' G' X' S : Int → Int} (w : CWld t t' K A G X O T A' K' G' X' S) : ∀ s : Int, 0 ≤ s → s < 256 → G' (S s) = G (O s) := fun s a b => by
  rw [w.2.2.2 s a b]
  have := w.2.2.1.1 s a b
  exact (cw_e w this.1 this.2.1).2.2
theorem p_cuts {n : Int} : Pr n mX9_cuts mX10_cuts [] := by
  intro h hC
  have hC' := hC
  obtain ⟨c1, c2, c3, c4, c5, c6, c7, c8, c9, c10, c11, c12, c13, c14, c15⟩ := hC
  have e : lkN (mgiv h) 256 = lkN (giv h) 256 := lkN_c 256 (Nat.le_refl _) (fun s h0 h1 => cw_giv c7 s h0 h1)
  refine ⟨lkN (giv h) 256, hrow h 36 (lkB (giv h) 256 (zr6 (h 36) 6)), hrow h 36 (lkB (giv h) 256 (zr6 (h 36) 6)), fun Q => ?_, fun Q => ?_, ?_⟩
  · rw [u_X9_cuts, e_lookAround (cw_O c7) (cw_G c7)]
  · rw [e_m_cuts (EF_50 n) (h := hrow h 36 (lkB (giv h) 256 (zr6 (h 36) 6))) (cw_S c7)]
    show Q (lkN (mgiv h) 256) _ = _
    rw [e]
  · unfold Cpl
    simp only [hst_at, hrow_at, up_at, Int.reduceEq, if_true, if_false, reduceIte]
    exact hC'
