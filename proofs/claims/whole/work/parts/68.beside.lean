/-! run -/
def stZ (Z : Int → Int) (a b : Int) : Int → Int := up (up Z (6 * a + b) 1) (6 * b + a) 1
def lkQ (g : Int → Int) (Z : Int → Int) (s : Int) : Int → Int := if s % 16 < 15 then stZ Z (g s) (g (s + 1)) else Z
def lkZ (g : Int → Int) : Nat → (Int → Int) → (Int → Int)
  | 0, Z => Z
  | s + 1, Z => if (s : Int) < 240 then stZ (lkQ g (lkZ g s Z) s) (g s) (g (s + 16)) else lkQ g (lkZ g s Z) s
def BZ (B Z : Int → Int) : Prop := ∀ m k : Int, 0 ≤ m → m < 6 → 0 ≤ k → k < 6 → (0 ≤ B m ∧ B m < 64) ∧ (m ≠ k → (bitI (B m) k ↔ Z (6 * m + k) ≠ 0)) ∧ ¬ bitI (B m) m
theorem BZ_step {B Z : Int → Int} {a b : Int} (h : BZ B Z) (ha : 0 ≤ a ∧ a < 6) (hb : 0 ≤ b ∧ b < 6) : BZ (mtB B a b) (stZ Z a b) := by
  intro m k m0 m1 k0 k1
  obtain ⟨q1, q2, q3⟩ := h m k m0 m1 k0 k1
  unfold mtB stZ
  by_cases z : a = b
  · subst z
    rw [if_pos rfl]
    refine ⟨q1, fun w => ?_, q3⟩
    rw [up_n _ _ (by omega), up_n _ _ (by omega)]
    exact q2 w
  · rw [if_neg z, up_n B (i := a) (j := b) _ (by omega)]
    by_cases zb : m = b
    · subst zb
      rw [up_s]
      obtain ⟨o1, o2⟩ := bit_or q1 ha
      refine ⟨o1, fun w => ?_, fun w => ?_⟩
      · rw [o2 k k0 k1, q2 w]
        by_cases y : k = a
        · subst y
          rw [up_s]
          exact ⟨fun _ => by decide, fun _ => Or.inr rfl⟩
        · rw [up_n _ _ (by omega), up_n _ _ (by omega)]
          exact ⟨fun x => x.elim id (fun x => absurd x y), Or.inl⟩
      · rcases (o2 m m0 m1).mp w with x | x
        · exact q3 x
        · exact z x.symm
    · rw [up_n _ _ zb]
      by_cases za : m = a
      · subst za
        rw [up_s]
        obtain ⟨o1, o2⟩ := bit_or q1 hb
        refine ⟨o1, fun w => ?_, fun w => ?_⟩
        · rw [o2 k k0 k1, q2 w]
          by_cases y : k = b
          · subst y
            rw [up_n _ _ (by omega), up_s]
            exact ⟨fun _ => by decide, fun _ => Or.inr rfl⟩
          · rw [up_n _ _ (by omega), up_n _ _ (by omega)]
            exact ⟨fun x => x.elim id (fun x => absurd x y), Or.inl⟩
        · rcases (o2 m m0 m1).mp w with x | x
          · exact q3 x
          · exact z x
      · rw [up_n _ _ za]
        refine ⟨q1, fun w => ?_, q3⟩
        rw [up_n _ _ (by omega), up_n _ _ (by omega)]
        exact q2 w
theorem lk_BZ {g : Int → Int} (hg : ∀ s : Int, 0 ≤ s → s < 256 → 0 ≤ g s ∧ g s < 6) {B Z : Int → Int} (h : BZ B Z) : ∀ s : Nat, s ≤ 256 → BZ (lkB g s B) (lkZ g s Z)
  | 0, _ => h
  | s + 1, hs => by
    have ih := lk_BZ hg h s (by omega)
    have g0 := hg s (by omega) (by omega)
    have h1 : BZ (lkR g (lkB g s B) s) (lkQ g (lkZ g s Z) s) := by
      unfold lkR lkQ
      by_cases z : (s : Int) % 16 < 15
      · rw [if_pos z, if_pos z]
        exact BZ_step ih g0 (hg _ (by omega) (by omega))
      · rw [if_neg z, if_neg z]
        exact ih
    show BZ (if (s : Int) < 240 then mtB (lkR g (lkB g s B) s) (g s) (g (s + 16)) else lkR g (lkB g s B) s) (if (s : Int) < 240 then stZ (lkQ g (lkZ g s Z) s) (g s) (g (s + 16)) else lkQ g (lkZ g s Z) s)
    by_cases z : (s : Int) < 240
    · rw [if_pos z, if_pos z]
      exact BZ_step h1 g0 (hg _ (by omega) (by omega))
    · rw [if_neg z, if_neg z]
      exact h1
theorem ix6 {a b : Int} (ha : 0 ≤ a ∧ a < 6) (hb : 0 ≤ b ∧ b < 6) : w32 (w32 (6 * a) + b) = 6 * a + b := by
  rw [w32_of (x := 6 * a) (by omega) (by omega), w32_of (by omega) (by omega)]
theorem zr6_s (B : Int → Int) (k : Nat) : up (zr6 B (k : Int)) k 0 = zr6 B ((k + 1 : Nat) : Int) := by
  funext j
  unfold up zr6
  by_cases z : j = (k : Int)
  · rw [if_pos z, if_pos (by omega)]
  · rw [if_neg z]
    by_cases w : 0 ≤ j ∧ j < (k : Int)
    · rw [if_pos w, if_pos (by omega)]
    · rw [if_neg w, if_neg (by omega)]
theorem zr6_0 (B : Int → Int) : zr6 B ((0 : Nat) : Int) = B := by
  funext j
  unfold zr6
  exact if_neg (by omega)
theorem e_m_setBeside {E : PvEnv} (hE : ∀ k, E 50 k = refT 50 k) {d : Nat} {Q : Int → Hp → Prop} {h : Hp} (hO : ∀ s : Int, 0 ≤ s → s < 256 → isN (h 62 s)) (hG : ∀ s : Int, 0 ≤ s → s < 256 → 0 ≤ mgiv h s ∧ mgiv h s < 6) : wpS E (d + 1) mX10_setBeside [(2, 50)] h Q = Q 0 (hrow h 80 (lkZ (mgiv h) 256 (zr6 (h 80) 36))) := by
  rw [u_X10_setBeside hE]
  have l0 := loop_n (P := fun k => Ws E d mX10_setBeside Q 2 [(2, 50), (0, (k : Int)), (9, 0), (9, 0), (9, 0), (9, 0)] [] (hrow h 80 (zr6 (h 80) k))) 36 (by
    intro k hk
    rw [b_X10_setBeside_2 hE, if_pos (by omega), and_tl (⟨Or.inl rfl, by omega, by omega⟩), w32_n1 (by omega), hst_rr, zr6_s])
  rw [zr6_0, hrow_self] at l0
  refine l0.trans ?_
  rw [b_X10_setBeside_2 hE, if_neg (by decide)]
  have e62 : ∀ Z, hrow h 80 Z 62 = h 62 := fun Z => hrow_n _ _ (by decide)
  have e60 : ∀ Z, hrow h 80 Z 60 = h 60 := fun Z => hrow_n _ _ (by decide)
  have go : ∀ (k s : Nat) (w : Int) (v3 v4 v5 : PV) (Z : Int → Int), k < 256 → s < 256 → (w = 0 ∧ (s : Int) = k + 1 ∨ w = 1 ∧ (s : Int) = k + 16) → ∃ v : PV × PV × PV, Ws E d mX10_setBeside Q 70 [(2, 50), (0, (k : Int)), (0, w), v3, v4, v5] [(0, 1)] (hrow h 80 Z) = Ws E d mX10_setBeside Q 32 [(2, 50), (0, (k : Int)), (0, w + 1), v.1, v.2.1, v.2.2] [] (hrow h 80 (stZ Z (mgiv h k) (mgiv h s))) := by
    intro k s w v3 v4 v5 Z hk hs hw
    have gk := hG k (by omega) (by omega)
    have gs := hG s (by omega) (by omega)
    refine ⟨((0, 1), (0, mgiv h k), (0, mgiv h s)), ?_⟩
    have last : Ws E d mX10_setBeside Q 110 [(2, 50), (0, (k : Int)), (0, w), (0, 1), (0, mgiv h k), v5] [(0, (s : Int)), (2, 62), (2, 60)] (hrow h 80 Z) = Ws E d mX10_setBeside Q 32 [(2, 50), (0, (k : Int)), (0, w + 1), (0, 1), (0, mgiv h k), (0, mgiv h s)] [] (hrow h 80 (stZ Z (mgiv h k) (mgiv h s))) := by
      rw [b_X10_setBeside_110 hE, e62, e60, and_tl (by omega), and_tl (hO s (by omega) (by omega)), ix6 gk gs, ix6 gs gk, and_tl ⟨Or.inr rfl, by omega, by omega⟩, and_tl ⟨Or.inr rfl, by omega, by omega⟩, w32_of (x := w + 1) (by omega) (by omega), hst_rr, hst_rr]
      rfl
    rw [b_X10_setBeside_70 hE, if_neg (by decide), e62, e60, and_tl (by omega), and_tl (hO k (by omega) (by omega))]
    rcases hw with ⟨w0, e⟩ | ⟨w0, e⟩
    · rw [if_pos w0, w32_of (x := (k : Int) + 1) (by omega) (by omega), ← e]
      exact last
    · rw [if_neg (by omega), w32_of (x := (k : Int) + 16) (by omega) (by omega), ← e]
      exact last
  have stay : ∀ (k : Nat) (w : Int) (v3 v4 v5 : PV) (Z : Int → Int), (w = 0 ∨ w = 1) → Ws E d mX10_setBeside Q 70 [(2, 50), (0, (k : Int)), (0, w), v3, v4, v5] [(0, 0)] (hrow h 80 Z) = Ws E d mX10_setBeside Q 32 [(2, 50), (0, (k : Int)), (0, w + 1), (0, 0), v4, v5] [] (hrow h 80 Z) := by
    intro k w v3 v4 v5 Z hw
    rw [b_X10_setBeside_70 hE, if_pos rfl, w32_of (x := w + 1) (by omega) (by omega)]
  have way0 : ∀ (k : Nat) (v : PV × PV × PV) (Z : Int → Int), k < 256 → ∃ v' : PV × PV × PV, Ws E d mX10_setBeside Q 32 [(2, 50), (0, (k : Int)), (0, 0), v.1, v.2.1, v.2.2] [] (hrow h 80 Z) = Ws E d mX10_setBeside Q 32 [(2, 50), (0, (k : Int)), (0, 1), v'.1, v'.2.1, v'.2.2] [] (hrow h 80 (lkQ (mgiv h) Z k)) := by
    intro k v Z hk
    unfold lkQ
    by_cases z : (k : Int) % 16 < 15
    · rw [if_pos z]
      obtain ⟨v', e⟩ := go k (k + 1) 0 v.1 v.2.1 v.2.2 Z hk (by omega) (Or.inl ⟨rfl, rfl⟩)
      refine ⟨v', ?_⟩
      rw [b_X10_setBeside_32 hE, if_pos (by decide), if_pos rfl, tm (by omega), if_pos z]
      exact e
    · rw [if_neg z]
      refine ⟨((0, 0), v.2.1, v.2.2), ?_⟩
      rw [b_X10_setBeside_32 hE, if_pos (by decide), if_pos rfl, tm (by omega), if_neg z]
      exact stay k 0 v.1 v.2.1 v.2.2 Z (Or.inl rfl)
  have way1 : ∀ (k : Nat) (v : PV × PV × PV) (Z : Int → Int), k < 256 → ∃ v' : PV × PV × PV, Ws E d mX10_setBeside Q 32 [(2, 50), (0, (k : Int)), (0, 1), v.1, v.2.1, v.2.2] [] (hrow h 80 Z) = Ws E d mX10_setBeside Q 32 [(2, 50), (0, (k : Int)), (0, 2), v'.1, v'.2.1, v'.2.2] [] (hrow h 80 (if (k : Int) < 240 then stZ Z (mgiv h k) (mgiv h (k + 16)) else Z)) := by
    intro k v Z hk
    by_cases z : (k : Int) < 240
    · rw [if_pos z]
      obtain ⟨v', e⟩ := go k (k + 16) 1 v.1 v.2.1 v.2.2 Z hk (by omega) (Or.inr ⟨rfl, rfl⟩)
      refine ⟨v', ?_⟩
      rw [b_X10_setBeside_32 hE, if_pos (by decide), if_neg (by decide), if_pos z]
      exact e
    · rw [if_neg z]
      refine ⟨((0, 0), v.2.1, v.2.2), ?_⟩
      rw [b_X10_setBeside_32 hE, if_pos (by decide), if_neg (by decide), if_neg z]
      exact stay k 1 v.1 v.2.1 v.2.2 Z (Or.inr rfl)
  obtain ⟨v, l⟩ := loop_x (α := PV × PV × PV × PV) (P := fun v k => Ws E d mX10_setBeside Q 23 [(2, 50), (0, (k : Int)), v.1, v.2.1, v.2.2.1, v.2.2.2] [] (hrow h 80 (lkZ (mgiv h) k (zr6 (h 80) 36)))) 256 ((9, 0), (9, 0), (9, 0), (9, 0)) (by
    intro v k hk
    obtain ⟨v1, e1⟩ := way0 k v.2 (lkZ (mgiv h) k (zr6 (h 80) 36)) hk
    obtain ⟨v2, e2⟩ := way1 k v1 (lkQ (mgiv h) (lkZ (mgiv h) k (zr6 (h 80) 36)) k) hk
    refine ⟨((0, 2), v2), ?_⟩
    rw [b_X10_setBeside_23 hE, if_pos (by omega), e1, e2, b_X10_setBeside_32 hE, if_neg (by decide), w32_n1 (by omega)]
    rfl)
  refine l.trans ?_
  show Ws E d mX10_setBeside Q 23 [(2, 50), (0, ((256 : Nat) : Int)), v.1, v.2.1, v.2.2.1, v.2.2.2] [] _ = _
  rw [b_X10_setBeside_23 hE, if_neg (by decide)]
/-- a row, the first k replaced -/
def pf (f g : Int → Int) (k : Int) : Int → Int := fun j => if 0 ≤ j ∧ j < k then f j else g j
theorem pf_0 (f g : Int → Int) : pf f g ((0 : Nat) : Int) = g := by
  funext j
  unfold pf
  exact if_neg (by omega)
theorem pf_s (f g : Int → Int) (k : Nat) : up (pf f g (k : Int)) k (f k) = pf f g ((k + 1 : Nat) : Int) := by
  funext j
  unfold up pf
  by_cases z : j = (k : Int)
  · rw [if_pos z, if_pos (by omega), z]
  · rw [if_neg z]
    by_cases w : 0 ≤ j ∧ j < (k : Int)
    · rw [if_pos w, if_pos (by omega)]
    · rw [if_neg w, if_neg (by omega)]
theorem pf_in {f g : Int → Int} {k j : Int} (h : 0 ≤ j ∧ j < k) : pf f g k j = f j := if_pos h
theorem pf_out {f g : Int → Int} {k j : Int} (h : ¬ (0 ≤ j ∧ j < k)) : pf f g k j = g j := if_neg h
theorem pf_pf (f f' g : Int → Int) (k : Int) : pf f (pf f' g k) k = pf f g k := by
  funext j
  unfold pf
  by_cases w : 0 ≤ j ∧ j < k
  · rw [if_pos w, if_pos w]
  · rw [if_neg w, if_neg w, if_neg w]
/-- waiting in a tick: of the first k, the latest that comes, and who -/
def wtk (bs : Int → Prop) [DecidablePred bs] (e : Int → Int) (wait m : Int) : Nat → Int × Int
  | 0 => (e m, m)
  | k + 1 => if bs k ∧ (wtk bs e wait m k).1 < w32 (e k + wait) then (w32 (e k + wait), (k : Int)) else wtk bs e wait m k
theorem wtk_c {bs bs' : Int → Prop} [DecidablePred bs] [DecidablePred bs'] {e e' : Int → Int} {wait m : Int} (hm : e m = e' m) : ∀ k : Nat, (∀ j : Nat, j < k → (bs j ↔ bs' j) ∧ e j = e' j) → wtk bs e wait m k = wtk bs' e' wait m k
  | 0, _ => by show (e m, m) = (e' m, m); rw [hm]
  | k + 1, h => by
    have ih := wtk_c (bs := bs) (bs' := bs') (wait := wait) hm k (fun j hj => h j (by omega))
    have hk := h k (by omega)
    show (if bs k ∧ (wtk bs e wait m k).1 < w32 (e k + wait) then (w32 (e k + wait), (k : Int)) else wtk bs e wait m k) = if bs' k ∧ (wtk bs' e' wait m k).1 < w32 (e' k + wait) then (w32 (e' k + wait), (k : Int)) else wtk bs' e' wait m k
    rw [ih, hk.2]
    by_cases z : bs k ∧ (wtk bs' e' wait m k).1 < w32 (e' k + wait)
    · rw [if_pos z, if_pos ⟨hk.1.mp z.1, z.2⟩]
    · rw [if_neg z, if_neg (fun w => z ⟨hk.1.mpr w.1, w.2⟩)]
/-- the ends behind t ticks -/
def Et (bs : Int → Int → Prop) [∀ m, DecidablePred (bs m)] (wks : Int → Int) (wait : Int) : Nat → Int → Int
  | 0, _ => 0
  | t + 1, m => w32 ((wtk (bs m) (Et bs wks wait t) wait m 6).1 + wks m)
/-- what is left of the ticks before -/
def Rt (F : Nat → Int → Int) (R : Int → Int) : Nat → Int → Int
  | 0 => R
  | t + 1 => pf (F t) (Rt F R t) 6
def Wt (bs : Int → Int → Prop) [∀ m, DecidablePred (bs m)] (wks : Int → Int) (wait : Int) (W : Int → Int) : Nat → Int → Int
  | 0 => W
  | t + 1 => pf (fun m => (wtk (bs m) (Et bs wks wait t) wait m 6).2) (Wt bs wks wait W t) 6
theorem Et_c {bs bs' : Int → Int → Prop} [∀ m, DecidablePred (bs m)] [∀ m, DecidablePred (bs' m)] {wks wks' : Int → Int} {wait : Int} (h : ∀ m k : Int, 0 ≤ m → m < 6 → 0 ≤ k → k < 6 → (bs m k ↔ bs' m k)) (hw : ∀ m : Int, 0 ≤ m → m < 6 → wks m = wks' m) : ∀ (t : Nat) (m : Int), 0 ≤ m → m < 6 → Et bs wks wait t m = Et bs' wks' wait t m
  | 0, _, _, _ => rfl
  | t + 1, m, m0, m1 => by
    have ih := Et_c (wait := wait) h hw t
    show w32 ((wtk (bs m) (Et bs wks wait t) wait m 6).1 + wks m) = w32 ((wtk (bs' m) (Et bs' wks' wait t) wait m 6).1 + wks' m)
    rw [wtk_c (bs' := bs' m) (ih m m0 m1) 6 (fun j hj => ⟨h m j m0 m1 (by omega) (by omega), ih j (by omega) (by omega)⟩), hw m m0 m1]
theorem Wt_c {bs bs' : Int → Int → Prop} [∀ m, DecidablePred (bs m)] [∀ m, DecidablePred (bs' m)] {wks wks' : Int → Int} {wait : Int} (h : ∀ m k : Int, 0 ≤ m → m < 6 → 0 ≤ k → k < 6 → (bs m k ↔ bs' m k)) (hw : ∀ m : Int, 0 ≤ m → m < 6 → wks m = wks' m) (W W' : Int → Int) (t : Nat) (m : Int) (m0 : 0 ≤ m) (m1 : m < 6) : Wt bs wks wait W (t + 1) m = Wt bs' wks' wait W' (t + 1) m := by
  show pf (fun m => (wtk (bs m) (Et bs wks wait t) wait m 6).2) (Wt bs wks wait W t) 6 m = pf (fun m => (wtk (bs' m) (Et bs' wks' wait t) wait m 6).2) (Wt bs' wks' wait W' t) 6 m
  have ih := Et_c (wait := wait) h hw t
  rw [pf_in ⟨m0, m1⟩, pf_in ⟨m0, m1⟩, wtk_c (bs' := bs' m) (ih m m0 m1) 6 (fun j hj => ⟨h m j m0 m1 (by omega) (by omega), ih j (by omega) (by omega)⟩)]
