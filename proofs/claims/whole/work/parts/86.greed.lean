/-! deal: what greed takes -/
/-- how many from a on fit below lim, s being there already -/
def gk (w : Int → Int) (N b lim : Int) : Nat → Int → Int → Nat
  | 0, _, _ => 0
  | f + 1, a, s => if a < N ∧ s + b * w a ≤ lim then gk w N b lim f (a + 1) (s + b * w a) + 1 else 0
def asg (V : Int → Int) (m : Int) : Nat → Int → (Int → Int) → Int → Int
  | 0, _, G => G
  | k + 1, a, G => asg V m k (a + 1) (up G (V a) m)
/-- the place behind the first m machines of the set -/
def plc (w : Int → Int) (N set lim : Int) (by' : Int → Int) : Nat → Int
  | 0 => 0
  | m + 1 => if bitI set m then plc w N set lim by' m + gk w N (by' m) lim 256 (plc w N set lim by' m) 0 else plc w N set lim by' m
def dlG (V w : Int → Int) (N set lim : Int) (by' : Int → Int) : Nat → (Int → Int) → Int → Int
  | 0, G => G
  | m + 1, G => if bitI set m then asg V m (gk w N (by' m) lim 256 (plc w N set lim by' m) 0) (plc w N set lim by' m) (dlG V w N set lim by' m G) else dlG V w N set lim by' m G
def rom (set : Int) (by' : Int → Int) (lim : Int) : Nat → Int
  | 0 => 0
  | m + 1 => rom set by' lim m + (if bitI set m then lim / by' m else 0)
/-- prefix sums -/
def pw (w : Int → Int) (a : Int) : Int := sm w a.toNat
theorem pw_s {w : Int → Int} {a : Int} (h : 0 ≤ a) : pw w (a + 1) = pw w a + w a := by
  unfold pw
  rw [show (a + 1).toNat = a.toNat + 1 by omega]
  show sm w a.toNat + w ((a.toNat : Nat) : Int) = _
  rw [show ((a.toNat : Nat) : Int) = a by omega]
section GRD
variable {w : Int → Int} {N b lim : Int}
theorem gk_spec (hw : ∀ i : Int, 0 ≤ i → i < N → w i = 0 ∨ w i = 1) (hb : b = 1 ∨ b = 2) : ∀ (f : Nat) (a s a0 : Int), 0 ≤ a0 → a0 ≤ a → a ≤ N → N - a ≤ f → s = b * (pw w a - pw w a0) → s ≤ lim → a + gk w N b lim f a s ≤ N ∧ b * (pw w (a + gk w N b lim f a s) - pw w a0) ≤ lim ∧ (a + gk w N b lim f a s < N → lim < b * (pw w (a + gk w N b lim f a s) - pw w a0) + b * w (a + gk w N b lim f a s))
  | 0, a, s, a0, h0, h1, h2, h3, hs, hl => by
    have e : a = N := by omega
    show a + ((0 : Nat) : Int) ≤ N ∧ b * (pw w (a + ((0 : Nat) : Int)) - pw w a0) ≤ lim ∧ (a + ((0 : Nat) : Int) < N → _)
    rw [show a + ((0 : Nat) : Int) = a by omega]
    exact ⟨h2, by omega, fun q => by omega⟩
  | f + 1, a, s, a0, h0, h1, h2, h3, hs, hl => by
    have un : gk w N b lim (f + 1) a s = if a < N ∧ s + b * w a ≤ lim then gk w N b lim f (a + 1) (s + b * w a) + 1 else 0 := rfl
    by_cases z : a < N ∧ s + b * w a ≤ lim
    · rw [un, if_pos z]
      have es : s + b * w a = b * (pw w (a + 1) - pw w a0) := by
        rw [pw_s (by omega), hs]
        rcases hb with e | e <;> subst e <;> omega
      have ih := gk_spec hw hb f (a + 1) (s + b * w a) a0 h0 (by omega) (by omega) (by omega) es z.2
      rw [show a + ((gk w N b lim f (a + 1) (s + b * w a) + 1 : Nat) : Int) = a + 1 + (gk w N b lim f (a + 1) (s + b * w a) : Int) by omega]
      exact ih
    · rw [un, if_neg z, show a + ((0 : Nat) : Int) = a by omega]
      exact ⟨h2, by omega, fun q => by
        have : ¬ s + b * w a ≤ lim := fun y => z ⟨q, y⟩
        omega⟩
/-- greed reaches the end just where there is room -/
theorem plc_inv {set : Int} {by' : Int → Int} (hw : ∀ i : Int, 0 ≤ i → i < N → w i = 0 ∨ w i = 1) (hb : ∀ m : Int, 0 ≤ m → m < 6 → by' m = 1 ∨ by' m = 2) (hN : 0 ≤ N ∧ N ≤ 256) (hl : 0 ≤ lim) : ∀ m : Nat, m ≤ 6 → (0 ≤ plc w N set lim by' m ∧ plc w N set lim by' m ≤ N) ∧ pw w (plc w N set lim by' m) ≤ rom set by' lim m ∧ (plc w N set lim by' m < N → pw w (plc w N set lim by' m) = rom set by' lim m ∧ ((∀ j : Nat, j < m → ¬ bitI set j) ∨ w (plc w N set lim by' m) = 1))
  | 0, _ => by
    have e : pw w 0 = 0 := rfl
    show (0 ≤ (0 : Int) ∧ 0 ≤ N) ∧ pw w 0 ≤ 0 ∧ (0 < N → pw w 0 = 0 ∧ _)
    rw [e]
    exact ⟨⟨by decide, hN.1⟩, by decide, fun _ => ⟨rfl, Or.inl (fun j hj => absurd hj (Nat.not_lt_zero j))⟩⟩
  | m + 1, hm => by
    obtain ⟨i1, i2, i3⟩ := plc_inv (set := set) hw hb hN hl m (by omega)
    have un : plc w N set lim by' (m + 1) = if bitI set m then plc w N set lim by' m + gk w N (by' m) lim 256 (plc w N set lim by' m) 0 else plc w N set lim by' m := rfl
    have ur : rom set by' lim (m + 1) = rom set by' lim m + (if bitI set m then lim / by' m else 0) := rfl
    by_cases z : bitI set m
    · have bm := hb m (by omega) (by omega)
      rw [un, ur, if_pos z, if_pos z]
      generalize plc w N set lim by' m = a at *
      obtain ⟨q1, q2, q3⟩ := gk_spec (lim := lim) hw bm 256 a 0 a i1.1 (Int.le_refl _) i1.2 (by omega) (by rcases bm with e | e <;> rw [e] <;> omega) hl
      generalize gk w N (by' m) lim 256 a 0 = k at *
      refine ⟨⟨by omega, q1⟩, ?_, fun y => ?_⟩
      · rcases bm with e | e <;> rw [e] at q2 ⊢ <;> omega
      · have q4 := q3 y
        have wb := hw (a + k) (by omega) y
        have i4 := i3 (by omega)
        refine ⟨?_, Or.inr ?_⟩
        · rcases bm with e | e <;> rw [e] at q2 q4 ⊢ <;> rcases wb with e' | e' <;> rw [e'] at q4 <;> omega
        · rcases bm with e | e <;> rw [e] at q2 q4 <;> rcases wb with e' | e' <;> rw [e'] at q4 ⊢ <;> omega
    · rw [un, ur, if_neg z, if_neg z, Int.add_zero]
      refine ⟨i1, i2, fun y => ⟨(i3 y).1, (i3 y).2.imp (fun q j hj => ?_) id⟩⟩
      by_cases e : j = m
      · rw [e]; exact z
      · exact q j (by omega)
theorem plc_end {set : Int} {by' : Int → Int} (hw : ∀ i : Int, 0 ≤ i → i < N → w i = 0 ∨ w i = 1) (hb : ∀ m : Int, 0 ≤ m → m < 6 → by' m = 1 ∨ by' m = 2) (hN : 0 ≤ N ∧ N ≤ 256) (hl : 0 ≤ lim) (hs : ∃ j : Nat, j < 6 ∧ bitI set j) : plc w N set lim by' 6 = N ↔ pw w N ≤ rom set by' lim 6 := by
  obtain ⟨i1, i2, i3⟩ := plc_inv (set := set) hw hb hN hl 6 (Nat.le_refl _)
  constructor
  · intro e
    rw [e] at i2
    exact i2
  · intro q
    by_cases y : plc w N set lim by' 6 < N
    · obtain ⟨j1, j2⟩ := i3 y
      obtain ⟨j, jj, jb⟩ := hs
      have w1 : w (plc w N set lim by' 6) = 1 := j2.resolve_left (fun q => q j jj jb)
      have mono : pw w (plc w N set lim by' 6 + 1) ≤ pw w N := by
        unfold pw
        obtain ⟨r, hr⟩ : ∃ r, N.toNat = (plc w N set lim by' 6 + 1).toNat + r := ⟨N.toNat - (plc w N set lim by' 6 + 1).toNat, by omega⟩
        rw [hr, sm_app]
        have nn : 0 ≤ sm (fun i => w (((plc w N set lim by' 6 + 1).toNat : Int) + i)) r := by
          have := sm_b (f := fun i => w (((plc w N set lim by' 6 + 1).toNat : Int) + i)) (lo := 0) (hi := 1) r (fun j hj => by
            have := hw (((plc w N set lim by' 6 + 1).toNat : Int) + j) (by omega) (by omega)
            omega)
          omega
        omega
      rw [pw_s i1.1, w1] at mono
      omega
    · omega
end GRD
theorem set_fin : ∀ s : Fin 63, (bitI ((s.val + 1 : Nat) : Int) 0 ∨ bitI ((s.val + 1 : Nat) : Int) 1 ∨ bitI ((s.val + 1 : Nat) : Int) 2 ∨ bitI ((s.val + 1 : Nat) : Int) 3 ∨ bitI ((s.val + 1 : Nat) : Int) 4 ∨ bitI ((s.val + 1 : Nat) : Int) 5) := by decide +kernel
theorem set_some {s : Int} (h : 1 ≤ s ∧ s ≤ 63) : ∃ j : Nat, j < 6 ∧ bitI s j := by
  have q := set_fin ⟨(s - 1).toNat, by omega⟩
  have e : (((s - 1).toNat + 1 : Nat) : Int) = s := by omega
  simp only [e] at q
  rcases q with q | q | q | q | q | q
  · exact ⟨0, by decide, q⟩
  · exact ⟨1, by decide, q⟩
  · exact ⟨2, by decide, q⟩
  · exact ⟨3, by decide, q⟩
  · exact ⟨4, by decide, q⟩
  · exact ⟨5, by decide, q⟩
theorem rom_b {set : Int} {by' : Int → Int} {lim : Int} (hb : ∀ m : Int, 0 ≤ m → m < 6 → by' m = 1 ∨ by' m = 2) (hl : 0 ≤ lim) : ∀ m : Nat, m ≤ 6 → 0 ≤ rom set by' lim m ∧ rom set by' lim m ≤ m * lim
  | 0, _ => by
    show 0 ≤ (0 : Int) ∧ (0 : Int) ≤ ((0 : Nat) : Int) * lim
    omega
  | m + 1, hm => by
    have ih := rom_b (set := set) hb hl m (by omega)
    have bm := hb m (by omega) (by omega)
    show 0 ≤ rom set by' lim m + (if bitI set m then lim / by' m else 0) ∧ rom set by' lim m + (if bitI set m then lim / by' m else 0) ≤ ((m + 1 : Nat) : Int) * lim
    have e : ((m + 1 : Nat) : Int) * lim = (m : Int) * lim + lim := by rw [show ((m + 1 : Nat) : Int) = (m : Int) + 1 by omega, Int.add_mul, Int.one_mul]
    rw [e]
    split
    · rcases bm with q | q <;> rw [q] <;> omega
    · omega
theorem rom_j {set : Int} {by' : Int → Int} {lim : Int} (hb : ∀ m : Int, 0 ≤ m → m < 6 → by' m = 1 ∨ by' m = 2) (hl : 0 ≤ lim) {j : Nat} (hj : bitI set j) : ∀ m : Nat, j < m → m ≤ 6 → lim / 2 ≤ rom set by' lim m
  | 0, h, _ => absurd h (Nat.not_lt_zero _)
  | m + 1, h, hm => by
    have nn := rom_b (set := set) hb hl m (by omega)
    have bm := hb m (by omega) (by omega)
    show lim / 2 ≤ rom set by' lim m + (if bitI set m then lim / by' m else 0)
    by_cases e : j = m
    · subst e
      rw [if_pos hj]
      rcases bm with q | q <;> rw [q] <;> omega
    · have ih := rom_j hb hl hj m (by omega) (by omega)
      split
      · rcases bm with q | q <;> rw [q] <;> omega
      · omega
/-! the curve has every cell once -/
def zi (x y : Nat) : Nat := x % 2 + 2 * (y % 2) + 4 * (x / 2 % 2) + 8 * (y / 2 % 2) + 16 * (x / 4 % 2) + 32 * (y / 4 % 2) + 64 * (x / 8 % 2) + 128 * (y / 8 % 2)
theorem zi_fin : ∀ x y : Fin 16, zi x.val y.val < 256 ∧ zx (zi x.val y.val : Nat) = (x.val : Nat) ∧ zy (zi x.val y.val : Nat) = (y.val : Nat) := by decide +kernel
theorem zp_fin : ∀ p : Fin 256, zi (zx (p.val : Nat)).toNat (zy (p.val : Nat)).toNat = p.val := by decide +kernel
theorem ord_sum {O : Int → Int} {m : Int} {V : Int → Int} (h : OrdOK O m V) (g : Int → Int) : sm (fun i => g (V i)) m.toNat = sm (fun p => if crn O p then g (O (16 * zy p + zx p)) else 0) 256 := by
  have key : ∀ k : Nat, k ≤ 256 → sm (fun i => g (V i)) (cnt (crn O) k).toNat = sm (fun p => if crn O p then g (O (16 * zy p + zx p)) else 0) k := by
    intro k
    induction k with
    | zero => intro _; rfl
    | succ k ih =>
      intro hk
      have ih := ih (by omega)
      have b := cnt_b (crn O) k
      show _ = sm (fun p => if crn O p then g (O (16 * zy p + zx p)) else 0) k + (if crn O k then g (O (16 * zy k + zx k)) else 0)
      by_cases z : crn O k
      · rw [if_pos z, cnt_t z, show (cnt (crn O) k + 1).toNat = (cnt (crn O) k).toNat + 1 by omega]
        show sm (fun i => g (V i)) (cnt (crn O) k).toNat + g (V (((cnt (crn O) k).toNat : Nat) : Int)) = _
        rw [ih, show (((cnt (crn O) k).toNat : Nat) : Int) = cnt (crn O) k by omega, h.2 k (by omega) z]
      · rw [if_neg z, cnt_f z, ih, Int.add_zero]
  rw [h.1]
  exact key 256 (Nat.le_refl _)
theorem crn_one {K O : Int → Int} (P : Prt K O) {c : Nat} (hc : c < 336) (kc : K c ≠ -1) : sm (fun p => if crn O p ∧ O (16 * zy p + zx p) = (c : Int) then 1 else 0) 256 = 1 := by
  have hn : isN (c : Int) := ⟨by omega, by omega⟩
  have bx := gx_b hn
  have bY := gy_b hn
  have bw := gw_b (c : Int)
  obtain ⟨z1, z2, z3⟩ := zi_fin ⟨(gx c).toNat, by omega⟩ ⟨(gy c).toNat, by omega⟩
  have z2 : zx (zi (gx c).toNat (gy c).toNat : Nat) = gx c := by rw [z2]; show (((gx c).toNat : Nat) : Int) = gx c; omega
  have z3 : zy (zi (gx c).toNat (gy c).toNat : Nat) = gy c := by rw [z3]; show (((gy c).toNat : Nat) : Int) = gy c; omega
  have eO : O (16 * gy c + gx c) = c := P.2 c _ hn kc ((inC_xy (by omega) (by omega)).mpr ⟨by omega, by omega⟩)
  have d := sm_dl (v := 1) (i := zi (gx c).toNat (gy c).toNat) 256
  rw [if_pos z1] at d
  refine Eq.trans (sm_c 256 (fun p hp => ?_)) d
  by_cases y : (p : Int) = (zi (gx c).toNat (gy c).toNat : Nat)
  · rw [if_pos y]
    refine if_pos ?_
    unfold crn
    rw [y, z2, z3, eO]
    exact ⟨⟨rfl, rfl⟩, rfl⟩
  · rw [if_neg y]
    refine if_neg (fun q => y ?_)
    obtain ⟨⟨q1, q2⟩, q3⟩ := q
    rw [q3] at q1 q2
    have := zp_fin ⟨p, hp⟩
    simp only [← q1, ← q2] at this
    omega
/-- the cells on the curve that are of a kind are those that are -/
theorem ord_kind {K O : Int → Int} {m : Int} {V : Int → Int} (P : Prt K O) (h : OrdOK O m V) (q : Int) (hq : q ≠ -1) : sm (fun i => if K (V i) = q then 1 else 0) m.toNat = cnt (fun c => K c = q) 336 := by
  rw [ord_sum h (fun c => if K c = q then 1 else 0), cnt_sm]
  have e1 : sm (fun c => if K c = q then 1 else 0) 336 = sm (fun c => sm (fun p => if K c = q ∧ (crn O p ∧ O (16 * zy p + zx p) = c) then 1 else 0) 256) 336 := sm_c 336 (fun c hc => by
    by_cases z : K (c : Int) = q
    · refine (if_pos z).trans (Eq.trans (crn_one P hc (by rw [z]; exact hq)).symm (sm_c 256 (fun p hp => ?_)))
      by_cases y : crn O p ∧ O (16 * zy p + zx p) = (c : Int)
      · rw [if_pos y, if_pos ⟨z, y⟩]
      · rw [if_neg y, if_neg (fun w => y w.2)]
    · rw [if_neg z]
      exact (sm_0 (fun p hp => if_neg (fun w => z w.1))).symm)
  rw [e1, sm_swap (fun c p => if K c = q ∧ (crn O p ∧ O (16 * zy p + zx p) = c) then 1 else 0) 256 336]
  refine sm_c 256 (fun p hp => ?_)
  have zb := zx_b p
  have zc := zy_b p
  have r := P.1 (16 * zy p + zx p) (by omega) (by omega)
  have r1 : 0 ≤ O (16 * zy p + zx p) ∧ O (16 * zy p + zx p) < 336 := r.1
  have eN : (((O (16 * zy p + zx p)).toNat : Nat) : Int) = O (16 * zy p + zx p) := by omega
  have d := sm_dl (v := if crn O p then (if K (O (16 * zy p + zx p)) = q then 1 else 0) else 0) (i := (O (16 * zy p + zx p)).toNat) 336
  rw [if_pos (show (O (16 * zy p + zx p)).toNat < 336 by omega)] at d
  refine Eq.trans d.symm (sm_c 336 (fun c hc => ?_))
  rw [eN]
  by_cases z : (c : Int) = O (16 * zy p + zx p)
  · rw [if_pos z]
    by_cases y : crn O p
    · rw [if_pos y]
      by_cases x : K (O (16 * zy p + zx p)) = q
      · rw [if_pos x, if_pos ⟨by rw [z]; exact x, y, z.symm⟩]
      · rw [if_neg x, if_neg (fun w => x (by rw [← z]; exact w.1))]
    · rw [if_neg y, if_neg (fun w => y w.2.1)]
  · rw [if_neg z, if_neg (fun w => z w.2.2.symm)]
