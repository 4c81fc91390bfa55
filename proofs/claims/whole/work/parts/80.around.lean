/-! around a cell: words, the squares around it -/
theorem loop_e {σ : Type} {Inv : Nat → σ → Prop} {X : (Int → Hp → Prop) → Nat → σ → Prop} (N : Nat) (s : σ) (h0 : Inv 0 s) (hs : ∀ k s, k < N → Inv k s → ∃ s', Inv (k + 1) s' ∧ ∀ Q, X Q k s = X Q (k + 1) s') : ∃ s', Inv N s' ∧ ∀ Q, X Q 0 s = X Q N s' := by
  have : ∀ k, k ≤ N → ∃ s', Inv k s' ∧ ∀ Q, X Q 0 s = X Q k s' := by
    intro k
    induction k with
    | zero => intro _; exact ⟨s, h0, fun _ => rfl⟩
    | succ k ih =>
      intro hk
      obtain ⟨s1, i1, e1⟩ := ih (by omega)
      obtain ⟨s2, i2, e2⟩ := hs k s1 (by omega) i1
      exact ⟨s2, i2, fun Q => (e1 Q).trans (e2 Q)⟩
  exact this N (Nat.le_refl N)
theorem cnt_pos {p : Int → Prop} [DecidablePred p] : ∀ {N : Nat}, 1 ≤ cnt p N → ∃ j : Nat, j < N ∧ p j
  | 0, h => by
    have h : (1 : Int) ≤ 0 := h
    omega
  | N + 1, h => by
    by_cases z : p N
    · exact ⟨N, by omega, z⟩
    · rw [cnt_f z] at h
      obtain ⟨j, j1, j2⟩ := cnt_pos h
      exact ⟨j, by omega, j2⟩
theorem cnt_ge {p : Int → Prop} [DecidablePred p] {j : Nat} (hp : p j) : ∀ {N : Nat}, j < N → 1 ≤ cnt p N
  | 0, h => absurd h (Nat.not_lt_zero _)
  | N + 1, h => by
    have b := cnt_b p N
    by_cases z : p N
    · rw [cnt_t z]; omega
    · rw [cnt_f z]
      have : j ≠ N := fun e => z (by rw [← e]; exact hp)
      exact cnt_ge hp (by omega)
theorem cnt_none {p : Int → Prop} [DecidablePred p] : ∀ {N : Nat}, (∀ j : Nat, j < N → ¬ p j) → cnt p N = 0
  | 0, _ => rfl
  | N + 1, h => by
    rw [cnt_f (h N (by omega))]
    exact cnt_none (fun j hj => h j (by omega))
theorem cnt_sm (p : Int → Prop) [DecidablePred p] : ∀ N : Nat, cnt p N = sm (fun i => if p i then 1 else 0) N
  | 0 => rfl
  | N + 1 => by
    show cnt p N + (if p N then 1 else 0) = sm (fun i => if p i then 1 else 0) N + (if p N then 1 else 0)
    rw [cnt_sm p N]
theorem cnt_app (p : Int → Prop) [DecidablePred p] (a : Nat) : ∀ b : Nat, cnt p (a + b) = cnt p a + cnt (fun i => p ((a : Int) + i)) b
  | 0 => by
    show cnt p a = cnt p a + 0
    omega
  | b + 1 => by
    have ih := cnt_app p a b
    show cnt p (a + b) + (if p ((a + b : Nat) : Int) then 1 else 0) = cnt p a + (cnt (fun i => p ((a : Int) + i)) b + (if p ((a : Int) + b) then 1 else 0))
    rw [ih, show ((a + b : Nat) : Int) = (a : Int) + b by omega]
    omega
theorem sm_add (f g : Int → Int) : ∀ N : Nat, sm (fun i => f i + g i) N = sm f N + sm g N
  | 0 => rfl
  | N + 1 => by
    show sm (fun i => f i + g i) N + (f N + g N) = (sm f N + f N) + (sm g N + g N)
    rw [sm_add f g N]
    omega
theorem sm_swap (F : Int → Int → Int) (M : Nat) : ∀ N : Nat, sm (fun c => sm (fun s => F c s) M) N = sm (fun s => sm (fun c => F c s) N) M
  | 0 => by
    show (0 : Int) = sm (fun s => 0) M
    have : ∀ M : Nat, sm (fun _ => 0) M = 0 := by
      intro M
      induction M with
      | zero => rfl
      | succ M ih => show sm (fun _ => 0) M + 0 = 0; rw [ih]; rfl
    rw [this]
  | N + 1 => by
    show sm (fun c => sm (fun s => F c s) M) N + sm (fun s => F N s) M = sm (fun s => sm (fun c => F c s) N + F N s) M
    rw [sm_swap F M N, sm_add]
theorem sm_le {f g : Int → Int} : ∀ N : Nat, (∀ j : Nat, j < N → f j ≤ g j) → sm f N ≤ sm g N
  | 0, _ => Int.le_refl _
  | N + 1, h => by
    have ih := sm_le N (fun j hj => h j (by omega))
    have hN := h N (by omega)
    show sm f N + f N ≤ sm g N + g N
    omega
theorem sm_mono {f : Int → Int} (h : ∀ j : Nat, 0 ≤ f j) : ∀ {a b : Nat}, a ≤ b → sm f a ≤ sm f b
  | a, 0, hab => by
    have : a = 0 := by omega
    subst this
    exact Int.le_refl _
  | a, b + 1, hab => by
    by_cases z : a = b + 1
    · subst z; exact Int.le_refl _
    · have ih := sm_mono h (a := a) (b := b) (by omega)
      have hb := h b
      show sm f a ≤ sm f b + f b
      omega
theorem sm_dl {v : Int} {i : Nat} : ∀ N : Nat, sm (fun c => if c = (i : Int) then v else 0) N = if i < N then v else 0
  | 0 => by rw [if_neg (Nat.not_lt_zero _)]; rfl
  | N + 1 => by
    show sm (fun c => if c = (i : Int) then v else 0) N + (if (N : Int) = (i : Int) then v else 0) = _
    rw [sm_dl N]
    by_cases z : i < N
    · rw [if_pos z, if_neg (by omega), if_pos (by omega)]; omega
    · rw [if_neg z]
      by_cases y : i = N
      · rw [if_pos (by omega), if_pos (by omega)]; omega
      · rw [if_neg (by omega), if_neg (by omega)]; rfl
/-- whose the square at a place around c is -/
abbrev aO (O : Int → Int) (c i : Int) : Int := O (16 * py c i + px c i)
abbrev aW (c i : Int) : Prop := onW (px c i) (py c i)
theorem inC_xy {b X Y : Int} (hx : 0 ≤ X ∧ X < 16) (hy : 0 ≤ Y ∧ Y < 16) : inC b (16 * Y + X) ↔ (gx b ≤ X ∧ X < gx b + gw b) ∧ gy b ≤ Y ∧ Y < gy b + gw b := by
  unfold inC
  rw [show (16 * Y + X) % 16 = X by omega, show (16 * Y + X) / 16 = Y by omega]
  constructor
  · rintro ⟨-, q⟩; exact q
  · intro q; exact ⟨by omega, q⟩
theorem p_side {c i : Int} (h0 : 0 ≤ i) (h1 : i < 4 * gw c) : (i < gw c ∧ px c i = gx c - 1 ∧ py c i = gy c + i) ∨ (gw c ≤ i ∧ i < 2 * gw c ∧ px c i = gx c + gw c ∧ py c i = gy c + (i - gw c)) ∨ (2 * gw c ≤ i ∧ i < 3 * gw c ∧ px c i = gx c + (i - 2 * gw c) ∧ py c i = gy c - 1) ∨ (3 * gw c ≤ i ∧ px c i = gx c + (i - 3 * gw c) ∧ py c i = gy c + gw c) := by
  have hw := gw_b c
  unfold px py
  by_cases z1 : i < gw c
  · exact Or.inl ⟨z1, by rw [if_pos z1], by rw [if_pos z1]⟩
  · by_cases z2 : i < 2 * gw c
    · exact Or.inr (Or.inl ⟨by omega, z2, by rw [if_neg z1, if_pos z2], by rw [if_neg z1, if_pos z2]⟩)
    · by_cases z3 : i < 3 * gw c
      · exact Or.inr (Or.inr (Or.inl ⟨by omega, z3, by rw [if_neg z1, if_neg z2, if_pos z3], by rw [if_neg z1, if_neg z2, if_pos z3]⟩))
      · exact Or.inr (Or.inr (Or.inr ⟨by omega, by rw [if_neg z1, if_neg z2, if_neg z3], by rw [if_neg z1, if_neg z2, if_neg z3]⟩))
/-- two cells that are there don't meet -/
theorem Prt_off {K O : Int → Int} {b c X Y : Int} (P : Prt K O) (hb : isN b) (hc : isN c) (kb : K b ≠ -1) (kc : K c ≠ -1) (hn : b ≠ c) (h1 : (gx b ≤ X ∧ X < gx b + gw b) ∧ gy b ≤ Y ∧ Y < gy b + gw b) (h2 : (gx c ≤ X ∧ X < gx c + gw c) ∧ gy c ≤ Y ∧ Y < gy c + gw c) : False := by
  have b1 := gx_b hb
  have b2 := gy_b hb
  have e1 := P.2 b (16 * Y + X) hb kb ((inC_xy (by omega) (by omega)).mpr h1)
  have e2 := P.2 c (16 * Y + X) hc kc ((inC_xy (by omega) (by omega)).mpr h2)
  exact hn (e1.symm.trans e2)
theorem aO_box {K O : Int → Int} {c i : Int} (P : Prt K O) (hw : aW c i) : isN (aO O c i) ∧ K (aO O c i) ≠ -1 ∧ (gx (aO O c i) ≤ px c i ∧ px c i < gx (aO O c i) + gw (aO O c i)) ∧ gy (aO O c i) ≤ py c i ∧ py c i < gy (aO O c i) + gw (aO O c i) := by
  have q := P.1 (16 * py c i + px c i) (by unfold aW onW at hw; omega) (by unfold aW onW at hw; omega)
  exact ⟨q.1, q.2.1, (inC_xy hw.1 hw.2).mp q.2.2⟩
theorem aO_of {K O : Int → Int} {c i b : Int} (P : Prt K O) (hb : isN b) (kb : K b ≠ -1) (h : (gx b ≤ px c i ∧ px c i < gx b + gw b) ∧ gy b ≤ py c i ∧ py c i < gy b + gw b) : aW c i ∧ aO O c i = b := by
  have b1 := gx_b hb
  have b2 := gy_b hb
  have hw : aW c i := ⟨by omega, by omega⟩
  exact ⟨hw, P.2 b _ hb kb ((inC_xy hw.1 hw.2).mpr h)⟩
theorem aO_ne {K O : Int → Int} {c i : Int} (P : Prt K O) (h0 : 0 ≤ i) (h1 : i < 4 * gw c) (hw : aW c i) : aO O c i ≠ c := by
  have q := (aO_box P hw).2.2
  intro e
  rw [e] at q
  have := p_side h0 h1
  omega
/-- a neighbour's squares come one behind the other -/
theorem contig {K O : Int → Int} {c i j : Int} (P : Prt K O) (hc : isN c) (kc : K c ≠ -1) (h0 : 0 ≤ j) (h1 : j < i) (h2 : i < 4 * gw c) (wj : aW c j) (wi : aW c i) (e : aO O c j = aO O c i) : aW c (i - 1) ∧ aO O c (i - 1) = aO O c i := by
  obtain ⟨n1, k1, b1⟩ := aO_box P wi
  obtain ⟨n2, k2, b2⟩ := aO_box P wj
  have hn := aO_ne P (c := c) (i := i) (by omega) h2 wi
  rw [e] at b2
  generalize aO O c i = b at *
  refine aO_of P n1 k1 ?_
  have hoff : ∀ X Y : Int, (gx b ≤ X ∧ X < gx b + gw b) ∧ gy b ≤ Y ∧ Y < gy b + gw b → (gx c ≤ X ∧ X < gx c + gw c) ∧ gy c ≤ Y ∧ Y < gy c + gw c → False := fun X Y q1 q2 => Prt_off P n1 hc k1 kc hn q1 q2
  have w1 := gw_b c
  have w2 := gw_b b
  have sj := p_side (c := c) (i := j) h0 (by omega)
  have si := p_side (c := c) (i := i) (by omega) h2
  have sm := p_side (c := c) (i := i - 1) (by omega) (by omega)
  rcases sj with sj | sj | sj | sj <;> rcases si with si | si | si | si
  · rw [sj.2.1, sj.2.2] at b2; rw [si.2.1, si.2.2] at b1; omega
  · rw [sj.2.1, sj.2.2] at b2; rw [si.2.2.1, si.2.2.2] at b1; exact absurd (hoff (gx c) (gy c + j) (by omega) (by omega)) id
  · rw [sj.2.1, sj.2.2] at b2; rw [si.2.2.1, si.2.2.2] at b1; exact absurd (hoff (gx c + (i - 2 * gw c)) (gy c + j) (by omega) (by omega)) id
  · rw [sj.2.1, sj.2.2] at b2; rw [si.2.1, si.2.2] at b1; exact absurd (hoff (gx c + (i - 3 * gw c)) (gy c + j) (by omega) (by omega)) id
  · omega
  · rw [sj.2.2.1, sj.2.2.2] at b2; rw [si.2.2.1, si.2.2.2] at b1; omega
  · rw [sj.2.2.1, sj.2.2.2] at b2; rw [si.2.2.1, si.2.2.2] at b1; exact absurd (hoff (gx c + (i - 2 * gw c)) (gy c + (j - gw c)) (by omega) (by omega)) id
  · rw [sj.2.2.1, sj.2.2.2] at b2; rw [si.2.1, si.2.2] at b1; exact absurd (hoff (gx c + (i - 3 * gw c)) (gy c + (j - gw c)) (by omega) (by omega)) id
  · omega
  · omega
  · rw [sj.2.2.1, sj.2.2.2] at b2; rw [si.2.2.1, si.2.2.2] at b1; omega
  · rw [sj.2.2.1, sj.2.2.2] at b2; rw [si.2.1, si.2.2] at b1; exact absurd (hoff (gx c + (j - 2 * gw c)) (gy c) (by omega) (by omega)) id
  · omega
  · omega
  · omega
  · rw [sj.2.1, sj.2.2] at b2; rw [si.2.1, si.2.2] at b1; omega
