/-! places of the cells -/
theorem td {a b : Int} (h : 0 ≤ a) : a.tdiv b = a / b := Int.tdiv_eq_ediv_of_nonneg h
theorem tm {a b : Int} (h : 0 ≤ a) : a.tmod b = a % b := Int.tmod_eq_emod_of_nonneg h
def gw (c : Int) : Int := if c < 16 then 4 else if c < 80 then 2 else 1
def gp (c : Int) : Int := (c - 16) / 4
def gx (c : Int) : Int := if c < 16 then 4 * (c % 4) else if c < 80 then 4 * (gp c % 4) + 2 * (c % 2) else 4 * (gp (gp c) % 4) + 2 * (gp c % 2) + c % 2
def gy (c : Int) : Int := if c < 16 then 4 * (c / 4) else if c < 80 then 4 * (gp c / 4) + 2 * (c / 2 % 2) else 4 * (gp (gp c) / 4) + 2 * (gp c / 2 % 2) + c / 2 % 2
abbrev isN (c : Int) : Prop := 0 ≤ c ∧ c < 336
theorem gw_b (c : Int) : 1 ≤ gw c ∧ gw c ≤ 4 := by
  unfold gw
  split
  · omega
  · split <;> omega
theorem gx_b {c : Int} (h : isN c) : 0 ≤ gx c ∧ gx c + gw c ≤ 16 := by
  unfold isN at h
  unfold gx gw gp
  split
  · omega
  · split <;> omega
theorem gy_b {c : Int} (h : isN c) : 0 ≤ gy c ∧ gy c + gw c ≤ 16 := by
  unfold isN at h
  unfold gy gw gp
  split
  · omega
  · split <;> omega
def GeoOK (h : Hp) : Prop := ∀ c : Int, 0 ≤ c → c < 336 → h 16 c = gx c ∧ h 17 c = gy c ∧ h 18 c = gw c
/-- square s (16 y + x) lies in the place of c -/
def inC (c s : Int) : Prop := (0 ≤ s ∧ s < 256) ∧ (gx c ≤ s % 16 ∧ s % 16 < gx c + gw c) ∧ gy c ≤ s / 16 ∧ s / 16 < gy c + gw c
theorem inC_dec (c s : Int) : inC c s ∨ ¬ inC c s := Classical.em _
noncomputable def pnt (f : Int → Int) (c : Int) : Int → Int := fun s => if (0 ≤ s ∧ s < 256) ∧ (gx c ≤ s % 16 ∧ s % 16 < gx c + gw c) ∧ gy c ≤ s / 16 ∧ s / 16 < gy c + gw c then c else f s
/-! contracts: the names, World's small ones -/
theorem e_firstChildOf {E : PvEnv} {d : Nat} {Q : Int → Hp → Prop} {h : Hp} {c : Int} (hc : 0 ≤ c ∧ c < 1000) : wpS E (d + 1) mX9_firstChildOf [(0, c)] h Q = Q (16 + 4 * c) h := by
  rw [u_X9_firstChildOf, w32_of (x := 4 * c) (by omega) (by omega), w32_of (by omega) (by omega)]
theorem e_parentOf {E : PvEnv} {d : Nat} {Q : Int → Hp → Prop} {h : Hp} {c : Int} (hc : 16 ≤ c ∧ c < 1000) : wpS E (d + 1) mX9_parentOf [(0, c)] h Q = Q (gp c) h := by
  rw [u_X9_parentOf, w32_of (x := c - 16) (by omega) (by omega), td (by omega), w32_of (by omega) (by omega)]
  rfl
theorem e_w_isThere {E : PvEnv} (hE : ∀ k, E 11 k = refT 11 k) {d : Nat} {Q : Int → Hp → Prop} {h : Hp} {c : Int} : wpS E (d + 2) mX8_isThere [(2, 11), (0, c)] h Q = Q (b2 ((0 ≤ c ∧ c < 336) ∧ h 12 c ≠ -1)) h := by
  rw [u_X8_isThere hE, e_isName, b2_if]
  by_cases hc : 0 ≤ c ∧ c < 336
  · rw [if_pos hc, and_tl hc]
    by_cases z : h 12 c = -1
    · rw [if_pos z, b2_f (fun w => w.2 z)]
    · rw [if_neg z, b2_t ⟨hc, z⟩]
  · rw [if_neg hc, b2_f (fun w => hc w.1)]
theorem e_isFlowing {E : PvEnv} (hE : ∀ k, E 11 k = refT 11 k) {d : Nat} {Q : Int → Hp → Prop} {h : Hp} {c : Int} : wpS E (d + 3) mX8_isFlowing [(2, 11), (0, c)] h Q = Q (b2 ((0 ≤ c ∧ c < 336) ∧ h 12 c ≠ -1 ∧ h 12 c ≠ 4)) h := by
  rw [u_X8_isFlowing hE, e_w_isThere hE, b2_if]
  by_cases hc : (0 ≤ c ∧ c < 336) ∧ h 12 c ≠ -1
  · rw [if_pos hc, and_tl hc.1]
    by_cases z : h 12 c = 4
    · rw [if_pos z, b2_f (fun w => w.2.2 z)]
    · rw [if_neg z, b2_t ⟨hc.1, hc.2, z⟩]
  · rw [if_neg hc, b2_f (fun w => hc ⟨w.1, w.2.1⟩)]
theorem sq_ix {x y : Int} (hx : 0 ≤ x ∧ x < 16) (hy : 0 ≤ y ∧ y < 16) : w32 (w32 (y * 16) + x) = 16 * y + x := by
  rw [w32_of (x := y * 16) (by omega) (by omega), w32_of (by omega) (by omega)]
  omega
theorem e_ownerAt {E : PvEnv} (hE : ∀ k, E 11 k = refT 11 k) {d : Nat} {Q : Int → Hp → Prop} {h : Hp} {x y : Int} : wpS E (d + 2) mX8_ownerAt [(2, 11), (0, x), (0, y)] h Q = Q (if (0 ≤ x ∧ x < 16) ∧ 0 ≤ y ∧ y < 16 then h 19 (16 * y + x) else -1) h := by
  rw [u_X8_ownerAt hE, e_isOnWorld, b2_if]
  by_cases hc : (0 ≤ x ∧ x < 16) ∧ 0 ≤ y ∧ y < 16
  · rw [if_pos hc, if_pos hc, sq_ix hc.1 hc.2, and_tl (by omega)]
  · rw [if_neg hc, if_neg hc]
theorem e_giverAt {E : PvEnv} (hE : ∀ k, E 11 k = refT 11 k) {d : Nat} {Q : Int → Hp → Prop} {h : Hp} {x y : Int} (ho : (0 ≤ x ∧ x < 16) ∧ 0 ≤ y ∧ y < 16) (hn : isN (h 19 (16 * y + x))) : wpS E (d + 3) mX8_giverAt [(2, 11), (0, x), (0, y)] h Q = Q (h 14 (h 19 (16 * y + x))) h := by
  rw [u_X8_giverAt hE, e_ownerAt hE, if_pos ho, e_isName, b2_if, if_pos hn, and_tl hn]
theorem e_markOf {E : PvEnv} (hE : ∀ k, E 11 k = refT 11 k) {d : Nat} {Q : Int → Hp → Prop} {h : Hp} {c : Int} (hc : isN c) : wpS E (d + 1) mX8_markOf [(2, 11), (0, c)] h Q = Q (if h 12 c = 2 ∧ h 15 c < 0 then h 13 c else h 15 c) h := by
  rw [u_X8_markOf hE, b_X8_markOf_28 hE]
  simp only [and_tl (show 0 ≤ c ∧ c < 336 from hc)]
  by_cases z : h 12 c = 2
  · rw [if_pos z]
    by_cases w : h 15 c < 0
    · rw [if_pos w, if_pos ⟨z, w⟩]
    · rw [if_neg w, if_neg (fun q => w q.2)]
  · rw [if_neg z, if_neg (fun q => z q.1)]
/-- what become() writes -/
def bec (h : Hp) (c k : Int) : Hp := hst (hst h 12 c k) 15 c (if k = 2 then -1 else if k = 4 then h 11 8 else 0)
theorem e_become {E : PvEnv} (hE : ∀ k, E 11 k = refT 11 k) {d : Nat} {Q : Int → Hp → Prop} {h : Hp} {c k : Int} (hc : isN c) : wpS E (d + 1) mX8_become [(2, 11), (0, c), (0, k)] h Q = Q 0 (bec h c k) := by
  rw [u_X8_become hE]
  simp only [and_tl (show 0 ≤ c ∧ c < 336 from hc)]
  unfold bec
  by_cases z : k = 2
  · rw [if_pos z, if_pos z]
  · rw [if_neg z, if_neg z]
    by_cases w : k = 4
    · rw [if_pos w, if_pos w, hst_off h (by decide)]
    · rw [if_neg w, if_neg w]
theorem e_canPart {E : PvEnv} (hE : ∀ k, E 11 k = refT 11 k) {d : Nat} {Q : Int → Hp → Prop} {h : Hp} {c : Int} : wpS E (d + 1) mX8_canPart [(2, 11), (0, c)] h Q = Q (b2 ((0 ≤ c ∧ c < 80) ∧ (h 12 c = 0 ∨ h 12 c = 1))) h := by
  rw [u_X8_canPart hE]
  by_cases h1 : c < 0
  · rw [if_pos h1, b2_f (by omega)]
  · rw [if_neg h1]
    by_cases h2 : c < 80
    · rw [if_pos h2, and_tl (by omega)]
      by_cases h3 : h 12 c = 0
      · rw [if_pos h3, b2_t (by omega)]
      · rw [if_neg h3, and_tl (by omega)]
        by_cases h4 : h 12 c = 1
        · rw [if_pos h4, b2_t (by omega)]
        · rw [if_neg h4, b2_f (by omega)]
    · rw [if_neg h2, b2_f (by omega)]
/-- the four that came from c are there / are FINE -/
def four (k : Int → Int) (c : Int) : Prop := k (16 + 4 * c) ≠ -1 ∧ k (16 + 4 * c + 1) ≠ -1 ∧ k (16 + 4 * c + 2) ≠ -1 ∧ k (16 + 4 * c + 3) ≠ -1
def fourF (k : Int → Int) (c : Int) : Prop := k (16 + 4 * c) = 1 ∧ k (16 + 4 * c + 1) = 1 ∧ k (16 + 4 * c + 2) = 1 ∧ k (16 + 4 * c + 3) = 1
def sum4 (a : Int → Int) (c : Int) : Int := a (16 + 4 * c) + a (16 + 4 * c + 1) + a (16 + 4 * c + 2) + a (16 + 4 * c + 3)
theorem e_hasFour {E : PvEnv} (hE : ∀ k, E 11 k = refT 11 k) {d : Nat} {Q : Int → Hp → Prop} {h : Hp} {c : Int} (hc : 0 ≤ c ∧ c < 80) : wpS E (d + 3) mX8_hasFour [(2, 11), (0, c)] h Q = Q (if h 12 (16 + 4 * c) ≠ -1 ∧ h 12 (16 + 4 * c + 1) ≠ -1 ∧ h 12 (16 + 4 * c + 2) ≠ -1 ∧ h 12 (16 + 4 * c + 3) ≠ -1 then 1 else 0) h := by
  rw [u_X8_hasFour hE, e_firstChildOf (by omega)]
  simp only [e_w_isThere hE, b2_if]
  rw [w32_of (x := 16 + 4 * c + 1) (by omega) (by omega), w32_of (x := 16 + 4 * c + 2) (by omega) (by omega), w32_of (x := 16 + 4 * c + 3) (by omega) (by omega)]
  have hq : ∀ k : Int, 0 ≤ k → k ≤ 3 → 0 ≤ 16 + 4 * c + k ∧ 16 + 4 * c + k < 336 := fun k h1 h2 => by omega
  by_cases z0 : h 12 (16 + 4 * c) = -1
  · rw [if_neg (fun w => w.2 z0), if_neg (fun w => w.1 z0)]
  · rw [if_pos ⟨by omega, z0⟩]
    by_cases z1 : h 12 (16 + 4 * c + 1) = -1
    · rw [if_neg (fun w => w.2 z1), if_neg (fun w => w.2.1 z1)]
    · rw [if_pos ⟨hq 1 (by omega) (by omega), z1⟩]
      by_cases z2 : h 12 (16 + 4 * c + 2) = -1
      · rw [if_neg (fun w => w.2 z2), if_neg (fun w => w.2.2.1 z2)]
      · rw [if_pos ⟨hq 2 (by omega) (by omega), z2⟩]
        by_cases z3 : h 12 (16 + 4 * c + 3) = -1
        · rw [if_neg (fun w => w.2 z3), if_neg (fun w => w.2.2.2 z3)]
        · rw [if_pos ⟨hq 3 (by omega) (by omega), z3⟩, if_pos ⟨z0, z1, z2, z3⟩]
theorem e_hasFourFine {E : PvEnv} (hE : ∀ k, E 11 k = refT 11 k) {d : Nat} {Q : Int → Hp → Prop} {h : Hp} {c : Int} (hc : 0 ≤ c ∧ c < 80) : wpS E (d + 4) mX8_hasFourFine [(2, 11), (0, c)] h Q = Q (if h 12 (16 + 4 * c) = 1 ∧ h 12 (16 + 4 * c + 1) = 1 ∧ h 12 (16 + 4 * c + 2) = 1 ∧ h 12 (16 + 4 * c + 3) = 1 then 1 else 0) h := by
  rw [u_X8_hasFourFine hE, e_hasFour hE hc, e_firstChildOf (by omega)]
  rw [w32_of (x := 16 + 4 * c + 1) (by omega) (by omega), w32_of (x := 16 + 4 * c + 2) (by omega) (by omega), w32_of (x := 16 + 4 * c + 3) (by omega) (by omega)]
  rw [and_tl (show 0 ≤ 16 + 4 * c ∧ 16 + 4 * c < 336 by omega), and_tl (show 0 ≤ 16 + 4 * c + 1 ∧ 16 + 4 * c + 1 < 336 by omega), and_tl (show 0 ≤ 16 + 4 * c + 2 ∧ 16 + 4 * c + 2 < 336 by omega), and_tl (show 0 ≤ 16 + 4 * c + 3 ∧ 16 + 4 * c + 3 < 336 by omega)]
  generalize h 12 (16 + 4 * c) = p0
  generalize h 12 (16 + 4 * c + 1) = p1
  generalize h 12 (16 + 4 * c + 2) = p2
  generalize h 12 (16 + 4 * c + 3) = p3
  repeat' split
  all_goals first | rfl | (exfalso; omega)
theorem e_sumOfFour {E : PvEnv} (hE : ∀ k, E 11 k = refT 11 k) {d : Nat} {Q : Int → Hp → Prop} {h : Hp} {c : Int} (hc : 0 ≤ c ∧ c < 80) (hf : h 12 (16 + 4 * c) ≠ -1 ∧ h 12 (16 + 4 * c + 1) ≠ -1 ∧ h 12 (16 + 4 * c + 2) ≠ -1 ∧ h 12 (16 + 4 * c + 3) ≠ -1) (ha : ∀ k : Int, 0 ≤ k → k < 336 → 0 ≤ h 13 k ∧ h 13 k ≤ 1000000) : wpS E (d + 4) mX8_sumOfFour [(2, 11), (0, c)] h Q = Q (sum4 (h 13) c) h := by
  rw [u_X8_sumOfFour hE, e_hasFour hE hc, if_pos hf, if_neg (by decide), e_firstChildOf (by omega)]
  rw [w32_of (x := 16 + 4 * c + 1) (by omega) (by omega), w32_of (x := 16 + 4 * c + 2) (by omega) (by omega), w32_of (x := 16 + 4 * c + 3) (by omega) (by omega)]
  rw [and_tl (show 0 ≤ 16 + 4 * c ∧ 16 + 4 * c < 336 by omega), and_tl (show 0 ≤ 16 + 4 * c + 1 ∧ 16 + 4 * c + 1 < 336 by omega), and_tl (show 0 ≤ 16 + 4 * c + 2 ∧ 16 + 4 * c + 2 < 336 by omega), and_tl (show 0 ≤ 16 + 4 * c + 3 ∧ 16 + 4 * c + 3 < 336 by omega)]
  have q0 := ha (16 + 4 * c) (by omega) (by omega)
  have q1 := ha (16 + 4 * c + 1) (by omega) (by omega)
  have q2 := ha (16 + 4 * c + 2) (by omega) (by omega)
  have q3 := ha (16 + 4 * c + 3) (by omega) (by omega)
  unfold sum4
  rw [w32_of (x := h 13 (16 + 4 * c) + h 13 (16 + 4 * c + 1)) (by omega) (by omega), w32_of (x := h 13 (16 + 4 * c) + h 13 (16 + 4 * c + 1) + h 13 (16 + 4 * c + 2)) (by omega) (by omega), w32_of (by omega) (by omega)]
/-! painting -/
theorem e_paint {E : PvEnv} (hE : ∀ k, E 11 k = refT 11 k) {d : Nat} {Q : Int → Hp → Prop} {h : Hp} {c : Int} (hc : isN c) (hg : GeoOK h) : wpS E (d + 2) mX8_paint [(2, 11), (0, c)] h Q = Q 0 (hrow (hst h 11 9 1) 19 (pnt (h 19) c)) := by
  have hc' : 0 ≤ c ∧ c < 336 := hc
  obtain ⟨g1, g2, g3⟩ := hg c hc.1 hc.2
  have bx := gx_b hc
  have by' := gy_b hc
  have bw := gw_b c
  rw [u_X8_paint hE, and_tl hc', hst_off h (by decide), g2]
  -- rows y of the place that are painted, and x of the row in work
  let F : Int → Int → Int → Int := fun y x s => if (0 ≤ s ∧ s < 256) ∧ (gx c ≤ s % 16 ∧ s % 16 < gx c + gw c) ∧ gy c ≤ s / 16 ∧ (s / 16 < y ∨ (s / 16 = y ∧ s % 16 < x)) then c else h 19 s
  have rd : ∀ (f : Int → Int) (a j : Int), a ≠ 19 → a ≠ 11 → hrow (hst h 11 9 1) 19 f a j = h a j := fun f a j h1 h2 => by rw [hrow_n _ _ h1, hst_off h h2]
  have inner : ∀ y : Int, gy c ≤ y → y < gy c + gw c → ∀ k : Nat, (k : Int) < gw c → Ws E (d + 1) mX8_paint Q 36 [(2, 11), (0, c), (0, y), (0, gx c + (k : Int))] [] (hrow (hst h 11 9 1) 19 (F y (gx c + (k : Int)))) = Ws E (d + 1) mX8_paint Q 36 [(2, 11), (0, c), (0, y), (0, gx c + ((k + 1 : Nat) : Int))] [] (hrow (hst h 11 9 1) 19 (F y (gx c + ((k + 1 : Nat) : Int)))) := by
    intro y h1 h2 k h3
    rw [b_X8_paint_36 hE, and_tl hc', and_tl hc', rd _ 16 c (by decide) (by decide), rd _ 18 c (by decide) (by decide), g1, g3, w32_of (x := gx c + gw c) (by omega) (by omega), if_pos (by omega), e_isOnWorld, b2_if, if_pos (by omega), sq_ix (by omega) (by omega), and_tl (by omega), w32_of (by omega) (by omega), hst_rr]
    rw [show gx c + (k : Int) + 1 = gx c + ((k + 1 : Nat) : Int) by omega]
    congr 2
    funext s
    unfold up
    show _ = F y (gx c + ((k + 1 : Nat) : Int)) s
    by_cases z : s = 16 * y + (gx c + (k : Int))
    · rw [if_pos z]
      show c = if _ then _ else _
      rw [if_pos (by omega)]
    · rw [if_neg z]
      show (if _ then _ else _) = if _ then _ else _
      by_cases w : (0 ≤ s ∧ s < 256) ∧ (gx c ≤ s % 16 ∧ s % 16 < gx c + gw c) ∧ gy c ≤ s / 16 ∧ (s / 16 < y ∨ (s / 16 = y ∧ s % 16 < gx c + (k : Int)))
      · rw [if_pos w, if_pos (by omega)]
      · rw [if_neg w, if_neg (by omega)]
  have outer : ∀ k : Nat, (k : Int) < gw c → ∀ v3 : PV, Ws E (d + 1) mX8_paint Q 12 [(2, 11), (0, c), (0, gy c + (k : Int)), v3] [] (hrow (hst h 11 9 1) 19 (F (gy c + (k : Int)) (gx c))) = Ws E (d + 1) mX8_paint Q 12 [(2, 11), (0, c), (0, gy c + ((k + 1 : Nat) : Int)), (0, gx c + gw c)] [] (hrow (hst h 11 9 1) 19 (F (gy c + ((k + 1 : Nat) : Int)) (gx c))) := by
    intro k h3 v3
    rw [b_X8_paint_12 hE, and_tl hc', and_tl hc', rd _ 17 c (by decide) (by decide), rd _ 18 c (by decide) (by decide), g2, g3, w32_of (x := gy c + gw c) (by omega) (by omega), if_pos (by omega), and_tl hc', rd _ 16 c (by decide) (by decide), g1]
    have key := loop_n (P := fun j => Ws E (d + 1) mX8_paint Q 36 [(2, 11), (0, c), (0, gy c + (k : Int)), (0, gx c + (j : Int))] [] (hrow (hst h 11 9 1) 19 (F (gy c + (k : Int)) (gx c + (j : Int))))) (gw c).toNat (fun j hj => inner (gy c + (k : Int)) (by omega) (by omega) j (by omega))
    have ew : (((gw c).toNat : Nat) : Int) = gw c := by omega
    rw [ew] at key
    have e0 : gx c + ((0 : Nat) : Int) = gx c := by omega
    rw [e0] at key
    refine key.trans ?_
    rw [b_X8_paint_36 hE, and_tl hc', and_tl hc', rd _ 16 c (by decide) (by decide), rd _ 18 c (by decide) (by decide), g1, g3, w32_of (x := gx c + gw c) (by omega) (by omega), if_neg (by omega), w32_of (by omega) (by omega)]
    rw [show gy c + (k : Int) + 1 = gy c + ((k + 1 : Nat) : Int) by omega]
    congr 2
    funext s
    show (if _ then _ else _) = if _ then _ else _
    by_cases w : (0 ≤ s ∧ s < 256) ∧ (gx c ≤ s % 16 ∧ s % 16 < gx c + gw c) ∧ gy c ≤ s / 16 ∧ (s / 16 < gy c + (k : Int) ∨ (s / 16 = gy c + (k : Int) ∧ s % 16 < gx c + gw c))
    · rw [if_pos w, if_pos (by omega)]
    · rw [if_neg w, if_neg (by omega)]
  -- all rows
  have all : ∀ (j : Nat), (j : Int) ≤ gw c → ∀ v3 : PV, ∃ v3' : PV, Ws E (d + 1) mX8_paint Q 12 [(2, 11), (0, c), (0, gy c), v3] [] (hrow (hst h 11 9 1) 19 (F (gy c) (gx c))) = Ws E (d + 1) mX8_paint Q 12 [(2, 11), (0, c), (0, gy c + (j : Int)), v3'] [] (hrow (hst h 11 9 1) 19 (F (gy c + (j : Int)) (gx c))) := by
    intro j
    induction j with
    | zero => intro _ v3; exact ⟨v3, by rw [show gy c + ((0 : Nat) : Int) = gy c by omega]⟩
    | succ j ih =>
      intro hj v3
      obtain ⟨v3', h1⟩ := ih (by omega) v3
      exact ⟨_, h1.trans (outer j (by omega) v3')⟩
  have e0 : hrow (hst h 11 9 1) 19 (F (gy c) (gx c)) = hst h 11 9 1 := by
    have : F (gy c) (gx c) = hst h 11 9 1 19 := by
      funext s
      rw [hst_off h (by decide)]
      show (if _ then _ else _) = _
      rw [if_neg (by omega)]
    rw [this, hrow_self]
  obtain ⟨v3', h1⟩ := all (gw c).toNat (by omega) (9, 0)
  rw [e0] at h1
  rw [h1]
  have ew : (((gw c).toNat : Nat) : Int) = gw c := by omega
  rw [ew, b_X8_paint_12 hE, and_tl hc', and_tl hc', rd _ 17 c (by decide) (by decide), rd _ 18 c (by decide) (by decide), g2, g3, w32_of (x := gy c + gw c) (by omega) (by omega), if_neg (by omega)]
  congr 2
  funext s
  unfold pnt
  show (if _ then _ else _) = if _ then _ else _
  by_cases w : (0 ≤ s ∧ s < 256) ∧ (gx c ≤ s % 16 ∧ s % 16 < gx c + gw c) ∧ gy c ≤ s / 16 ∧ s / 16 < gy c + gw c
  · rw [if_pos w, if_pos (by omega)]
  · rw [if_neg w, if_neg (by omega)]
