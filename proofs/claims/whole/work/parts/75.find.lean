/-! find -/
def alw (p : Int → Prop) [DecidablePred p] : Nat → Int
  | 0 => 1
  | k + 1 => if alw p k = 0 then 0 else if p k then 1 else 0
theorem alw_b (p : Int → Prop) [DecidablePred p] : ∀ k : Nat, (alw p k = 1 ∧ ∀ j : Nat, j < k → p j) ∨ (alw p k = 0 ∧ ¬ ∀ j : Nat, j < k → p j)
  | 0 => Or.inl ⟨rfl, fun j h => absurd h (Nat.not_lt_zero j)⟩
  | k + 1 => by
    show ((if alw p k = 0 then 0 else if p k then 1 else 0) = (1 : Int) ∧ _) ∨ ((if alw p k = 0 then 0 else if p k then 1 else 0) = (0 : Int) ∧ _)
    rcases alw_b p k with ⟨e, h⟩ | ⟨e, h⟩
    · rw [if_neg (by rw [e]; decide)]
      by_cases z : p k
      · rw [if_pos z]
        refine Or.inl ⟨rfl, fun j hj => ?_⟩
        by_cases y : j = k
        · rw [y]; exact z
        · exact h j (by omega)
      · rw [if_neg z]
        exact Or.inr ⟨rfl, fun q => z (q k (by omega))⟩
    · rw [if_pos e]
      exact Or.inr ⟨rfl, fun q => h (fun j hj => q j (by omega))⟩
theorem fst_fail (p : Nat → Prop) : ∀ N : Nat, (∀ j, j < N → p j) ∨ ∃ k, k < N ∧ (∀ j, j < k → p j) ∧ ¬ p k
  | 0 => Or.inl (fun j h => absurd h (Nat.not_lt_zero j))
  | N + 1 => by
    rcases fst_fail p N with h | ⟨k, h1, h2, h3⟩
    · by_cases z : p N
      · refine Or.inl (fun j hj => ?_)
        by_cases y : j = N
        · rw [y]; exact z
        · exact h j (by omega)
      · exact Or.inr ⟨N, by omega, h, z⟩
    · exact Or.inr ⟨k, by omega, h2, h3⟩
def lst (p : Int → Prop) [DecidablePred p] : Nat → Int
  | 0 => -9
  | k + 1 => if p k then (k : Int) else lst p k
theorem cnt_z {p : Int → Prop} [DecidablePred p] : ∀ N : Nat, cnt p N = 0 → ∀ j : Nat, j < N → ¬ p j
  | 0, _, j, h => absurd h (Nat.not_lt_zero j)
  | N + 1, e, j, h => by
    have b := cnt_b p N
    by_cases z : p N
    · rw [cnt_t z] at e
      omega
    · rw [cnt_f z] at e
      by_cases y : j = N
      · rw [y]; exact z
      · exact cnt_z N e j (by omega)
theorem cnt_1 {p : Int → Prop} [DecidablePred p] : ∀ N : Nat, cnt p N = 1 → ∃ f : Nat, f < N ∧ p f ∧ lst p N = f ∧ ∀ j : Nat, j < N → j ≠ f → ¬ p j
  | 0, e => by
    have e : (0 : Int) = 1 := e
    omega
  | N + 1, e => by
    by_cases z : p N
    · rw [cnt_t z] at e
      have h := cnt_z N (show cnt p N = 0 by omega)
      exact ⟨N, by omega, z, if_pos z, fun j hj hn => h j (by omega)⟩
    · rw [cnt_f z] at e
      obtain ⟨f, h1, h2, h3, h4⟩ := cnt_1 N e
      refine ⟨f, by omega, h2, (if_neg z).trans h3, fun j hj hn => ?_⟩
      by_cases y : j = N
      · rw [y]; exact z
      · exact h4 j (by omega) hn
theorem sm_one {f g : Int → Int} {i : Nat} : ∀ N : Nat, i < N → (∀ j : Nat, j < N → j ≠ i → f j = g j) → sm f N - sm g N = f i - g i
  | 0, h, _ => absurd h (Nat.not_lt_zero i)
  | N + 1, h, e => by
    show (sm f N + f N) - (sm g N + g N) = f i - g i
    by_cases z : i = N
    · subst z
      rw [sm_c i (fun j hj => e j (by omega) (by omega))]
      omega
    · have ih := sm_one N (show i < N by omega) (fun j hj hn => e j (by omega) hn)
      have eN := e N (by omega) (fun q => z q.symm)
      omega
theorem e_hasSame_a {n : Int} {d : Nat} {Q : Int → Hp → Prop} {h : Hp} {w : Int} (hw : (w = 1 ∧ ∀ j : Nat, j < 336 → (h 12 j ≠ -1 ↔ h 38 j ≠ -1)) ∨ (w = 0 ∧ ¬ ∀ j : Nat, j < 336 → (h 12 j ≠ -1 ↔ h 38 j ≠ -1))) : wpS (EF n) (d + 3) mX3_hasSameCells [(2, 37), (2, 11)] h Q = Q w h := by
  rw [u_X3_hasSameCells_a]
  have st : ∀ k : Nat, k < 336 → Ws (EF n) (d + 2) mX3_hasSameCells Q 2 [(2, 37), (2, 11), (0, (k : Int))] [] h = if (h 12 k ≠ -1 ↔ h 38 k ≠ -1) then Ws (EF n) (d + 2) mX3_hasSameCells Q 2 [(2, 37), (2, 11), (0, ((k + 1 : Nat) : Int))] [] h else Q 0 h := by
    intro k hk
    rw [b_X3_hasSameCells_a_2, if_pos (by omega), e_w_isThere (EF_11 n), and_tl (by omega), b_X3_hasSameCells_a_29, b_X3_hasSameCells_a_29, w32_n1 (by omega)]
    by_cases z : h 12 (k : Int) = -1
    · rw [b2_f (fun q => q.2 z)]
      by_cases y : h 38 (k : Int) = -1
      · rw [if_pos y, if_pos rfl, if_pos ⟨fun q => absurd z q, fun q => absurd y q⟩]
      · rw [if_neg y, if_neg (by decide), if_neg (fun q => (q.mpr y) z)]
    · rw [b2_t ⟨by omega, z⟩]
      by_cases y : h 38 (k : Int) = -1
      · rw [if_pos y, if_neg (by decide), if_neg (fun q => (q.mp z) y)]
      · rw [if_neg y, if_pos rfl, if_pos ⟨fun _ => y, fun _ => z⟩]
  have go : ∀ N : Nat, N ≤ 336 → (∀ j : Nat, j < N → (h 12 j ≠ -1 ↔ h 38 j ≠ -1)) → Ws (EF n) (d + 2) mX3_hasSameCells Q 2 [(2, 37), (2, 11), (0, 0)] [] h = Ws (EF n) (d + 2) mX3_hasSameCells Q 2 [(2, 37), (2, 11), (0, (N : Int))] [] h := fun N hN ha =>
    loop_n (P := fun k => Ws (EF n) (d + 2) mX3_hasSameCells Q 2 [(2, 37), (2, 11), (0, (k : Int))] [] h) N (fun k hk => by rw [st k (by omega), if_pos (ha k hk)])
  rcases hw with ⟨rfl, ha⟩ | ⟨rfl, ha⟩
  · rw [go 336 (Nat.le_refl _) ha, b_X3_hasSameCells_a_2, if_neg (by decide)]
  · rcases fst_fail (fun j : Nat => (h 12 j ≠ -1 ↔ h 38 j ≠ -1)) 336 with hb | ⟨k, k1, k2, k3⟩
    · exact absurd hb ha
    · rw [go k (by omega) k2, st k k1, if_neg k3]
theorem e_othersIn_a {n : Int} {d : Nat} {Q : Int → Hp → Prop} {h : Hp} : wpS (EF n) (d + 3) mX3_othersIn [(2, 37), (2, 11)] h Q = Q (cnt (fun c => h 12 c ≠ -1 ∧ h 13 c ≠ h 39 c) 336) h := by
  rw [u_X3_othersIn_a]
  have l := count_loop (P := fun a k => Ws (EF n) (d + 2) mX3_othersIn Q 4 [(2, 37), (2, 11), (0, a), (0, k)] [] h) (fun c => h 12 c ≠ -1 ∧ h 13 c ≠ h 39 c) 336 (by
    intro k a hk h0 h1
    show Ws (EF n) (d + 2) mX3_othersIn Q 4 [(2, 37), (2, 11), (0, a), (0, (k : Int))] [] h = _
    rw [b_X3_othersIn_a_4, if_pos (by omega), e_w_isThere (EF_11 n), b2_if, w32_n1 (by omega), w32_1 (by omega) (by omega)]
    by_cases z : h 12 (k : Int) = -1
    · rw [if_neg (fun q => q.2 z), if_neg (fun q => q.1 z)]
    · rw [if_pos (show (0 ≤ (k : Int) ∧ (k : Int) < 336) ∧ h 12 (k : Int) ≠ -1 from ⟨by omega, z⟩), and_tl (by omega), and_tl (by omega)]
      by_cases y : h 13 (k : Int) = h 39 k
      · rw [if_pos y, if_neg (fun q => q.2 y)]
      · rw [if_neg y, if_pos ⟨z, y⟩])
  refine l.trans ?_
  show Ws (EF n) (d + 2) mX3_othersIn Q 4 [(2, 37), (2, 11), (0, _), (0, ((336 : Nat) : Int))] [] h = _
  rw [b_X3_othersIn_a_4, if_neg (by decide)]
theorem e_moreIn_a {n : Int} {d : Nat} {Q : Int → Hp → Prop} {h : Hp} (ha : ∀ k : Int, 0 ≤ k → k < 336 → 0 ≤ h 13 k ∧ h 13 k ≤ 1000000) : wpS (EF n) (d + 4) mX3_moreIn [(2, 37), (2, 11)] h Q = Q (w32 (w64 (sAm (h 12) (h 13) - h 37 4))) h := by
  rw [u_X3_moreIn_a, e_sumOfAmounts (EF_11 n) ha]
theorem e_flippedIn_a {n : Int} {d : Nat} {Q : Int → Hp → Prop} {h : Hp} (ha : ∀ k : Int, 0 ≤ k → k < 336 → 0 ≤ h 13 k ∧ h 13 k ≤ 1000000) (hn : w64 (sAm (h 12) (h 13) - h 37 4) ≠ 0) : wpS (EF n) (d + 4) mX3_flippedIn [(2, 37), (2, 11)] h Q = Q (w32 (w32 (w64 (Int.tdiv (w64 (sNm (h 12) (h 13) - h 37 5)) (w64 (sAm (h 12) (h 13) - h 37 4)))) - 1)) h := by
  rw [u_X3_flippedIn_a, e_sumOfAmounts (EF_11 n) ha, lc_eq, if_neg hn, e_sumByNames (EF_11 n) ha, and_tl hn]
theorem e_hasSame_b {n : Int} {d : Nat} {Q : Int → Hp → Prop} {h : Hp} {w : Int} (hw : (w = 1 ∧ ∀ j : Nat, j < 336 → (h 12 j ≠ -1 ↔ h 42 j ≠ -1)) ∨ (w = 0 ∧ ¬ ∀ j : Nat, j < 336 → (h 12 j ≠ -1 ↔ h 42 j ≠ -1))) : wpS (EF n) (d + 3) mX3_hasSameCells [(2, 41), (2, 11)] h Q = Q w h := by
  rw [u_X3_hasSameCells_b]
  have st : ∀ k : Nat, k < 336 → Ws (EF n) (d + 2) mX3_hasSameCells Q 2 [(2, 41), (2, 11), (0, (k : Int))] [] h = if (h 12 k ≠ -1 ↔ h 42 k ≠ -1) then Ws (EF n) (d + 2) mX3_hasSameCells Q 2 [(2, 41), (2, 11), (0, ((k + 1 : Nat) : Int))] [] h else Q 0 h := by
    intro k hk
    rw [b_X3_hasSameCells_b_2, if_pos (by omega), e_w_isThere (EF_11 n), and_tl (by omega), b_X3_hasSameCells_b_29, b_X3_hasSameCells_b_29, w32_n1 (by omega)]
    by_cases z : h 12 (k : Int) = -1
    · rw [b2_f (fun q => q.2 z)]
      by_cases y : h 42 (k : Int) = -1
      · rw [if_pos y, if_pos rfl, if_pos ⟨fun q => absurd z q, fun q => absurd y q⟩]
      · rw [if_neg y, if_neg (by decide), if_neg (fun q => (q.mpr y) z)]
    · rw [b2_t ⟨by omega, z⟩]
      by_cases y : h 42 (k : Int) = -1
      · rw [if_pos y, if_neg (by decide), if_neg (fun q => (q.mp z) y)]
      · rw [if_neg y, if_pos rfl, if_pos ⟨fun _ => y, fun _ => z⟩]
  have go : ∀ N : Nat, N ≤ 336 → (∀ j : Nat, j < N → (h 12 j ≠ -1 ↔ h 42 j ≠ -1)) → Ws (EF n) (d + 2) mX3_hasSameCells Q 2 [(2, 41), (2, 11), (0, 0)] [] h = Ws (EF n) (d + 2) mX3_hasSameCells Q 2 [(2, 41), (2, 11), (0, (N : Int))] [] h := fun N hN ha =>
    loop_n (P := fun k => Ws (EF n) (d + 2) mX3_hasSameCells Q 2 [(2, 41), (2, 11), (0, (k : Int))] [] h) N (fun k hk => by rw [st k (by omega), if_pos (ha k hk)])
  rcases hw with ⟨rfl, ha⟩ | ⟨rfl, ha⟩
  · rw [go 336 (Nat.le_refl _) ha, b_X3_hasSameCells_b_2, if_neg (by decide)]
  · rcases fst_fail (fun j : Nat => (h 12 j ≠ -1 ↔ h 42 j ≠ -1)) 336 with hb | ⟨k, k1, k2, k3⟩
    · exact absurd hb ha
    · rw [go k (by omega) k2, st k k1, if_neg k3]
theorem e_othersIn_b {n : Int} {d : Nat} {Q : Int → Hp → Prop} {h : Hp} : wpS (EF n) (d + 3) mX3_othersIn [(2, 41), (2, 11)] h Q = Q (cnt (fun c => h 12 c ≠ -1 ∧ h 13 c ≠ h 43 c) 336) h := by
  rw [u_X3_othersIn_b]
  have l := count_loop (P := fun a k => Ws (EF n) (d + 2) mX3_othersIn Q 4 [(2, 41), (2, 11), (0, a), (0, k)] [] h) (fun c => h 12 c ≠ -1 ∧ h 13 c ≠ h 43 c) 336 (by
    intro k a hk h0 h1
    show Ws (EF n) (d + 2) mX3_othersIn Q 4 [(2, 41), (2, 11), (0, a), (0, (k : Int))] [] h = _
    rw [b_X3_othersIn_b_4, if_pos (by omega), e_w_isThere (EF_11 n), b2_if, w32_n1 (by omega), w32_1 (by omega) (by omega)]
    by_cases z : h 12 (k : Int) = -1
    · rw [if_neg (fun q => q.2 z), if_neg (fun q => q.1 z)]
    · rw [if_pos (show (0 ≤ (k : Int) ∧ (k : Int) < 336) ∧ h 12 (k : Int) ≠ -1 from ⟨by omega, z⟩), and_tl (by omega), and_tl (by omega)]
      by_cases y : h 13 (k : Int) = h 43 k
      · rw [if_pos y, if_neg (fun q => q.2 y)]
      · rw [if_neg y, if_pos ⟨z, y⟩])
  refine l.trans ?_
  show Ws (EF n) (d + 2) mX3_othersIn Q 4 [(2, 41), (2, 11), (0, _), (0, ((336 : Nat) : Int))] [] h = _
  rw [b_X3_othersIn_b_4, if_neg (by decide)]
theorem e_moreIn_b {n : Int} {d : Nat} {Q : Int → Hp → Prop} {h : Hp} (ha : ∀ k : Int, 0 ≤ k → k < 336 → 0 ≤ h 13 k ∧ h 13 k ≤ 1000000) : wpS (EF n) (d + 4) mX3_moreIn [(2, 41), (2, 11)] h Q = Q (w32 (w64 (sAm (h 12) (h 13) - h 41 4))) h := by
  rw [u_X3_moreIn_b, e_sumOfAmounts (EF_11 n) ha]
theorem e_flippedIn_b {n : Int} {d : Nat} {Q : Int → Hp → Prop} {h : Hp} (ha : ∀ k : Int, 0 ≤ k → k < 336 → 0 ≤ h 13 k ∧ h 13 k ≤ 1000000) (hn : w64 (sAm (h 12) (h 13) - h 41 4) ≠ 0) : wpS (EF n) (d + 4) mX3_flippedIn [(2, 41), (2, 11)] h Q = Q (w32 (w32 (w64 (Int.tdiv (w64 (sNm (h 12) (h 13) - h 41 5)) (w64 (sAm (h 12) (h 13) - h 41 4)))) - 1)) h := by
  rw [u_X3_flippedIn_b, e_sumOfAmounts (EF_11 n) ha, lc_eq, if_neg hn, e_sumByNames (EF_11 n) ha, and_tl hn]
abbrev qF (h : Hp) (s c : Int) : Prop := h 57 c ≠ 0 ∧ h 82 (336 * s + c) ≠ 0 ∧ h 58 c ≠ h 83 (336 * s + c)
abbrev sF (h : Hp) (s c : Int) : Prop := h 57 c = h 82 (336 * s + c)
theorem e_m_find {E : PvEnv} (hE : ∀ k, E 50 k = refT 50 k) {d : Nat} {Q : Int → Hp → Prop} {h : Hp} {s : Int} (hs : s = 0 ∨ s = 1) (hk1 : h 81 s ≠ 0) : wpS E (d + 4) mX10_find [(2, 50), (0, s)] h Q = if alw (sF h s) 336 = 0 then Q (-4) h else if 1 < cnt (qF h s) 336 then Q (-4) h else if cnt (qF h s) 336 = 0 then Q (-9) h else ((0 ≤ lst (qF h s) 336 ∧ lst (qF h s) 336 < 336) ∧ Q (lst (qF h s) 336) (hst h 50 2 (w32 (h 58 (lst (qF h s) 336) - h 83 (336 * s + lst (qF h s) 336))))) := by
  rw [u_X10_find hE, e_m_askedSlot hE, if_pos (by omega), if_neg hk1, if_neg (by decide)]
  obtain ⟨v, l⟩ := loop_x (α := PV × PV) (P := fun v k => Ws E (d + 3) mX10_find Q 24 [(2, 50), (0, s), (0, 0), (0, lst (qF h s) k), (0, cnt (qF h s) k), (0, alw (sF h s) k), (0, (k : Int)), v.1, v.2] [] h) 336 ((9, 0), (9, 0)) (by
    intro v k hk
    have cb := cnt_b (qF h s) k
    have r113 : ∀ (a5 x : Int) (w8 : PV), (x = 0 ∧ ¬ qF h s k ∨ x = 1 ∧ qF h s k) → Ws E (d + 3) mX10_find Q 113 [(2, 50), (0, s), (0, 0), (0, lst (qF h s) k), (0, cnt (qF h s) k), (0, a5), (0, (k : Int)), (0, 336 * s + k), w8] [(0, x)] h = Ws E (d + 3) mX10_find Q 24 [(2, 50), (0, s), (0, 0), (0, lst (qF h s) (k + 1)), (0, cnt (qF h s) (k + 1)), (0, a5), (0, ((k + 1 : Nat) : Int)), (0, 336 * s + k), (0, x)] [] h := by
      intro a5 x w8 hx
      rw [b_X10_find_113 hE, b_X10_find_127 hE, b_X10_find_127 hE, w32_n1 (by omega), w32_of (x := cnt (qF h s) k + 0) (by omega) (by omega), w32_of (x := cnt (qF h s) k + 1) (by omega) (by omega), Int.add_zero]
      rcases hx with ⟨rfl, q⟩ | ⟨rfl, q⟩
      · rw [if_pos rfl, if_pos rfl, cnt_f q, show lst (qF h s) (k + 1) = lst (qF h s) k from if_neg q]
      · rw [if_neg (by decide), if_neg (by decide), cnt_t q, show lst (qF h s) (k + 1) = (k : Int) from if_pos q]
    have r69 : ∀ (a5 b0 : Int), ∃ v' : PV × PV, Ws E (d + 3) mX10_find Q 69 [(2, 50), (0, s), (0, 0), (0, lst (qF h s) k), (0, cnt (qF h s) k), (0, a5), (0, (k : Int)), (0, 336 * s + k), v.2] [(0, b0)] h = Ws E (d + 3) mX10_find Q 24 [(2, 50), (0, s), (0, 0), (0, lst (qF h s) (k + 1)), (0, cnt (qF h s) (k + 1)), (0, b0), (0, ((k + 1 : Nat) : Int)), v'.1, v'.2] [] h := by
      intro a5 b0
      by_cases q : qF h s k
      · refine ⟨((0, 336 * s + k), (0, 1)), ?_⟩
        rw [b_X10_find_69 hE, and_tl (by omega), if_neg q.1, and_tl (by omega), if_neg q.2.1, and_tl (by omega), and_tl (by omega), if_neg q.2.2, r113 b0 1 v.2 (Or.inr ⟨rfl, q⟩)]
      · refine ⟨((0, 336 * s + k), (0, 0)), ?_⟩
        have r := r113 b0 0 v.2 (Or.inl ⟨rfl, q⟩)
        rw [b_X10_find_69 hE, and_tl (by omega), b_X10_find_112 hE, r]
        by_cases q1 : h 57 (k : Int) = 0
        · rw [if_pos q1]
        · rw [if_neg q1, and_tl (by omega)]
          by_cases q2 : h 82 (336 * s + k) = 0
          · rw [if_pos q2]
          · rw [if_neg q2, and_tl (by omega), and_tl (by omega), if_pos (Classical.not_not.mp (fun q3 => q ⟨q1, q2, q3⟩))]
    rcases alw_b (sF h s) k with ⟨e, -⟩ | ⟨e, -⟩
    · by_cases z : sF h s k
      · have e2 : alw (sF h s) (k + 1) = 1 := by
          show (if alw (sF h s) k = 0 then 0 else if sF h s k then 1 else 0) = (1 : Int)
          rw [if_neg (by rw [e]; decide), if_pos z]
        obtain ⟨v', r⟩ := r69 (alw (sF h s) k) 1
        refine ⟨v', ?_⟩
        rw [b_X10_find_24 hE, if_pos (by omega), ix336 hs (by omega), if_neg (by rw [e]; decide), and_tl (by omega), and_tl (by omega), if_pos z, r, e2]
      · have e2 : alw (sF h s) (k + 1) = 0 := by
          show (if alw (sF h s) k = 0 then 0 else if sF h s k then 1 else 0) = (0 : Int)
          rw [if_neg (by rw [e]; decide), if_neg z]
        obtain ⟨v', r⟩ := r69 (alw (sF h s) k) 0
        refine ⟨v', ?_⟩
        rw [b_X10_find_24 hE, if_pos (by omega), ix336 hs (by omega), if_neg (by rw [e]; decide), and_tl (by omega), and_tl (by omega), if_neg z, b_X10_find_68 hE, r, e2]
    · have e2 : alw (sF h s) (k + 1) = 0 := if_pos e
      obtain ⟨v', r⟩ := r69 (alw (sF h s) k) 0
      refine ⟨v', ?_⟩
      rw [b_X10_find_24 hE, if_pos (by omega), ix336 hs (by omega), if_pos e, b_X10_find_68 hE, r, e2])
  refine l.trans ?_
  show Ws E (d + 3) mX10_find Q 24 [(2, 50), (0, s), (0, 0), (0, _), (0, _), (0, _), (0, ((336 : Nat) : Int)), v.1, v.2] [] h = _
  rw [b_X10_find_24 hE, if_neg (by decide)]
  by_cases z1 : alw (sF h s) 336 = 0
  · rw [if_pos z1, if_pos z1]
  · rw [if_neg z1, if_neg z1]
    by_cases z2 : 1 < cnt (qF h s) 336
    · rw [if_pos z2, if_pos z2]
    · rw [if_neg z2, if_neg z2]
      by_cases z3 : cnt (qF h s) 336 = 0
      · rw [if_pos z3, if_pos z3]
      · rw [if_neg z3, if_neg z3]
        have b := cnt_b (qF h s) 336
        obtain ⟨f, f1, -, f3, -⟩ := cnt_1 (p := qF h s) 336 (by omega)
        rw [f3, and_tl (by omega), ix336 hs (by omega), and_tl (by omega), and_tl (by omega), e_m_ask hE]
theorem p_find {n s : Int} : Pr n mX9_find mX10_find [(0, s)] := by
  intro h hC
  have hC' := hC
  obtain ⟨c1, c2, c3, c4, c5, c6, c7, c8, c9, c10, c11, c12, c13, c14, c15⟩ := hC
  by_cases z : 0 ≤ s ∧ s < 2
  · rcases (show s = 0 ∨ s = 1 by omega) with rfl | rfl
    · by_cases y : h 37 6 = 0
      · have y' : h 81 0 = 0 := c12.2.1.trans y
        refine ⟨-3, fnd h 1, mfnd (fnd h 1) 1, fun Q => ?_, fun Q => ?_, Cpl_fnd hC' (by decide) (by decide)⟩
        · rw [u_X9_find, e_isSlot, b2_if, if_pos (by decide), u_X9_keptIn, if_pos rfl, b_X9_find_14, if_pos y, e_refuse (by decide) (by decide)]
        · rw [u_X10_find (EF_50 n), e_m_askedSlot (EF_50 n), if_pos (by decide), if_pos (show fnd h 1 81 0 = 0 from y'), if_pos (by decide)]
      · have k1 : h 37 6 = 1 := c12.1.resolve_left y
        obtain ⟨-, ⟨q2, q3⟩, -, q4⟩ := c12.2.2 k1
        have y' : h 81 0 ≠ 0 := by rw [c12.2.1]; exact y
        have m := fun Q (h : Hp) (y' : h 81 0 ≠ 0) => e_m_find (E := EF n) (d := 5) (Q := Q) (EF_50 n) (h := h) (s := 0) (Or.inl rfl) y'
        have hT0 : ∀ j : Nat, j < 336 → (h 82 (336 * 0 + j) ≠ 0 ↔ h 38 j ≠ -1) := fun j hj => by
          have q := (q4 j (by omega) (by omega)).2.1
          have e : h 82 (336 * 0 + (j : Int)) = if h 38 j = -1 then 0 else 1 := q
          rw [e]
          by_cases z : h 38 (j : Int) = -1
          · rw [if_pos z]
            exact ⟨fun q => absurd rfl q, fun q => absurd z q⟩
          · rw [if_neg z]
            exact ⟨fun _ => z, fun _ => by decide⟩
        have hA0 : ∀ j : Nat, j < 336 → h 38 j ≠ -1 → h 83 (336 * 0 + j) = h 39 j := fun j hj z => ((q4 j (by omega) (by omega)).2.2.2 z).2.1
        have hT : ∀ j : Nat, j < 336 → (h 57 j ≠ 0 ↔ h 12 j ≠ -1) := fun j hj => not_congr (cw_T c7 (by omega))
        have hA : ∀ j : Nat, j < 336 → h 12 j ≠ -1 → h 58 j = h 13 j := fun j hj z => (cw_e c7 (by omega) z).2.1
        have hbt : ∀ j : Nat, j < 336 → (h 57 j = h 82 (336 * 0 + j) ↔ (h 12 j ≠ -1 ↔ h 38 j ≠ -1)) := fun j hj => by
          have e1 : h 82 (336 * 0 + (j : Int)) = if h 38 j = -1 then 0 else 1 := (q4 j (by omega) (by omega)).2.1
          have e2 : h 57 (j : Int) = if h 12 j = -1 then 0 else 1 := (c7.2.1 j (by omega) (by omega)).1.2.1
          rw [e1, e2]
          by_cases z1 : h 12 (j : Int) = -1
          · by_cases z2 : h 38 (j : Int) = -1
            · rw [if_pos z1, if_pos z2]
              exact ⟨fun _ => ⟨fun q => absurd z1 q, fun q => absurd z2 q⟩, fun _ => rfl⟩
            · rw [if_pos z1, if_neg z2]
              exact ⟨fun q => absurd q (by decide), fun q => absurd z1 (q.mpr z2)⟩
          · by_cases z2 : h 38 (j : Int) = -1
            · rw [if_neg z1, if_pos z2]
              exact ⟨fun q => absurd q (by decide), fun q => absurd z2 (q.mp z1)⟩
            · rw [if_neg z1, if_neg z2]
              exact ⟨fun _ => ⟨fun _ => z2, fun _ => z1⟩, fun _ => rfl⟩
        rcases alw_b (sF h 0) 336 with ⟨al, ha⟩ | ⟨al, ha⟩
        · have same : ∀ j : Nat, j < 336 → (h 12 j ≠ -1 ↔ h 38 j ≠ -1) := fun j hj => (hbt j hj).mp (ha j hj)
          have hq : ∀ j : Nat, j < 336 → (qF h 0 j ↔ (h 12 j ≠ -1 ∧ h 13 j ≠ h 39 j)) := fun j hj => by
            constructor
            · rintro ⟨p1, p2, p3⟩
              have z1 := (hT j hj).mp p1
              have z2 := (hT0 j hj).mp p2
              rw [hA j hj z1, hA0 j hj z2] at p3
              exact ⟨z1, p3⟩
            · rintro ⟨z1, p3⟩
              have z2 := (same j hj).mp z1
              refine ⟨(hT j hj).mpr z1, (hT0 j hj).mpr z2, ?_⟩
              rw [hA j hj z1, hA0 j hj z2]
              exact p3
          have ec : cnt (qF h 0) 336 = cnt (fun c => h 12 c ≠ -1 ∧ h 13 c ≠ h 39 c) 336 := cnt_c 336 hq
          by_cases z1 : cnt (qF h 0) 336 = 1
          · obtain ⟨f, f1, f2, f3, f4⟩ := cnt_1 (p := qF h 0) 336 z1
            have g1 := (hq f f1).mp f2
            have g2 := (same f f1).mp g1.1
            have am1 := cw_A c7 f (by omega) (by omega)
            have am2 : 0 ≤ h 39 f ∧ h 39 f ≤ 1000000 := (q4 f (by omega) (by omega)).2.2.1.1
            have oth : ∀ j : Nat, j < 336 → j ≠ f → (h 12 j = -1 ∧ h 38 j = -1) ∨ ((h 12 j ≠ -1 ∧ h 38 j ≠ -1) ∧ h 13 j = h 39 j) := fun j hj hn => by
              have := f4 j hj hn
              have sm := same j hj
              by_cases z : h 12 (j : Int) = -1
              · exact Or.inl ⟨z, Classical.not_not.mp (fun q => (sm.mpr q) z)⟩
              · exact Or.inr ⟨⟨z, sm.mp z⟩, Classical.not_not.mp (fun q => this ((hq j hj).mpr ⟨z, q⟩))⟩
            have d1 : sAm (h 12) (h 13) - h 37 4 = h 13 f - h 39 f := by
              rw [q2]
              have := sm_one (f := fun c => if h 12 c = -1 then 0 else h 13 c) (g := fun c => if h 38 c = -1 then 0 else h 39 c) (i := f) 336 f1 (fun j hj hn => by
                rcases oth j hj hn with ⟨o1, o2⟩ | ⟨⟨o1, o2⟩, o3⟩
                · simp only [o1, o2, if_pos]
                · simp only [if_neg o1, if_neg o2]
                  exact o3)
              simp only [if_neg g1.1, if_neg g2] at this
              exact this
            have d2 : sNm (h 12) (h 13) - h 37 5 = (h 13 f - h 39 f) * ((f : Int) + 1) := by
              rw [q3]
              have := sm_one (f := fun c => if h 12 c = -1 then 0 else h 13 c * (c + 1)) (g := fun c => if h 38 c = -1 then 0 else h 39 c * (c + 1)) (i := f) 336 f1 (fun j hj hn => by
                rcases oth j hj hn with ⟨o1, o2⟩ | ⟨⟨o1, o2⟩, o3⟩
                · simp only [o1, o2, if_pos]
                · simp only [if_neg o1, if_neg o2]
                  rw [o3])
              simp only [if_neg g1.1, if_neg g2] at this
              rw [Int.sub_mul]
              exact this
            have nz : h 13 (f : Int) - h 39 f ≠ 0 := fun q => g1.2 (by omega)
            have b2' : -336000000 ≤ (h 13 (f : Int) - h 39 f) * ((f : Int) + 1) ∧ (h 13 (f : Int) - h 39 f) * ((f : Int) + 1) ≤ 336000000 := by
              have m1 := mul_336 (a := h 13 (f : Int)) (k := (f : Int) + 1) am1 (by omega)
              have m2 := mul_336 (a := h 39 (f : Int)) (k := (f : Int) + 1) am2 (by omega)
              rw [Int.sub_mul]
              omega
            have hw : w64 (sAm (h 12) (h 13) - h 37 4) = h 13 f - h 39 f := by
              rw [d1]
              exact w64_of (by omega) (by omega)
            refine ⟨(f : Int), hst h 0 14 (h 13 f - h 39 f), hst (hst h 0 14 (h 13 f - h 39 f)) 50 2 (h 13 f - h 39 f), fun Q => ?_, fun Q => ?_, ?_⟩
            · rw [u_X9_find, e_isSlot, b2_if, if_pos (by decide), u_X9_keptIn, if_pos rfl, b_X9_find_14, if_neg y, e_hasSame_a (Or.inl ⟨rfl, same⟩), if_neg (by decide), e_othersIn_a, ← ec, if_pos z1, e_moreIn_a (cw_A c7), hw, w32_of (x := h 13 (f : Int) - h 39 f) (by omega) (by omega)]
              have hw' : w64 (sAm (hst h 0 14 (h 13 f - h 39 f) 12) (hst h 0 14 (h 13 f - h 39 f) 13) - hst h 0 14 (h 13 f - h 39 f) 37 4) = h 13 f - h 39 f := hw
              rw [e_flippedIn_a (h := hst h 0 14 (h 13 f - h 39 f)) (cw_A c7) (by rw [hw']; exact nz), hw']
              show Q (w32 (w32 (w64 (Int.tdiv (w64 (sNm (h 12) (h 13) - h 37 5)) (h 13 f - h 39 f))) - 1)) _ = _
              rw [d2, w64_of (x := (h 13 (f : Int) - h 39 f) * ((f : Int) + 1)) (by omega) (by omega), Int.mul_tdiv_cancel_left _ nz, w64_of (by omega) (by omega), w32_of (x := (f : Int) + 1) (by omega) (by omega), w32_of (by omega) (by omega), show (f : Int) + 1 - 1 = f by omega]
            · refine (m Q (hst h 0 14 (h 13 f - h 39 f)) y').trans ?_
              have fe : lst (qF (hst h 0 14 (h 13 f - h 39 f)) 0) 336 = f := f3
              rw [if_neg (show ¬ alw (sF (hst h 0 14 (h 13 f - h 39 f)) 0) 336 = 0 from fun q => absurd (al.symm.trans q) (by decide)), if_neg (show ¬ 1 < cnt (qF (hst h 0 14 (h 13 f - h 39 f)) 0) 336 from fun q => absurd (show 1 < cnt (qF h 0) 336 from q) (by omega)), if_neg (show ¬ cnt (qF (hst h 0 14 (h 13 f - h 39 f)) 0) 336 = 0 from fun q => absurd (z1.symm.trans q) (by decide)), fe, and_tl (by omega)]
              show Q f (hst _ 50 2 (w32 (h 58 f - h 83 (336 * 0 + f)))) = _
              rw [hA f f1 g1.1, hA0 f f1 g2, w32_of (by omega) (by omega)]
            · unfold Cpl
              simp only [hst_at, hrow_at, up_at, Int.reduceEq, if_true, if_false, reduceIte]
              exact ⟨c1, trivial, c3, c4, c5, c6, c7, c8, c9, c10, c11, c12, c13, c14, c15⟩
          · by_cases z2 : cnt (qF h 0) 336 = 0
            · refine ⟨-9, h, h, fun Q => ?_, fun Q => ?_, hC'⟩
              · rw [u_X9_find, e_isSlot, b2_if, if_pos (by decide), u_X9_keptIn, if_pos rfl, b_X9_find_14, if_neg y, e_hasSame_a (Or.inl ⟨rfl, same⟩), if_neg (by decide), e_othersIn_a, ← ec, if_neg z1, if_pos z2]
              · rw [m Q h y', if_neg (by rw [al]; decide), if_neg (by omega), if_pos z2]
            · have b := cnt_b (qF h 0) 336
              refine ⟨-4, h, h, fun Q => ?_, fun Q => ?_, hC'⟩
              · rw [u_X9_find, e_isSlot, b2_if, if_pos (by decide), u_X9_keptIn, if_pos rfl, b_X9_find_14, if_neg y, e_hasSame_a (Or.inl ⟨rfl, same⟩), if_neg (by decide), e_othersIn_a, ← ec, if_neg z1, if_neg z2]
              · rw [m Q h y', if_neg (by rw [al]; decide), if_pos (by omega)]
        · have same : ¬ ∀ j : Nat, j < 336 → (h 12 j ≠ -1 ↔ h 38 j ≠ -1) := fun q => ha (fun j hj => (hbt j hj).mpr (q j hj))
          refine ⟨-4, h, h, fun Q => ?_, fun Q => ?_, hC'⟩
          · rw [u_X9_find, e_isSlot, b2_if, if_pos (by decide), u_X9_keptIn, if_pos rfl, b_X9_find_14, if_neg y, e_hasSame_a (Or.inr ⟨rfl, same⟩), if_pos rfl]
          · rw [m Q h y', if_pos al]
    · by_cases y : h 41 6 = 0
      · have y' : h 81 1 = 0 := c13.2.1.trans y
        refine ⟨-3, fnd h 1, mfnd (fnd h 1) 1, fun Q => ?_, fun Q => ?_, Cpl_fnd hC' (by decide) (by decide)⟩
        · rw [u_X9_find, e_isSlot, b2_if, if_pos (by decide), u_X9_keptIn, if_neg (by decide), b_X9_find_14_1, if_pos y, e_refuse (by decide) (by decide)]
        · rw [u_X10_find (EF_50 n), e_m_askedSlot (EF_50 n), if_pos (by decide), if_pos (show fnd h 1 81 1 = 0 from y'), if_pos (by decide)]
      · have k1 : h 41 6 = 1 := c13.1.resolve_left y
        obtain ⟨-, ⟨q2, q3⟩, -, q4⟩ := c13.2.2 k1
        have y' : h 81 1 ≠ 0 := by rw [c13.2.1]; exact y
        have m := fun Q (h : Hp) (y' : h 81 1 ≠ 0) => e_m_find (E := EF n) (d := 5) (Q := Q) (EF_50 n) (h := h) (s := 1) (Or.inr rfl) y'
        have hT0 : ∀ j : Nat, j < 336 → (h 82 (336 * 1 + j) ≠ 0 ↔ h 42 j ≠ -1) := fun j hj => by
          have q := (q4 j (by omega) (by omega)).2.1
          have e : h 82 (336 * 1 + (j : Int)) = if h 42 j = -1 then 0 else 1 := q
          rw [e]
          by_cases z : h 42 (j : Int) = -1
          · rw [if_pos z]
            exact ⟨fun q => absurd rfl q, fun q => absurd z q⟩
          · rw [if_neg z]
            exact ⟨fun _ => z, fun _ => by decide⟩
        have hA0 : ∀ j : Nat, j < 336 → h 42 j ≠ -1 → h 83 (336 * 1 + j) = h 43 j := fun j hj z => ((q4 j (by omega) (by omega)).2.2.2 z).2.1
        have hT : ∀ j : Nat, j < 336 → (h 57 j ≠ 0 ↔ h 12 j ≠ -1) := fun j hj => not_congr (cw_T c7 (by omega))
        have hA : ∀ j : Nat, j < 336 → h 12 j ≠ -1 → h 58 j = h 13 j := fun j hj z => (cw_e c7 (by omega) z).2.1
        have hbt : ∀ j : Nat, j < 336 → (h 57 j = h 82 (336 * 1 + j) ↔ (h 12 j ≠ -1 ↔ h 42 j ≠ -1)) := fun j hj => by
          have e1 : h 82 (336 * 1 + (j : Int)) = if h 42 j = -1 then 0 else 1 := (q4 j (by omega) (by omega)).2.1
          have e2 : h 57 (j : Int) = if h 12 j = -1 then 0 else 1 := (c7.2.1 j (by omega) (by omega)).1.2.1
          rw [e1, e2]
          by_cases z1 : h 12 (j : Int) = -1
          · by_cases z2 : h 42 (j : Int) = -1
            · rw [if_pos z1, if_pos z2]
              exact ⟨fun _ => ⟨fun q => absurd z1 q, fun q => absurd z2 q⟩, fun _ => rfl⟩
            · rw [if_pos z1, if_neg z2]
              exact ⟨fun q => absurd q (by decide), fun q => absurd z1 (q.mpr z2)⟩
          · by_cases z2 : h 42 (j : Int) = -1
            · rw [if_neg z1, if_pos z2]
              exact ⟨fun q => absurd q (by decide), fun q => absurd z2 (q.mp z1)⟩
            · rw [if_neg z1, if_neg z2]
              exact ⟨fun _ => ⟨fun _ => z2, fun _ => z1⟩, fun _ => rfl⟩
        rcases alw_b (sF h 1) 336 with ⟨al, ha⟩ | ⟨al, ha⟩
        · have same : ∀ j : Nat, j < 336 → (h 12 j ≠ -1 ↔ h 42 j ≠ -1) := fun j hj => (hbt j hj).mp (ha j hj)
          have hq : ∀ j : Nat, j < 336 → (qF h 1 j ↔ (h 12 j ≠ -1 ∧ h 13 j ≠ h 43 j)) := fun j hj => by
            constructor
            · rintro ⟨p1, p2, p3⟩
              have z1 := (hT j hj).mp p1
              have z2 := (hT0 j hj).mp p2
              rw [hA j hj z1, hA0 j hj z2] at p3
              exact ⟨z1, p3⟩
            · rintro ⟨z1, p3⟩
              have z2 := (same j hj).mp z1
              refine ⟨(hT j hj).mpr z1, (hT0 j hj).mpr z2, ?_⟩
              rw [hA j hj z1, hA0 j hj z2]
              exact p3
          have ec : cnt (qF h 1) 336 = cnt (fun c => h 12 c ≠ -1 ∧ h 13 c ≠ h 43 c) 336 := cnt_c 336 hq
          by_cases z1 : cnt (qF h 1) 336 = 1
          · obtain ⟨f, f1, f2, f3, f4⟩ := cnt_1 (p := qF h 1) 336 z1
            have g1 := (hq f f1).mp f2
            have g2 := (same f f1).mp g1.1
            have am1 := cw_A c7 f (by omega) (by omega)
            have am2 : 0 ≤ h 43 f ∧ h 43 f ≤ 1000000 := (q4 f (by omega) (by omega)).2.2.1.1
            have oth : ∀ j : Nat, j < 336 → j ≠ f → (h 12 j = -1 ∧ h 42 j = -1) ∨ ((h 12 j ≠ -1 ∧ h 42 j ≠ -1) ∧ h 13 j = h 43 j) := fun j hj hn => by
              have := f4 j hj hn
              have sm := same j hj
              by_cases z : h 12 (j : Int) = -1
              · exact Or.inl ⟨z, Classical.not_not.mp (fun q => (sm.mpr q) z)⟩
              · exact Or.inr ⟨⟨z, sm.mp z⟩, Classical.not_not.mp (fun q => this ((hq j hj).mpr ⟨z, q⟩))⟩
            have d1 : sAm (h 12) (h 13) - h 41 4 = h 13 f - h 43 f := by
              rw [q2]
              have := sm_one (f := fun c => if h 12 c = -1 then 0 else h 13 c) (g := fun c => if h 42 c = -1 then 0 else h 43 c) (i := f) 336 f1 (fun j hj hn => by
                rcases oth j hj hn with ⟨o1, o2⟩ | ⟨⟨o1, o2⟩, o3⟩
                · simp only [o1, o2, if_pos]
                · simp only [if_neg o1, if_neg o2]
                  exact o3)
              simp only [if_neg g1.1, if_neg g2] at this
              exact this
            have d2 : sNm (h 12) (h 13) - h 41 5 = (h 13 f - h 43 f) * ((f : Int) + 1) := by
              rw [q3]
              have := sm_one (f := fun c => if h 12 c = -1 then 0 else h 13 c * (c + 1)) (g := fun c => if h 42 c = -1 then 0 else h 43 c * (c + 1)) (i := f) 336 f1 (fun j hj hn => by
                rcases oth j hj hn with ⟨o1, o2⟩ | ⟨⟨o1, o2⟩, o3⟩
                · simp only [o1, o2, if_pos]
                · simp only [if_neg o1, if_neg o2]
                  rw [o3])
              simp only [if_neg g1.1, if_neg g2] at this
              rw [Int.sub_mul]
              exact this
            have nz : h 13 (f : Int) - h 43 f ≠ 0 := fun q => g1.2 (by omega)
            have b2' : -336000000 ≤ (h 13 (f : Int) - h 43 f) * ((f : Int) + 1) ∧ (h 13 (f : Int) - h 43 f) * ((f : Int) + 1) ≤ 336000000 := by
              have m1 := mul_336 (a := h 13 (f : Int)) (k := (f : Int) + 1) am1 (by omega)
              have m2 := mul_336 (a := h 43 (f : Int)) (k := (f : Int) + 1) am2 (by omega)
              rw [Int.sub_mul]
              omega
            have hw : w64 (sAm (h 12) (h 13) - h 41 4) = h 13 f - h 43 f := by
              rw [d1]
              exact w64_of (by omega) (by omega)
            refine ⟨(f : Int), hst h 0 14 (h 13 f - h 43 f), hst (hst h 0 14 (h 13 f - h 43 f)) 50 2 (h 13 f - h 43 f), fun Q => ?_, fun Q => ?_, ?_⟩
            · rw [u_X9_find, e_isSlot, b2_if, if_pos (by decide), u_X9_keptIn, if_neg (by decide), b_X9_find_14_1, if_neg y, e_hasSame_b (Or.inl ⟨rfl, same⟩), if_neg (by decide), e_othersIn_b, ← ec, if_pos z1, e_moreIn_b (cw_A c7), hw, w32_of (x := h 13 (f : Int) - h 43 f) (by omega) (by omega)]
              have hw' : w64 (sAm (hst h 0 14 (h 13 f - h 43 f) 12) (hst h 0 14 (h 13 f - h 43 f) 13) - hst h 0 14 (h 13 f - h 43 f) 41 4) = h 13 f - h 43 f := hw
              rw [e_flippedIn_b (h := hst h 0 14 (h 13 f - h 43 f)) (cw_A c7) (by rw [hw']; exact nz), hw']
              show Q (w32 (w32 (w64 (Int.tdiv (w64 (sNm (h 12) (h 13) - h 41 5)) (h 13 f - h 43 f))) - 1)) _ = _
              rw [d2, w64_of (x := (h 13 (f : Int) - h 43 f) * ((f : Int) + 1)) (by omega) (by omega), Int.mul_tdiv_cancel_left _ nz, w64_of (by omega) (by omega), w32_of (x := (f : Int) + 1) (by omega) (by omega), w32_of (by omega) (by omega), show (f : Int) + 1 - 1 = f by omega]
            · refine (m Q (hst h 0 14 (h 13 f - h 43 f)) y').trans ?_
              have fe : lst (qF (hst h 0 14 (h 13 f - h 43 f)) 1) 336 = f := f3
              rw [if_neg (show ¬ alw (sF (hst h 0 14 (h 13 f - h 43 f)) 1) 336 = 0 from fun q => absurd (al.symm.trans q) (by decide)), if_neg (show ¬ 1 < cnt (qF (hst h 0 14 (h 13 f - h 43 f)) 1) 336 from fun q => absurd (show 1 < cnt (qF h 1) 336 from q) (by omega)), if_neg (show ¬ cnt (qF (hst h 0 14 (h 13 f - h 43 f)) 1) 336 = 0 from fun q => absurd (z1.symm.trans q) (by decide)), fe, and_tl (by omega)]
              show Q f (hst _ 50 2 (w32 (h 58 f - h 83 (336 * 1 + f)))) = _
              rw [hA f f1 g1.1, hA0 f f1 g2, w32_of (by omega) (by omega)]
            · unfold Cpl
              simp only [hst_at, hrow_at, up_at, Int.reduceEq, if_true, if_false, reduceIte]
              exact ⟨c1, trivial, c3, c4, c5, c6, c7, c8, c9, c10, c11, c12, c13, c14, c15⟩
          · by_cases z2 : cnt (qF h 1) 336 = 0
            · refine ⟨-9, h, h, fun Q => ?_, fun Q => ?_, hC'⟩
              · rw [u_X9_find, e_isSlot, b2_if, if_pos (by decide), u_X9_keptIn, if_neg (by decide), b_X9_find_14_1, if_neg y, e_hasSame_b (Or.inl ⟨rfl, same⟩), if_neg (by decide), e_othersIn_b, ← ec, if_neg z1, if_pos z2]
              · rw [m Q h y', if_neg (by rw [al]; decide), if_neg (by omega), if_pos z2]
            · have b := cnt_b (qF h 1) 336
              refine ⟨-4, h, h, fun Q => ?_, fun Q => ?_, hC'⟩
              · rw [u_X9_find, e_isSlot, b2_if, if_pos (by decide), u_X9_keptIn, if_neg (by decide), b_X9_find_14_1, if_neg y, e_hasSame_b (Or.inl ⟨rfl, same⟩), if_neg (by decide), e_othersIn_b, ← ec, if_neg z1, if_neg z2]
              · rw [m Q h y', if_neg (by rw [al]; decide), if_pos (by omega)]
        · have same : ¬ ∀ j : Nat, j < 336 → (h 12 j ≠ -1 ↔ h 42 j ≠ -1) := fun q => ha (fun j hj => (hbt j hj).mpr (q j hj))
          refine ⟨-4, h, h, fun Q => ?_, fun Q => ?_, hC'⟩
          · rw [u_X9_find, e_isSlot, b2_if, if_pos (by decide), u_X9_keptIn, if_neg (by decide), b_X9_find_14_1, if_neg y, e_hasSame_b (Or.inr ⟨rfl, same⟩), if_pos rfl]
          · rw [m Q h y', if_pos al]
  · exact ⟨-1, h, h, fun Q => by rw [u_X9_find, e_isSlot, b2_if, if_neg z], fun Q => by rw [u_X10_find (EF_50 n), e_m_askedSlot (EF_50 n), if_neg (by omega), if_pos (by decide)], hC'⟩
