/-! kids -/
theorem kid_geo {c q : Int} (hc : 0 ≤ c ∧ c < 80) (hq : 0 ≤ q ∧ q < 4) : (c < 16 → gw c = 4 ∧ gw (16 + 4 * c + q) = 2 ∧ gx (16 + 4 * c + q) = gx c + 2 * (q % 2) ∧ gy (16 + 4 * c + q) = gy c + 2 * (q / 2)) ∧ (¬ c < 16 → gw c = 2 ∧ gw (16 + 4 * c + q) = 1 ∧ gx (16 + 4 * c + q) = gx c + q % 2 ∧ gy (16 + 4 * c + q) = gy c + q / 2) := by
  have e : gp (16 + 4 * c + q) = c := by unfold gp; omega
  constructor
  · intro z
    unfold gw gx gy
    rw [e, if_pos z, if_neg (by omega), if_pos (by omega), if_pos z, if_neg (by omega), if_pos (by omega), if_pos z, if_neg (by omega), if_pos (by omega)]
    omega
  · intro z
    unfold gw gx gy
    have k1 : ¬ 16 + 4 * c + q < 16 := by omega
    have k2 : ¬ 16 + 4 * c + q < 80 := by omega
    simp only [e, if_neg z, if_neg k1, if_neg k2, if_pos hc.2, true_and]
    clear e
    omega
/-- a square of c lies in one of its kids, and in one alone -/
theorem kid_in {c s : Int} (hc : 0 ≤ c ∧ c < 80) : inC c s ↔ ∃ q : Int, (0 ≤ q ∧ q < 4) ∧ inC (16 + 4 * c + q) s := by
  constructor
  · intro h
    unfold inC at h
    by_cases z : c < 16
    · have g := fun q hq => (kid_geo (q := q) hc hq).1 z
      have g0 := (g 0 (by omega)).1
      refine ⟨2 * ((s / 16 - gy c) / 2) + (s % 16 - gx c) / 2, by omega, ?_⟩
      have gq := g (2 * ((s / 16 - gy c) / 2) + (s % 16 - gx c) / 2) (by omega)
      unfold inC
      omega
    · have g := fun q hq => (kid_geo (q := q) hc hq).2 z
      have g0 := (g 0 (by omega)).1
      refine ⟨2 * (s / 16 - gy c) + (s % 16 - gx c), by omega, ?_⟩
      have gq := g (2 * (s / 16 - gy c) + (s % 16 - gx c)) (by omega)
      unfold inC
      omega
  · rintro ⟨q, hq, h⟩
    unfold inC at h ⊢
    have g := kid_geo hc hq
    by_cases z : c < 16
    · have := g.1 z
      omega
    · have := g.2 z
      omega
theorem kid_one {c s q q' : Int} (hc : 0 ≤ c ∧ c < 80) (hq : 0 ≤ q ∧ q < 4) (hq' : 0 ≤ q' ∧ q' < 4) (h : inC (16 + 4 * c + q) s) (h' : inC (16 + 4 * c + q') s) : q = q' := by
  unfold inC at h h'
  have g := kid_geo hc hq
  have g' := kid_geo hc hq'
  by_cases z : c < 16
  · have := g.1 z
    have := g'.1 z
    omega
  · have := g.2 z
    have := g'.2 z
    omega
theorem pnt_in {f : Int → Int} {c s : Int} (h : inC c s) : pnt f c s = c := if_pos h
theorem pnt_out {f : Int → Int} {c s : Int} (h : ¬ inC c s) : pnt f c s = f s := if_neg h
theorem cutO_out {O : Int → Int} {c s : Int} (k : Nat) (h : ∀ q : Nat, q < k → ¬ inC (16 + 4 * c + q) s) : cutO O c k s = O s := by
  induction k with
  | zero => rfl
  | succ k ih =>
    show pnt (cutO O c k) (16 + 4 * c + k) s = O s
    rw [pnt_out (h k (by omega))]
    exact ih (fun q hq => h q (by omega))
theorem cutO_in {O : Int → Int} {c s : Int} (hc : 0 ≤ c ∧ c < 80) {q : Nat} (k : Nat) (hq : q < 4) (hk : k ≤ 4) (hqk : q < k) (h : inC (16 + 4 * c + q) s) : cutO O c k s = 16 + 4 * c + q := by
  induction k with
  | zero => omega
  | succ k ih =>
    show pnt (cutO O c k) (16 + 4 * c + k) s = _
    by_cases z : inC (16 + 4 * c + k) s
    · have := kid_one hc (q := q) (q' := k) (by omega) (by omega) h z
      rw [pnt_in z, this]
    · rw [pnt_out z]
      have : q ≠ k := fun e => z (e ▸ h)
      exact ih (by omega) (by omega)
theorem cutO_4 {O : Int → Int} {c s : Int} (hc : 0 ≤ c ∧ c < 80) : (¬ inC c s ∧ cutO O c 4 s = O s) ∨ (inC c s ∧ ∃ q : Int, (0 ≤ q ∧ q < 4) ∧ inC (16 + 4 * c + q) s ∧ cutO O c 4 s = 16 + 4 * c + q) := by
  by_cases z : inC c s
  · refine Or.inr ⟨z, ?_⟩
    obtain ⟨q, hq, h⟩ := (kid_in hc).mp z
    refine ⟨q, hq, h, ?_⟩
    have e : ((q.toNat : Nat) : Int) = q := by omega
    have := cutO_in (O := O) hc (q := q.toNat) 4 (by omega) (by omega) (by omega) (by rw [e]; exact h)
    rw [e] at this
    exact this
  · refine Or.inl ⟨z, cutO_out 4 (fun q hq h => z ?_)⟩
    exact (kid_in hc).mpr ⟨q, by omega, h⟩
/-- the kinds when c is parted -/
theorem Prt_cut {K O : Int → Int} {c : Int} (hc : 0 ≤ c ∧ c < 80) (hk : K c ≠ -1) (p : Prt K O) : Prt (up (cutK K c 4) c (-1)) (cutO O c 4) := by
  obtain ⟨p1, p2⟩ := p
  have kk : ∀ j : Int, (16 + 4 * c ≤ j ∧ j < 16 + 4 * c + 4 → up (cutK K c 4) c (-1) j = 1) ∧ (j ≠ c → ¬ (16 + 4 * c ≤ j ∧ j < 16 + 4 * c + 4) → up (cutK K c 4) c (-1) j = K j) := by
    intro j
    refine ⟨fun z => ?_, fun z1 z2 => ?_⟩
    · rw [up_n _ _ (by omega)]
      exact if_pos z
    · rw [up_n _ _ z1]
      exact if_neg z2
  constructor
  · intro s s1 s2
    rcases cutO_4 (O := O) (s := s) hc with ⟨z, e⟩ | ⟨z, q, hq, hi, e⟩
    · have a := p1 s s1 s2
      rw [e]
      have n1 : O s ≠ c := fun w => z (w ▸ a.2.2)
      have n2 : ¬ (16 + 4 * c ≤ O s ∧ O s < 16 + 4 * c + 4) := by
        intro w
        refine z ((kid_in hc).mpr ⟨O s - (16 + 4 * c), by omega, ?_⟩)
        rw [show 16 + 4 * c + (O s - (16 + 4 * c)) = O s by omega]
        exact a.2.2
      rw [(kk (O s)).2 n1 n2]
      exact a
    · rw [e, (kk _).1 (by omega)]
      exact ⟨by omega, by decide, hi⟩
  · intro j s hj hkj hi
    rcases cutO_4 (O := O) (s := s) hc with ⟨z, e⟩ | ⟨z, q, hq, hiq, e⟩
    · rw [e]
      by_cases n1 : j = c
      · subst n1
        exact absurd hi z
      · by_cases n2 : 16 + 4 * c ≤ j ∧ j < 16 + 4 * c + 4
        · refine absurd ((kid_in hc).mpr ⟨j - (16 + 4 * c), by omega, ?_⟩) z
          rw [show 16 + 4 * c + (j - (16 + 4 * c)) = j by omega]
          exact hi
        · rw [(kk j).2 n1 n2] at hkj
          exact p2 j s hj hkj hi
    · rw [e]
      by_cases n1 : j = c
      · subst n1
        rw [up_s] at hkj
        exact absurd rfl hkj
      · by_cases n2 : 16 + 4 * c ≤ j ∧ j < 16 + 4 * c + 4
        · have := kid_one (q := q) (q' := j - (16 + 4 * c)) hc hq (by omega) hiq (by rw [show 16 + 4 * c + (j - (16 + 4 * c)) = j by omega]; exact hi)
          omega
        · rw [(kk j).2 n1 n2] at hkj
          have a := p2 j s hj hkj hi
          have b := p2 c s (by omega) hk z
          omega
theorem Prt_join {K O : Int → Int} {c : Int} (hc : 0 ≤ c ∧ c < 80) (hf : four K c) (p : Prt K O) : Prt (joiK K c) (pnt O c) := by
  obtain ⟨p1, p2⟩ := p
  have kid : ∀ j : Int, 16 + 4 * c ≤ j ∧ j < 16 + 4 * c + 4 → K j ≠ -1 := by
    intro j hj
    unfold four at hf
    have : j = 16 + 4 * c ∨ j = 16 + 4 * c + 1 ∨ j = 16 + 4 * c + 2 ∨ j = 16 + 4 * c + 3 := by omega
    rcases this with e | e | e | e <;> rw [e]
    · exact hf.1
    · exact hf.2.1
    · exact hf.2.2.1
    · exact hf.2.2.2
  have kk : ∀ j : Int, (16 + 4 * c ≤ j ∧ j < 16 + 4 * c + 4 → joiK K c j = -1) ∧ (j ≠ c → ¬ (16 + 4 * c ≤ j ∧ j < 16 + 4 * c + 4) → joiK K c j = K j) := by
    intro j
    refine ⟨fun z => if_pos z, fun z1 z2 => ?_⟩
    unfold joiK
    rw [if_neg z2, if_neg z1]
  have kc : joiK K c c ≠ -1 := by
    unfold joiK
    rw [if_neg (by omega), if_pos rfl]
    split <;> decide
  constructor
  · intro s s1 s2
    by_cases z : inC c s
    · rw [pnt_in z]
      exact ⟨by omega, kc, z⟩
    · rw [pnt_out z]
      have a := p1 s s1 s2
      have n1 : O s ≠ c := fun w => z (w ▸ a.2.2)
      have n2 : ¬ (16 + 4 * c ≤ O s ∧ O s < 16 + 4 * c + 4) := by
        intro w
        refine z ((kid_in hc).mpr ⟨O s - (16 + 4 * c), by omega, ?_⟩)
        rw [show 16 + 4 * c + (O s - (16 + 4 * c)) = O s by omega]
        exact a.2.2
      rw [(kk (O s)).2 n1 n2]
      exact a
  · intro j s hj hkj hi
    by_cases n2 : 16 + 4 * c ≤ j ∧ j < 16 + 4 * c + 4
    · rw [(kk j).1 n2] at hkj
      exact absurd rfl hkj
    · by_cases n1 : j = c
      · subst n1
        exact pnt_in hi
      · rw [(kk j).2 n1 n2] at hkj
        have a := p2 j s hj hkj hi
        by_cases z : inC c s
        · obtain ⟨q, hq, hiq⟩ := (kid_in hc).mp z
          have b := p2 (16 + 4 * c + q) s (by omega) (kid _ (by omega)) hiq
          omega
        · rw [pnt_out z]
          exact a
/-- the reference's parting -/
def cutT (T : Int → Int) (c : Int) (k : Nat) : Int → Int := fun j => if 16 + 4 * c ≤ j ∧ j < 16 + 4 * c + k then 1 else T j
def cutX (X : Int → Int) (c : Int) (k : Nat) : Int → Int := fun j => if 16 + 4 * c ≤ j ∧ j < 16 + 4 * c + k then -9 else X j
theorem e_m_doPart {E : PvEnv} (hE : ∀ k, E 50 k = refT 50 k) {d : Nat} {Q : Int → Hp → Prop} {h : Hp} {T A K G X S : Int → Int} {c : Int} (hc : 0 ≤ c ∧ c < 80) (ha : 0 ≤ A c ∧ A c ≤ 1000000) : wpS E (d + 4) mX10_doPart [(2, 50), (0, c)] (mv h T A K G X S) Q = Q 0 (mv h (cutT (up T c 0) c 4) (cutA A c 4) (cutK K c 4) (cutG G c 4) (cutX X c 4) (cutO S c 4)) := by
  rw [u_X10_doPart hE, isBit_0, and_tl ⟨trivial, by omega⟩, e_m_child hc, mv_s57]
  have step : ∀ k : Nat, k < 4 → Ws E (d + 3) mX10_doPart Q 14 [(2, 50), (0, c), (0, 16 + 4 * c), (0, (k : Int))] [] (mv h (cutT (up T c 0) c k) (cutA A c k) (cutK K c k) (cutG G c k) (cutX X c k) (cutO S c k)) = Ws E (d + 3) mX10_doPart Q 14 [(2, 50), (0, c), (0, 16 + 4 * c), (0, ((k + 1 : Nat) : Int))] [] (mv h (cutT (up T c 0) c (k + 1)) (cutA A c (k + 1)) (cutK K c (k + 1)) (cutG G c (k + 1)) (cutX X c (k + 1)) (cutO S c (k + 1))) := by
    intro k hk
    have eA : cutA A c k c = A c := by unfold cutA; rw [if_neg (by omega)]
    have eG : cutG G c k c = G c := by unfold cutG; rw [if_neg (by omega)]
    rw [b_X10_doPart_14 hE, if_pos (by omega), and_tl (by omega), and_tl (by omega), mv_r58, eA, tm ha.1, td ha.1, w32_of (x := A c / 4) (by omega) (by omega), w32_of (x := 16 + 4 * c + (k : Int)) (by omega) (by omega), b_X10_doPart_48 hE, b_X10_doPart_48 hE, and_tl (by omega), and_tl (by omega), mv_r60, eG, w32_of (x := A c / 4 + 1) (by omega) (by omega), w32_of (x := A c / 4 + 0) (by omega) (by omega), e_m_come hE (by omega), e_m_come hE (by omega), w32_n1 (by omega), if_neg (show ¬ 16 + 4 * c + (k : Int) < 16 by omega)]
    have e0 : up (cutT (up T c 0) c k) (16 + 4 * c + (k : Int)) 1 = cutT (up T c 0) c (k + 1) := by
      funext j
      unfold cutT
      rw [up_at]
      repeat' split
      all_goals first | rfl | (exfalso; omega)
    have e1 : up (cutK K c k) (16 + 4 * c + (k : Int)) 1 = cutK K c (k + 1) := by
      funext j
      unfold cutK
      rw [up_at]
      repeat' split
      all_goals first | rfl | (exfalso; omega)
    have e3 : up (cutG G c k) (16 + 4 * c + (k : Int)) (G c) = cutG G c (k + 1) := by
      funext j
      unfold cutG
      rw [up_at]
      repeat' split
      all_goals first | rfl | (exfalso; omega)
    have e5 : up (cutX X c k) (16 + 4 * c + (k : Int)) (-9) = cutX X c (k + 1) := by
      funext j
      unfold cutX
      rw [up_at]
      repeat' split
      all_goals first | rfl | (exfalso; omega)
    have e4 : pnt (cutO S c k) (16 + 4 * c + (k : Int)) = cutO S c (k + 1) := rfl
    have e2 : ∀ v : Int, v = (if (k : Int) < A c % 4 then 1 else 0) → up (cutA A c k) (16 + 4 * c + (k : Int)) (A c / 4 + v) = cutA A c (k + 1) := by
      intro v hv
      funext j
      unfold up cutA
      by_cases w : j = 16 + 4 * c + (k : Int)
      · rw [if_pos w, if_pos (by omega), hv, show j - (16 + 4 * c) = (k : Int) by omega]
      · rw [if_neg w]
        by_cases w2 : 16 + 4 * c ≤ j ∧ j < 16 + 4 * c + (k : Int)
        · rw [if_pos w2]
          exact (if_pos (by omega)).symm
        · rw [if_neg w2, if_neg (by omega)]
    rw [e0, e1, e3, e4, e5]
    by_cases z : (k : Int) < A c % 4
    · rw [if_pos z, e2 1 (by rw [if_pos z])]
    · rw [if_neg z, e2 0 (by rw [if_neg z])]
  have l := loop_n (P := fun k => Ws E (d + 3) mX10_doPart Q 14 [(2, 50), (0, c), (0, 16 + 4 * c), (0, (k : Int))] [] (mv h (cutT (up T c 0) c k) (cutA A c k) (cutK K c k) (cutG G c k) (cutX X c k) (cutO S c k))) 4 step
  have c0 : cutT (up T c 0) c 0 = up T c 0 := by funext j; unfold cutT; rw [if_neg (by omega)]
  have c1 : cutA A c 0 = A := by funext j; unfold cutA; rw [if_neg (by omega)]
  have c2 : cutK K c 0 = K := by funext j; unfold cutK; rw [if_neg (by omega)]
  have c3 : cutG G c 0 = G := by funext j; unfold cutG; rw [if_neg (by omega)]
  have c4 : cutX X c 0 = X := by funext j; unfold cutX; rw [if_neg (by omega)]
  rw [c0, c1, c2, c3, c4] at l
  refine l.trans ?_
  rw [b_X10_doPart_14 hE, if_neg (by decide)]
theorem e_m_together {E : PvEnv} (hE : ∀ k, E 50 k = refT 50 k) {d : Nat} {Q : Int → Hp → Prop} {h : Hp} {c : Int} (hc : 0 ≤ c ∧ c < 80) (ha : ∀ k : Int, 0 ≤ k → k < 336 → 0 ≤ h 58 k ∧ h 58 k ≤ 1000000) : wpS E (d + 2) mX10_together [(2, 50), (0, c)] h Q = Q (if h 57 (16 + 4 * c) ≠ 0 ∧ h 57 (16 + 4 * c + 1) ≠ 0 ∧ h 57 (16 + 4 * c + 2) ≠ 0 ∧ h 57 (16 + 4 * c + 3) ≠ 0 then (if (h 59 (16 + 4 * c) = 1 ∧ h 59 (16 + 4 * c + 1) = 1 ∧ h 59 (16 + 4 * c + 2) = 1 ∧ h 59 (16 + 4 * c + 3) = 1) then sum4 (h 58) c else -10) else -9) h := by
  rw [u_X10_together hE, e_m_child hc]
  have step : ∀ (k : Nat) (j t f v : Int), j = (k : Int) → k < 4 → (0 ≤ v ∧ v ≤ 3000000) → Ws E (d + 1) mX10_together Q 16 [(2, 50), (0, c), (0, 16 + 4 * c), (0, t), (0, f), (0, v), (0, (k : Int))] [] h = Ws E (d + 1) mX10_together Q 16 [(2, 50), (0, c), (0, 16 + 4 * c), (0, if t = 0 then 0 else if h 57 (16 + 4 * c + j) = 0 then 0 else 1), (0, if f = 0 then 0 else if h 59 (16 + 4 * c + j) = 1 then 1 else 0), (0, v + h 58 (16 + 4 * c + j)), (0, ((k + 1 : Nat) : Int))] [] h := by
    intro k j t f v hj hk hv
    subst hj
    have a := ha (16 + 4 * c + (k : Int)) (by omega) (by omega)
    have i : w32 (16 + 4 * c + (k : Int)) = 16 + 4 * c + k := w32_of (by omega) (by omega)
    have r67 : ∀ t' f' : Int, Ws E (d + 1) mX10_together Q 67 [(2, 50), (0, c), (0, 16 + 4 * c), (0, t'), (0, f), (0, v), (0, (k : Int))] [(0, f')] h = Ws E (d + 1) mX10_together Q 16 [(2, 50), (0, c), (0, 16 + 4 * c), (0, t'), (0, f'), (0, v + h 58 (16 + 4 * c + (k : Int))), (0, ((k + 1 : Nat) : Int))] [] h := by
      intro t' f'
      rw [b_X10_together_67 hE, i, and_tl (by omega), w32_of (x := v + _) (by omega) (by omega), w32_n1 (by omega)]
    have r43 : ∀ t' : Int, Ws E (d + 1) mX10_together Q 43 [(2, 50), (0, c), (0, 16 + 4 * c), (0, t), (0, f), (0, v), (0, (k : Int))] [(0, t')] h = Ws E (d + 1) mX10_together Q 16 [(2, 50), (0, c), (0, 16 + 4 * c), (0, t'), (0, if f = 0 then 0 else if h 59 (16 + 4 * c + (k : Int)) = 1 then 1 else 0), (0, v + h 58 (16 + 4 * c + (k : Int))), (0, ((k + 1 : Nat) : Int))] [] h := by
      intro t'
      rw [b_X10_together_43 hE, b_X10_together_66 hE, i, and_tl (by omega), r67, r67]
      by_cases z : f = 0
      · rw [if_pos z, if_pos z]
      · rw [if_neg z, if_neg z]
        by_cases w : h 59 (16 + 4 * c + (k : Int)) = 1
        · rw [if_pos w, if_pos w]
        · rw [if_neg w, if_neg w]
    rw [b_X10_together_16 hE, if_pos (by omega), b_X10_together_42 hE, i, and_tl (by omega), r43, r43]
    by_cases z : t = 0
    · rw [if_pos z, if_pos z]
    · rw [if_neg z, if_neg z]
      by_cases w : h 57 (16 + 4 * c + (k : Int)) = 0
      · rw [if_pos w, if_pos w]
      · rw [if_neg w, if_neg w]
  have a0 := ha (16 + 4 * c) (by omega) (by omega)
  have a1 := ha (16 + 4 * c + 1) (by omega) (by omega)
  have a2 := ha (16 + 4 * c + 2) (by omega) (by omega)
  have s0 := step 0 0 1 1 0 rfl (by omega) (by omega)
  rw [Int.add_zero] at s0
  refine s0.trans ?_
  rw [step 1 1 _ _ _ rfl (by omega) (by omega), step 2 2 _ _ _ rfl (by omega) (by omega), step 3 3 _ _ _ rfl (by omega) (by omega), b_X10_together_16 hE, if_neg (by decide)]
  have es : sum4 (h 58) c = 0 + h 58 (16 + 4 * c) + h 58 (16 + 4 * c + 1) + h 58 (16 + 4 * c + 2) + h 58 (16 + 4 * c + 3) := by unfold sum4; omega
  rw [es]
  generalize 0 + h 58 (16 + 4 * c) + h 58 (16 + 4 * c + 1) + h 58 (16 + 4 * c + 2) + h 58 (16 + 4 * c + 3) = z
  by_cases t0 : h 57 (16 + 4 * c) = 0
  · simp [t0]
  by_cases t1 : h 57 (16 + 4 * c + 1) = 0
  · simp [t1]
  by_cases t2 : h 57 (16 + 4 * c + 2) = 0
  · simp [t2]
  by_cases t3 : h 57 (16 + 4 * c + 3) = 0
  · simp [t3]
  simp only [t0, t1, t2, t3, if_false, ne_eq, not_false_eq_true, and_self, if_true, Int.reduceEq, reduceIte]
  by_cases z0 : h 59 (16 + 4 * c) = 1
  · by_cases z1 : h 59 (16 + 4 * c + 1) = 1
    · by_cases z2 : h 59 (16 + 4 * c + 2) = 1
      · by_cases z3 : h 59 (16 + 4 * c + 3) = 1
        · rw [if_pos (show (h 59 (16 + 4 * c) = 1 ∧ h 59 (16 + 4 * c + 1) = 1 ∧ h 59 (16 + 4 * c + 2) = 1 ∧ h 59 (16 + 4 * c + 3) = 1) from ⟨z0, z1, z2, z3⟩)]
          simp [z0, z1, z2, z3]
        · rw [if_neg (show ¬ (h 59 (16 + 4 * c) = 1 ∧ h 59 (16 + 4 * c + 1) = 1 ∧ h 59 (16 + 4 * c + 2) = 1 ∧ h 59 (16 + 4 * c + 3) = 1) from fun w => z3 w.2.2.2)]
          simp [z3]
      · rw [if_neg (show ¬ (h 59 (16 + 4 * c) = 1 ∧ h 59 (16 + 4 * c + 1) = 1 ∧ h 59 (16 + 4 * c + 2) = 1 ∧ h 59 (16 + 4 * c + 3) = 1) from fun w => z2 w.2.2.1)]
        simp [z2]
    · rw [if_neg (show ¬ (h 59 (16 + 4 * c) = 1 ∧ h 59 (16 + 4 * c + 1) = 1 ∧ h 59 (16 + 4 * c + 2) = 1 ∧ h 59 (16 + 4 * c + 3) = 1) from fun w => z1 w.2.1)]
      simp [z1]
  · rw [if_neg (show ¬ (h 59 (16 + 4 * c) = 1 ∧ h 59 (16 + 4 * c + 1) = 1 ∧ h 59 (16 + 4 * c + 2) = 1 ∧ h 59 (16 + 4 * c + 3) = 1) from fun w => z0 w.1)]
    simp [z0]
