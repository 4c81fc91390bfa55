/-! count -/
/-- loops with a local of no use -/
theorem loop_v {P : PV → Nat → Prop} (N : Nat) (v : PV) (hs : ∀ v k, k < N → ∃ v', P v k = P v' (k + 1)) : ∃ v', P v 0 = P v' N := by
  have : ∀ k, k ≤ N → ∃ v', P v 0 = P v' k := by
    intro k
    induction k with
    | zero => intro _; exact ⟨v, rfl⟩
    | succ k ih =>
      intro hk
      obtain ⟨v1, e1⟩ := ih (by omega)
      obtain ⟨v2, e2⟩ := hs v1 k (by omega)
      exact ⟨v2, e1.trans e2⟩
  exact this N (Nat.le_refl N)
abbrev ofK (h : Hp) (q c : Int) : Prop := h 57 c ≠ 0 ∧ (q < 0 ∨ h 59 c = q ∨ (q = 1 ∧ h 59 c = 2))
theorem e_m_counted {E : PvEnv} (hE : ∀ k, E 50 k = refT 50 k) {d : Nat} {Q : Int → Hp → Prop} {h : Hp} {q : Int} : wpS E (d + 1) mX10_counted [(2, 50), (0, q)] h Q = Q (cnt (ofK h q) 336) h := by
  rw [u_X10_counted hE]
  obtain ⟨v, l⟩ := loop_v (P := fun v k => Ws E d mX10_counted Q 4 [(2, 50), (0, q), (0, cnt (ofK h q) k), (0, (k : Int)), v] [] h) 336 (9, 0) (by
    intro v k hk
    have b := cnt_b (ofK h q) k
    have r : ∀ x : Int, x = 0 ∨ x = 1 → Ws E d mX10_counted Q 45 [(2, 50), (0, q), (0, cnt (ofK h q) k), (0, (k : Int)), v] [(0, x)] h = Ws E d mX10_counted Q 4 [(2, 50), (0, q), (0, if h 57 (k : Int) ≠ 0 ∧ x = 1 then cnt (ofK h q) k + 1 else cnt (ofK h q) k), (0, ((k + 1 : Nat) : Int)), (0, x)] [] h := by
      intro x hx
      rw [b_X10_counted_45 hE, and_tl (by omega), b_X10_counted_66 hE, b_X10_counted_67 hE, b_X10_counted_67 hE, w32_n1 (by omega), w32_of (by omega) (by omega), w32_of (by omega) (by omega), Int.add_zero]
      by_cases z : h 57 (k : Int) = 0
      · rw [if_pos z, if_neg (fun w => w.1 z)]
      · rw [if_neg z]
        by_cases w : x = 0
        · rw [if_pos w, if_neg (fun w' => by omega)]
        · rw [if_neg w, if_pos ⟨z, by omega⟩]
    by_cases y : q < 0 ∨ h 59 (k : Int) = q ∨ (q = 1 ∧ h 59 (k : Int) = 2)
    · refine ⟨(0, 1), ?_⟩
      have e : (if h 57 (k : Int) ≠ 0 ∧ (1 : Int) = 1 then cnt (ofK h q) k + 1 else cnt (ofK h q) k) = cnt (ofK h q) (k + 1) := by
        by_cases z : h 57 (k : Int) ≠ 0
        · rw [if_pos ⟨z, rfl⟩, cnt_t ⟨z, y⟩]
        · rw [if_neg (fun w => z w.1), cnt_f (fun w => z w.1)]
      have e2 := r 1 (Or.inr rfl)
      rw [e] at e2
      rw [← e2, b_X10_counted_4 hE, if_pos (by omega), b_X10_counted_40 hE, b_X10_counted_44 hE]
      by_cases y1 : q < 0
      · rw [if_pos y1]
      · rw [if_neg y1, and_tl (by omega)]
        by_cases y2 : h 59 (k : Int) = q
        · rw [if_pos y2]
        · rw [if_neg y2, if_pos (by omega), and_tl (by omega), if_pos (by omega)]
    · refine ⟨(0, 0), ?_⟩
      have e : (if h 57 (k : Int) ≠ 0 ∧ (0 : Int) = 1 then cnt (ofK h q) k + 1 else cnt (ofK h q) k) = cnt (ofK h q) (k + 1) := by
        rw [if_neg (fun w => by omega), cnt_f (fun w => y w.2)]
      have e2 := r 0 (Or.inl rfl)
      rw [e] at e2
      rw [← e2, b_X10_counted_4 hE, if_pos (by omega), b_X10_counted_40 hE, b_X10_counted_44 hE, if_neg (by omega), and_tl (by omega), if_neg (by omega)]
      by_cases y3 : q = 1
      · rw [if_pos y3, and_tl (by omega), if_neg (by omega)]
      · rw [if_neg y3])
  refine l.trans ?_
  show Ws E d mX10_counted Q 4 [(2, 50), (0, q), (0, _), (0, ((336 : Nat) : Int)), v] [] h = _
  rw [b_X10_counted_4 hE, if_neg (by decide)]
/-- what is counted, on either side -/
def cX (h : Hp) (w : Int) : Int := if w = 0 then h 11 8 else if w = 1 then cnt (fun c => h 12 c ≠ -1) 336 else if w = 2 then cnt (fun c => h 12 c = 1) 336 + cnt (fun c => h 12 c = 2) 336 else if w = 3 then cnt (fun c => h 12 c = 4) 336 else if w = 4 then cnt (fun c => h 12 c = 3) 336 else if w = 5 then cnt (fun k => h 31 k = 4) 6 else if w = 6 then (if h 37 6 = 0 then 0 else 1) + (if h 41 6 = 0 then 0 else 1) else if w = 7 then cnt (fun r => 0 ≤ h 2 r) 6 else if w = 8 then cnt (fun r => 0 ≤ h 5 r) 4 else -1
def cM (h : Hp) (w : Int) : Int := if w = 0 then h 50 28 else if w = 1 then cnt (ofK h (-9)) 336 else if w = 2 then cnt (ofK h 1) 336 else if w = 3 then cnt (ofK h 4) 336 else if w = 4 then cnt (ofK h 3) 336 else if w = 5 then cnt (fun k => h 74 k = 4) 6 else if w = 6 then (if h 81 0 = 0 then 0 else 1) + (if h 81 1 = 0 then 0 else 1) else if w = 7 then cnt (fun r => 0 ≤ h 52 r) 6 else cnt (fun r => 0 ≤ h 55 r) 4
theorem e_keptStates {n : Int} {d : Nat} {Q : Int → Hp → Prop} {h : Hp} : wpS (EF n) (d + 1) mX9_keptStates [(2, 0)] h Q = Q ((if h 37 6 = 0 then 0 else 1) + (if h 41 6 = 0 then 0 else 1)) h := by
  rw [u_X9_keptStates, b_X9_keptStates_15, b_X9_keptStates_15]
  by_cases z : h 37 6 = 0
  · rw [if_pos z, if_pos z]
    by_cases w : h 41 6 = 0
    · rw [if_pos w, if_pos w]; rfl
    · rw [if_neg w, if_neg w]; rfl
  · rw [if_neg z, if_neg z]
    by_cases w : h 41 6 = 0
    · rw [if_pos w, if_pos w]; rfl
    · rw [if_neg w, if_neg w]; rfl
theorem e_count {n : Int} {d : Nat} {Q : Int → Hp → Prop} {h : Hp} {w : Int} : wpS (EF n) (d + 4) mX9_count [(2, 0), (0, w)] h Q = Q (cX h w) h := by
  rw [u_X9_count, t_X9_count_1]
  unfold cX
  by_cases z0 : w = 0
  · rw [if_pos z0, if_pos z0, b_X9_countw_52]
  rw [if_neg z0, if_neg z0]
  by_cases z1 : w = 1
  · rw [if_pos z1, if_pos z1, b_X9_countw_60, e_cellsThere (EF_11 n)]
  rw [if_neg z1, if_neg z1]
  by_cases z2 : w = 2
  · have b1 := cnt_b (fun c => h 12 c = 1) 336
    have b2 := cnt_b (fun c => h 12 c = 2) 336
    rw [if_pos z2, if_pos z2, b_X9_countw_68, e_cellsOfKind (EF_11 n), e_cellsOfKind (EF_11 n), w32_of (by omega) (by omega)]
  rw [if_neg z2, if_neg z2]
  by_cases z3 : w = 3
  · rw [if_pos z3, if_pos z3, b_X9_countw_86, e_cellsOfKind (EF_11 n)]
  rw [if_neg z3, if_neg z3]
  by_cases z4 : w = 4
  · rw [if_pos z4, if_pos z4, b_X9_countw_95, e_cellsOfKind (EF_11 n)]
  rw [if_neg z4, if_neg z4]
  by_cases z5 : w = 5
  · rw [if_pos z5, if_pos z5, b_X9_countw_104, e_sparesBelow (by decide)]
    rfl
  rw [if_neg z5, if_neg z5]
  by_cases z6 : w = 6
  · rw [if_pos z6, if_pos z6, b_X9_countw_114, e_keptStates]
  rw [if_neg z6, if_neg z6]
  by_cases z7 : w = 7
  · rw [if_pos z7, if_pos z7, b_X9_countw_119, e_howMany_a]
  rw [if_neg z7, if_neg z7]
  by_cases z8 : w = 8
  · rw [if_pos z8, if_pos z8, b_X9_countw_127, e_howMany_b]
  rw [if_neg z8, if_neg z8, b_X9_countw_135]
theorem e_m_counts {E : PvEnv} (hE : ∀ k, E 50 k = refT 50 k) {d : Nat} {Q : Int → Hp → Prop} {h : Hp} {w : Int} : wpS E (d + 2) mX10_counts [(2, 50), (0, w)] h Q = Q (cM h w) h := by
  rw [u_X10_counts hE, t_X10_counts_3]
  have l80 : ∀ a1 : Int, Ws E (d + 1) mX10_counts Q 80 [(2, 50), (0, a1), (0, 0), (0, 0)] [] h = Q (cnt (fun k => h 74 k = 4) 6) h := by
    intro a1
    have l := count_loop (P := fun a k => Ws E (d + 1) mX10_counts Q 80 [(2, 50), (0, a1), (0, a), (0, k)] [] h) (fun k => h 74 k = 4) 6 (by
      intro k a hk h0 h1
      show Ws E (d + 1) mX10_counts Q 80 [(2, 50), (0, a1), (0, a), (0, (k : Int))] [] h = _
      rw [b_X10_countsw_80 hE, if_pos (by omega), and_tl (by omega), b_X10_countsw_102 hE, b_X10_countsw_102 hE, w32_n1 (by omega), w32_of (by omega) (by omega), w32_of (by omega) (by omega), Int.add_zero])
    refine l.trans ?_
    show Ws E (d + 1) mX10_counts Q 80 [(2, 50), (0, a1), (0, _), (0, ((6 : Nat) : Int))] [] h = _
    rw [b_X10_countsw_80 hE, if_neg (by decide)]
  have l144 : ∀ a1 : Int, Ws E (d + 1) mX10_counts Q 144 [(2, 50), (0, a1), (0, 0), (0, 0)] [] h = Q (cnt (fun k => 0 ≤ h 52 k) 6) h := by
    intro a1
    have l := count_loop (P := fun a k => Ws E (d + 1) mX10_counts Q 144 [(2, 50), (0, a1), (0, a), (0, k)] [] h) (fun k => 0 ≤ h 52 k) 6 (by
      intro k a hk h0 h1
      show Ws E (d + 1) mX10_counts Q 144 [(2, 50), (0, a1), (0, a), (0, (k : Int))] [] h = _
      rw [b_X10_countsw_144 hE, if_pos (by omega), and_tl (by omega), b_X10_countsw_165 hE, b_X10_countsw_165 hE, w32_n1 (by omega), w32_of (by omega) (by omega), w32_of (by omega) (by omega), Int.add_zero]
      by_cases z : h 52 (k : Int) < 0
      · rw [if_pos z, if_neg (by omega)]
      · rw [if_neg z, if_pos (by omega)])
    refine l.trans ?_
    show Ws E (d + 1) mX10_counts Q 144 [(2, 50), (0, a1), (0, _), (0, ((6 : Nat) : Int))] [] h = _
    rw [b_X10_countsw_144 hE, if_neg (by decide)]
  have l177 : ∀ a1 : Int, Ws E (d + 1) mX10_counts Q 177 [(2, 50), (0, a1), (0, 0), (0, 0)] [] h = Q (cnt (fun k => 0 ≤ h 55 k) 4) h := by
    intro a1
    have l := count_loop (P := fun a k => Ws E (d + 1) mX10_counts Q 177 [(2, 50), (0, a1), (0, a), (0, k)] [] h) (fun k => 0 ≤ h 55 k) 4 (by
      intro k a hk h0 h1
      show Ws E (d + 1) mX10_counts Q 177 [(2, 50), (0, a1), (0, a), (0, (k : Int))] [] h = _
      rw [b_X10_countsw_177 hE, if_pos (by omega), and_tl (by omega), b_X10_countsw_197 hE, b_X10_countsw_197 hE, w32_n1 (by omega), w32_of (by omega) (by omega), w32_of (by omega) (by omega), Int.add_zero]
      by_cases z : h 55 (k : Int) < 0
      · rw [if_pos z, if_neg (by omega)]
      · rw [if_neg z, if_pos (by omega)])
    refine l.trans ?_
    show Ws E (d + 1) mX10_counts Q 177 [(2, 50), (0, a1), (0, _), (0, ((4 : Nat) : Int))] [] h = _
    rw [b_X10_countsw_177 hE, if_neg (by decide)]
  unfold cM
  by_cases z0 : w = 0
  · rw [if_pos z0, if_pos z0, b_X10_countsw_48 hE]
  rw [if_neg z0, if_neg z0]
  by_cases z1 : w = 1
  · rw [if_pos z1, if_pos z1, b_X10_countsw_53 hE, e_m_counted hE]
  rw [if_neg z1, if_neg z1]
  by_cases z2 : w = 2
  · rw [if_pos z2, if_pos z2, b_X10_countsw_60 hE, e_m_counted hE]
  rw [if_neg z2, if_neg z2]
  by_cases z3 : w = 3
  · rw [if_pos z3, if_pos z3, b_X10_countsw_66 hE, e_m_counted hE]
  rw [if_neg z3, if_neg z3]
  by_cases z4 : w = 4
  · rw [if_pos z4, if_pos z4, b_X10_countsw_72 hE, e_m_counted hE]
  rw [if_neg z4, if_neg z4]
  by_cases z5 : w = 5
  · rw [if_pos z5, if_pos z5, b_X10_countsw_78 hE, l80]
  rw [if_neg z5, if_neg z5]
  by_cases z6 : w = 6
  · rw [if_pos z6, if_pos z6, b_X10_countsw_112 hE, and_tl (by decide), b_X10_countsw_126 hE, b_X10_countsw_126 hE, and_tl (by decide), and_tl (by decide)]
    by_cases z : h 81 0 = 0
    · rw [if_pos z, if_pos z]
      by_cases w : h 81 1 = 0
      · rw [if_pos w, if_pos w]; rfl
      · rw [if_neg w, if_neg w]; rfl
    · rw [if_neg z, if_neg z]
      by_cases w : h 81 1 = 0
      · rw [if_pos w, if_pos w]; rfl
      · rw [if_neg w, if_neg w]; rfl
  rw [if_neg z6, if_neg z6]
  by_cases z7 : w = 7
  · rw [if_pos z7, if_pos z7, b_X10_countsw_142 hE, l144]
  rw [if_neg z7, if_neg z7, b_X10_countsw_175 hE, l177]
theorem cnt_or {p q r : Int → Prop} [DecidablePred p] [DecidablePred q] [DecidablePred r] : ∀ (k : Nat), (∀ j : Nat, j < k → (r j ↔ p j ∨ q j) ∧ ¬ (p j ∧ q j)) → cnt r k = cnt p k + cnt q k
  | 0, _ => rfl
  | k + 1, h => by
    have ih := cnt_or (p := p) (q := q) (r := r) k (fun j hj => h j (by omega))
    have hk := h k (by omega)
    by_cases z : p k
    · rw [cnt_t z, cnt_f (p := q) (fun w => hk.2 ⟨z, w⟩), cnt_t (hk.1.mpr (Or.inl z)), ih]
      omega
    · by_cases y : q k
      · rw [cnt_f z, cnt_t y, cnt_t (hk.1.mpr (Or.inr y)), ih]
        omega
      · rw [cnt_f z, cnt_f y, cnt_f (fun w => (hk.1.mp w).elim z y), ih]
theorem cX_cM {h : Hp} (hC : Cpl h) {w : Int} (hw : 0 ≤ w ∧ w ≤ 8) : cM h w = cX h w := by
  obtain ⟨c1, c2, c3, c4, c5, c6, c7, c8, c9, c10, c11, c12, c13, c14, c15⟩ := hC
  have one : ∀ q : Int, 2 ≤ q → cnt (ofK h q) 336 = cnt (fun c => h 12 c = q) 336 := fun q hq => cnt_c 336 (fun j hj => by
    have aT := cw_T c7 (c := j) (by omega)
    constructor
    · intro a
      have v : h 12 (j : Int) ≠ -1 := fun v => a.1 (aT.mpr v)
      have e := (cw_e c7 (c := j) (by omega) v).1
      omega
    · intro a
      have v : h 12 (j : Int) ≠ -1 := by omega
      have e := (cw_e c7 (c := j) (by omega) v).1
      exact ⟨fun w => v (aT.mp w), by omega⟩)
  unfold cM cX
  by_cases z0 : w = 0
  · rw [if_pos z0, if_pos z0]
    exact c7.1
  rw [if_neg z0, if_neg z0]
  by_cases z1 : w = 1
  · rw [if_pos z1, if_pos z1]
    exact cnt_c 336 (fun j hj => by
      have aT := cw_T c7 (c := j) (by omega)
      exact ⟨fun a w => a.1 (aT.mpr w), fun a => ⟨fun w => a (aT.mp w), Or.inl (by decide)⟩⟩)
  rw [if_neg z1, if_neg z1]
  by_cases z2 : w = 2
  · rw [if_pos z2, if_pos z2]
    refine cnt_or 336 (fun j hj => ?_)
    have aT := cw_T c7 (c := j) (by omega)
    by_cases v : h 12 (j : Int) = -1
    · exact ⟨⟨fun a => absurd (aT.mpr v) a.1, fun a => by omega⟩, by omega⟩
    · have e := (cw_e c7 (c := j) (by omega) v).1
      exact ⟨⟨fun a => by omega, fun a => ⟨fun w => v (aT.mp w), by omega⟩⟩, by omega⟩
  rw [if_neg z2, if_neg z2]
  by_cases z3 : w = 3
  · rw [if_pos z3, if_pos z3]
    exact one 4 (by decide)
  rw [if_neg z3, if_neg z3]
  by_cases z4 : w = 4
  · rw [if_pos z4, if_pos z4]
    exact one 3 (by decide)
  rw [if_neg z4, if_neg z4]
  by_cases z5 : w = 5
  · rw [if_pos z5, if_pos z5]
    exact cnt_c 6 (fun j hj => by rw [(c11 j (by omega) (by omega)).1])
  rw [if_neg z5, if_neg z5]
  by_cases z6 : w = 6
  · rw [if_pos z6, if_pos z6, c12.2.1, c13.2.1]
  rw [if_neg z6, if_neg z6]
  by_cases z7 : w = 7
  · rw [if_pos z7, if_pos z7]
    exact cnt_c 6 (fun j hj => by have := CSh_neg c3 (r := j) (by omega); omega)
  rw [if_neg z7, if_neg z7, if_pos (by omega)]
  exact cnt_c 4 (fun j hj => by have := CSh_neg c4 (r := j) (by omega); omega)
theorem p_count {n w : Int} : Pr n mX9_count mX10_count [(0, w)] := by
  intro h hC
  by_cases z : 0 ≤ w ∧ w ≤ 8
  · refine ⟨cX h w, h, h, fun Q => e_count, fun Q => ?_, hC⟩
    rw [u_X10_count (EF_50 n), e_m_in, b2_if, if_pos z, e_m_counts (EF_50 n), cX_cM hC z]
  · refine ⟨-1, h, h, fun Q => ?_, fun Q => ?_, hC⟩
    · rw [e_count, show cX h w = -1 by unfold cX; simp only [if_neg (show ¬ w = 0 by omega), if_neg (show ¬ w = 1 by omega), if_neg (show ¬ w = 2 by omega), if_neg (show ¬ w = 3 by omega), if_neg (show ¬ w = 4 by omega), if_neg (show ¬ w = 5 by omega), if_neg (show ¬ w = 6 by omega), if_neg (show ¬ w = 7 by omega), if_neg (show ¬ w = 8 by omega)]]
    · rw [u_X10_count (EF_50 n), e_m_in, b2_if, if_neg z]
