/-! the neighbours in the reference -/
/-- the rows 50, 63, 64 replaced -/
def vN (h : Hp) (r50 r63 r64 : Int → Int) : Hp := fun a => if a = 50 then r50 else if a = 63 then r63 else if a = 64 then r64 else h a
section VvN
variable {h : Hp} {r50 r63 r64 : Int → Int}
theorem vN_id : vN h (h 50) (h 63) (h 64) = h := by
  funext a
  unfold vN
  repeat' split
  all_goals first | rfl | (subst_vars; rfl)
theorem vN_r50 : vN h r50 r63 r64 50 = r50 := rfl
theorem vN_r63 : vN h r50 r63 r64 63 = r63 := rfl
theorem vN_r64 : vN h r50 r63 r64 64 = r64 := rfl
theorem vN_off {a : Int} (h50 : a ≠ 50) (h63 : a ≠ 63) (h64 : a ≠ 64) : vN h r50 r63 r64 a = h a := by
  unfold vN
  rw [if_neg h50, if_neg h63, if_neg h64]
theorem vN_w50 (f : Int → Int) : hrow (vN h r50 r63 r64) 50 f = vN h f r63 r64 := by
  funext a
  unfold hrow vN
  by_cases z : a = 50
  · subst z; rfl
  · simp only [if_neg z]
theorem vN_s50 (i v : Int) : hst (vN h r50 r63 r64) 50 i v = vN h (up r50 i v) r63 r64 := by
  rw [hst_row, vN_w50]
  rfl
theorem vN_w63 (f : Int → Int) : hrow (vN h r50 r63 r64) 63 f = vN h r50 f r64 := by
  funext a
  unfold hrow vN
  by_cases z : a = 63
  · subst z; rfl
  · simp only [if_neg z]
theorem vN_s63 (i v : Int) : hst (vN h r50 r63 r64) 63 i v = vN h r50 (up r63 i v) r64 := by
  rw [hst_row, vN_w63]
  rfl
theorem vN_w64 (f : Int → Int) : hrow (vN h r50 r63 r64) 64 f = vN h r50 r63 f := by
  funext a
  unfold hrow vN
  by_cases z : a = 64
  · subst z; rfl
  · simp only [if_neg z]
theorem vN_s64 (i v : Int) : hst (vN h r50 r63 r64) 64 i v = vN h r50 r63 (up r64 i v) := by
  rw [hst_row, vN_w64]
  rfl
end VvN
/-- a sum over a list is one over its values -/
theorem sm_vals (ψ B : Int → Int) {M : Nat} : ∀ n : Nat, (∀ j : Nat, j < n → 0 ≤ B j ∧ B j < M) → sm (fun j => ψ (B j)) n = sm (fun b => cnt (fun j => B j = b) n * ψ b) M
  | 0, _ => by
    show (0 : Int) = sm (fun b => 0 * ψ b) M
    exact (sm_0 (f := fun b => 0 * ψ b) (fun j hj => Int.zero_mul _)).symm
  | n + 1, h => by
    have ih := sm_vals ψ B n (fun j hj => h j (by omega))
    have hn := h n (by omega)
    show sm (fun j => ψ (B j)) n + ψ (B n) = _
    rw [ih]
    have e := sm_dl (v := ψ (B n)) (i := (B n).toNat) M
    rw [if_pos (by omega)] at e
    rw [← e, ← sm_add]
    refine sm_c M (fun b hb => ?_)
    have eN : (((B n).toNat : Nat) : Int) = B n := by omega
    rw [eN]
    by_cases z : B n = (b : Int)
    · rw [cnt_t (p := fun j => B j = (b : Int)) z, if_pos z.symm, z, Int.add_mul, Int.one_mul]
    · rw [cnt_f (p := fun j => B j = (b : Int)) z, if_neg (fun q => z q.symm), Int.add_zero]
/-- the list of neighbours gives, for any weight, what the names give -/
theorem near_sum {O : Int → Int} {c lo hi : Int} {B D : Int → Int} (h : NearOK O c lo hi B D) (φ : Int → Int → Int) : sm (fun j => φ (B (lo + j)) (D (lo + j))) (hi - lo).toNat = sm (fun b => if 1 ≤ nb O c b then φ b (nb O c b) else 0) 336 := by
  obtain ⟨h1, h2, h3⟩ := h
  have e1 : sm (fun j => φ (B (lo + j)) (D (lo + j))) (hi - lo).toNat = sm (fun j => (fun b => φ b (nb O c b)) (B (lo + j))) (hi - lo).toNat := sm_c _ (fun j hj => by
    rw [(h1 (lo + j) (by omega) (by omega)).2.1])
  rw [e1, sm_vals (fun b => φ b (nb O c b)) (fun j => B (lo + j)) (M := 336) _ (fun j hj => (h1 (lo + j) (by omega) (by omega)).1)]
  refine sm_c 336 (fun b hb => ?_)
  by_cases z : 1 ≤ nb O c b
  · rw [if_pos z]
    obtain ⟨k, k1, k2, k3⟩ := h3 b z
    have one : cnt (fun j => B (lo + j) = (b : Int)) (hi - lo).toNat = 1 := by
      rw [cnt_sm]
      have d := sm_dl (v := 1) (i := (k - lo).toNat) (hi - lo).toNat
      rw [if_pos (by omega)] at d
      refine Eq.trans (sm_c _ (fun j hj => ?_)) d
      by_cases y : (j : Int) = ((k - lo).toNat : Nat)
      · rw [if_pos y, if_pos (by rw [y, show lo + (((k - lo).toNat : Nat) : Int) = k by omega]; exact k3)]
      · rw [if_neg y]
        refine if_neg (fun q => y ?_)
        have := h2 (lo + j) k (by omega) (by omega) k1 k2 (by rw [q, k3])
        omega
    rw [one, Int.one_mul]
  · rw [if_neg z]
    have none : cnt (fun j => B (lo + j) = (b : Int)) (hi - lo).toNat = 0 := cnt_none (fun j hj q => z (by
      have := h1 (lo + j) (by omega) (by omega)
      rw [q] at this
      omega))
    rw [none, Int.zero_mul]
/-- the order in which the reference looks around -/
def pos (w j : Int) : Int := if j % 4 = 0 then 2 * w + j / 4 else if j % 4 = 1 then 3 * w + j / 4 else if j % 4 = 2 then j / 4 else w + j / 4
theorem pos1 : ∀ i : Fin 4, cnt (fun j => pos 1 j = (i.val : Nat)) 4 = 1 := by decide +kernel
theorem pos2 : ∀ i : Fin 8, cnt (fun j => pos 2 j = (i.val : Nat)) 8 = 1 := by decide +kernel
theorem pos4 : ∀ i : Fin 16, cnt (fun j => pos 4 j = (i.val : Nat)) 16 = 1 := by decide +kernel
theorem pos_b {w j : Int} (hw : 1 ≤ w) (h0 : 0 ≤ j) (h1 : j < 4 * w) : 0 ≤ pos w j ∧ pos w j < 4 * w := by
  unfold pos
  split
  · omega
  · split
    · omega
    · split <;> omega
theorem pos_sm {c : Int} (f : Int → Int) : sm (fun j => f (pos (gw c) j)) (4 * gw c).toNat = sm f (4 * gw c).toNat := by
  have bw := gw_b c
  rw [sm_vals f (fun j => pos (gw c) j) (M := (4 * gw c).toNat) _ (fun j hj => by
    have := pos_b (w := gw c) (j := j) bw.1 (by omega) (by omega)
    omega)]
  refine sm_c _ (fun i hi => ?_)
  have one : cnt (fun j => pos (gw c) j = (i : Int)) (4 * gw c).toNat = 1 := by
    rcases w3 c with e | e | e
    · rw [e] at hi ⊢
      exact pos4 ⟨i, hi⟩
    · rw [e] at hi ⊢
      exact pos2 ⟨i, hi⟩
    · rw [e] at hi ⊢
      exact pos1 ⟨i, hi⟩
  rw [one, Int.one_mul]
theorem pos_cnt {c : Int} (p : Int → Prop) [DecidablePred p] : cnt (fun j => p (pos (gw c) j)) (4 * gw c).toNat = cnt p (4 * gw c).toNat := by
  rw [cnt_sm, cnt_sm]
  exact pos_sm (c := c) (fun i => if p i then 1 else 0)
/-- m squares are looked at -/
def InN (W : Int → Prop) [DecidablePred W] (A : Int → Int) (m : Nat) (L : Int) (B D : Int → Int) (r : Int) : Prop :=
  (0 ≤ L ∧ L ≤ m) ∧ r = cnt (fun j => ¬ W j) m ∧ (∀ k : Int, 0 ≤ k → k < L → isN (B k) ∧ D k = cnt (fun j => W j ∧ A j = B k) m ∧ 1 ≤ D k) ∧ (∀ k k' : Int, 0 ≤ k → k < L → 0 ≤ k' → k' < L → B k = B k' → k = k') ∧ ∀ b : Int, 1 ≤ cnt (fun j => W j ∧ A j = b) m → ∃ k : Int, 0 ≤ k ∧ k < L ∧ B k = b
section NEAR
variable {A B D : Int → Int} {m : Nat} {L r : Int}
theorem InN_off {W : Int → Prop} [DecidablePred W] (h : InN W A m L B D r) (hw : ¬ W m) : InN W A (m + 1) L B D (r + 1) := by
  obtain ⟨h1, h2, h4, h5, h6⟩ := h
  refine ⟨by omega, ?_, fun k k1 k2 => ?_, h5, fun b hb => ?_⟩
  · rw [cnt_t hw, h2]
  · rw [cnt_f (fun q => hw q.1)]; exact h4 k k1 k2
  · rw [cnt_f (fun q => hw q.1)] at hb; exact h6 b hb
theorem InN_same {W : Int → Prop} [DecidablePred W] (h : InN W A m L B D r) (hw : W m) {k0 : Int} (k1 : 0 ≤ k0) (k2 : k0 < L) (hB : B k0 = A m) : InN W A (m + 1) L B (up D k0 (D k0 + 1)) r := by
  obtain ⟨h1, h2, h4, h5, h6⟩ := h
  refine ⟨by omega, ?_, fun k j1 j2 => ?_, h5, fun b hb => ?_⟩
  · rw [cnt_f (fun q => q hw)]; exact h2
  · obtain ⟨a1, a2, a3⟩ := h4 k j1 j2
    by_cases z : k = k0
    · subst z
      rw [up_s, cnt_t ⟨hw, hB.symm⟩]
      exact ⟨a1, by omega, by omega⟩
    · rw [up_n _ _ z, cnt_f (fun q => z (h5 k k0 j1 j2 k1 k2 (by rw [hB, q.2])))]
      exact ⟨a1, a2, a3⟩
  · by_cases z : A m = b
    · exact ⟨k0, k1, k2, by rw [hB, z]⟩
    · rw [cnt_f (fun q => z q.2)] at hb
      exact h6 b hb
theorem InN_new {W : Int → Prop} [DecidablePred W] (h : InN W A m L B D r) (hw : W m) (hA : isN (A m)) (hn : ∀ k : Int, 0 ≤ k → k < L → B k ≠ A m) : InN W A (m + 1) (L + 1) (up B L (A m)) (up D L 1) r := by
  obtain ⟨h1, h2, h4, h5, h6⟩ := h
  have z0 : cnt (fun j => W j ∧ A j = A m) m = 0 := by
    have b := cnt_b (fun j => W j ∧ A j = A m) m
    by_cases z : 1 ≤ cnt (fun j => W j ∧ A j = A m) m
    · obtain ⟨k, k1, k2, k3⟩ := h6 _ z
      exact absurd k3 (hn k k1 k2)
    · omega
  refine ⟨by omega, ?_, fun k k1 k2 => ?_, fun k k' k1 k2 k3 k4 e => ?_, fun b hb => ?_⟩
  · rw [cnt_f (fun q => q hw)]; exact h2
  · by_cases z : k = L
    · subst z
      rw [up_s, up_s, cnt_t ⟨hw, rfl⟩, z0]
      exact ⟨hA, rfl, Int.le_refl _⟩
    · rw [up_n _ _ z, up_n _ _ z, cnt_f (fun q => hn k k1 (by omega) q.2.symm)]
      exact h4 k k1 (by omega)
  · by_cases z : k = L
    · by_cases z' : k' = L
      · omega
      · rw [z, up_s, up_n _ _ z'] at e
        exact absurd e.symm (hn k' k3 (by omega))
    · rw [up_n _ _ z] at e
      by_cases z' : k' = L
      · rw [z', up_s] at e
        exact absurd e (hn k k1 (by omega))
      · rw [up_n _ _ z'] at e
        exact h5 k k' k1 (by omega) k3 (by omega) e
  · by_cases z : A m = b
    · exact ⟨L, h1.1, by omega, by rw [up_s]; exact z⟩
    · rw [cnt_f (fun q => z q.2)] at hb
      obtain ⟨k, k1, k2, k3⟩ := h6 b hb
      exact ⟨k, k1, by omega, by rw [up_n _ _ (by omega)]; exact k3⟩
end NEAR
section NEARM
variable {E : PvEnv} {d : Nat} {h : Hp} {r50 B D : Int → Int}
theorem e_beside (hE : ∀ k, E 50 k = refT 50 k) (hS : ∀ s : Int, 0 ≤ s → s < 256 → isN (h 62 s)) {c : Int} {m : Nat} {L r : Int} (hm : m < 16) (I : InN (fun j => aW c (pos (gw c) j)) (fun j => aO (h 62) c (pos (gw c) j)) m L B D r) : ∃ (L' : Int) (B' D' : Int → Int) (r' : Int), InN (fun j => aW c (pos (gw c) j)) (fun j => aO (h 62) c (pos (gw c) j)) (m + 1) L' B' D' r' ∧ ∀ Q, wpS E (d + 2) mX10_beside [(2, 50), (0, px c (pos (gw c) m)), (0, py c (pos (gw c) m))] (vN h (up (up r50 29 L) 32 r) B D) Q = Q 0 (vN h (up (up r50 29 L') 32 r') B' D') := by
  have i1 := I.1
  have rb := cnt_b (fun j => ¬ aW c (pos (gw c) j)) m
  have i2 : r = cnt (fun j => ¬ aW c (pos (gw c) j)) m := I.2.1
  have e29 : up (up r50 29 L) 32 r 29 = L := by rw [up_n _ _ (by decide), up_s]
  by_cases hw : aW c (pos (gw c) m)
  · have hx := hw.1
    have hy := hw.2
    have hA := hS (16 * py c (pos (gw c) m) + px c (pos (gw c) m)) (by omega) (by omega)
    generalize hpx : px c (pos (gw c) m) = X at *
    generalize hpy : py c (pos (gw c) m) = Y at *
    have eA : aO (h 62) c (pos (gw c) m) = h 62 (16 * Y + X) := by
      show h 62 (16 * py c (pos (gw c) m) + px c (pos (gw c) m)) = _
      rw [hpx, hpy]
    have sr : ∀ (Q : Int → Hp → Prop) (k : Nat) (a : Int), 0 ≤ a → a + k = L → Ws E (d + 1) mX10_beside Q 46 [(2, 50), (0, X), (0, Y), (0, h 62 (16 * Y + X)), (0, a)] [] (vN h (up (up r50 29 L) 32 r) B D) = Ws E (d + 1) mX10_beside Q 72 [(2, 50), (0, X), (0, Y), (0, h 62 (16 * Y + X)), (0, fst1 (fun k => B k = h 62 (16 * Y + X)) k a)] [] (vN h (up (up r50 29 L) 32 r) B D) := by
      intro Q k
      induction k with
      | zero =>
        intro a a0 ha
        rw [b_X10_beside_46 hE, vN_r50, e29, if_neg (by omega)]
        rfl
      | succ k ih =>
        intro a a0 ha
        rw [b_X10_beside_46 hE, vN_r50, e29, if_pos (by omega), and_tl (by omega), vN_r63, w32_of (x := a + 1) (by omega) (by omega), ih (a + 1) (by omega) (by omega)]
        show _ = Ws E (d + 1) mX10_beside Q 72 [(2, 50), (0, X), (0, Y), (0, h 62 (16 * Y + X)), (0, if B a = h 62 (16 * Y + X) then a else fst1 (fun k => B k = h 62 (16 * Y + X)) k (a + 1))] [] (vN h (up (up r50 29 L) 32 r) B D)
        by_cases z : B a = h 62 (16 * Y + X)
        · rw [if_pos z, if_pos z]
        · rw [if_neg z, if_neg z]
    have en : ∀ Q, wpS E (d + 2) mX10_beside [(2, 50), (0, X), (0, Y)] (vN h (up (up r50 29 L) 32 r) B D) Q = Ws E (d + 1) mX10_beside Q 72 [(2, 50), (0, X), (0, Y), (0, h 62 (16 * Y + X)), (0, fst1 (fun k => B k = h 62 (16 * Y + X)) L.toNat 0)] [] (vN h (up (up r50 29 L) 32 r) B D) := by
      intro Q
      have x62 : (vN h (up (up r50 29 L) 32 r) B D) 62 = h 62 := rfl
      rw [u_X10_beside hE, e_m_in, b2_if, if_pos (by omega), e_m_in, b2_if, if_pos (by omega), w32_of (x := 16 * Y) (by omega) (by omega), w32_of (x := 16 * Y + X) (by omega) (by omega), and_tl (by omega), x62]
      exact sr Q L.toNat 0 (by decide) (by omega)
    have fb := fst1_b (fun k => B k = h 62 (16 * Y + X)) L.toNat 0
    by_cases z : fst1 (fun k => B k = h 62 (16 * Y + X)) L.toNat 0 < L
    · have fB := fb.2.2 (by omega)
      generalize fst1 (fun k => B k = h 62 (16 * Y + X)) L.toNat 0 = k0 at *
      have Dk : isN (B k0) ∧ D k0 = cnt (fun j => aW c (pos (gw c) j) ∧ aO (h 62) c (pos (gw c) j) = B k0) m ∧ 1 ≤ D k0 := I.2.2.1 k0 fb.1 z
      have Db := cnt_b (fun j => aW c (pos (gw c) j) ∧ aO (h 62) c (pos (gw c) j) = B k0) m
      refine ⟨L, B, up D k0 (D k0 + 1), r, InN_same I hw fb.1 z (by rw [fB, eA]), fun Q => ?_⟩
      rw [en, b_X10_beside_72 hE, vN_r50, e29, if_neg (by omega), b_X10_beside_107 hE, and_tl (by omega), and_tl (by omega), vN_r64, vN_s64, w32_of (x := D k0 + 1) (by omega) (by omega)]
    · have e0 : fst1 (fun k => B k = h 62 (16 * Y + X)) L.toNat 0 = L := by omega
      have no := fst1_all (p := fun k => B k = h 62 (16 * Y + X)) L.toNat 0 (by omega)
      refine ⟨L + 1, up B L (h 62 (16 * Y + X)), up D L 1, r, ?_, fun Q => ?_⟩
      · have := InN_new I hw (by rw [eA]; exact hA) (fun k k1 k2 => by rw [eA]; exact no k k1 (by omega))
        rw [eA] at this
        exact this
      · rw [en, e0, b_X10_beside_72 hE, vN_r50, e29, if_pos rfl, and_tl (by omega), and_tl (by omega), vN_s63, vN_s64, vN_r50, e29, vN_s50, b_X10_beside_107 hE, and_tl (by omega), and_tl (by omega), vN_r64, up_s, vN_s64, up_up, w32_of (x := L + 1) (by omega) (by omega)]
        have e5 : up (up (up r50 29 L) 32 r) 29 (L + 1) = up (up r50 29 (L + 1)) 32 r := by
          funext j
          unfold up
          by_cases q1 : j = 29
          · subst q1; rfl
          · rw [if_neg q1, if_neg q1, if_neg q1]
        rw [e5]
        rfl
  · refine ⟨L, B, D, r + 1, InN_off I hw, fun Q => ?_⟩
    have e32 : up (up r50 29 L) 32 r 32 = r := up_s _ _ _
    have hr : Ws E (d + 1) mX10_beside Q 20 [(2, 50), (0, px c (pos (gw c) m)), (0, py c (pos (gw c) m)), (9, 0), (9, 0)] [] (vN h (up (up r50 29 L) 32 r) B D) = Q 0 (vN h (up (up r50 29 L) 32 (r + 1)) B D) := by
      rw [b_X10_beside_20 hE, vN_r50, e32, vN_s50, up_up, w32_of (x := r + 1) (by omega) (by omega)]
    rw [u_X10_beside hE, e_m_in, b2_if, e_m_in, b2_if, hr]
    by_cases z1 : 0 ≤ px c (pos (gw c) m) ∧ px c (pos (gw c) m) ≤ 15
    · rw [if_pos z1]
      by_cases z2 : 0 ≤ py c (pos (gw c) m) ∧ py c (pos (gw c) m) ≤ 15
      · exact absurd (show aW c (pos (gw c) m) from ⟨by omega, by omega⟩) hw
      · rw [if_neg z2]
    · rw [if_neg z1]
theorem pos_at {c : Int} {k : Nat} (hk : (k : Int) < gw c) : (px c (pos (gw c) ((4 * k : Nat) : Int)) = gx c + k ∧ py c (pos (gw c) ((4 * k : Nat) : Int)) = gy c - 1) ∧ (px c (pos (gw c) ((4 * k + 1 : Nat) : Int)) = gx c + k ∧ py c (pos (gw c) ((4 * k + 1 : Nat) : Int)) = gy c + gw c) ∧ (px c (pos (gw c) ((4 * k + 2 : Nat) : Int)) = gx c - 1 ∧ py c (pos (gw c) ((4 * k + 2 : Nat) : Int)) = gy c + k) ∧ (px c (pos (gw c) ((4 * k + 3 : Nat) : Int)) = gx c + gw c ∧ py c (pos (gw c) ((4 * k + 3 : Nat) : Int)) = gy c + k) := by
  have bw := gw_b c
  have q0 : pos (gw c) ((4 * k : Nat) : Int) = 2 * gw c + k := by unfold pos; rw [if_pos (by omega)]; omega
  have q1 : pos (gw c) ((4 * k + 1 : Nat) : Int) = 3 * gw c + k := by unfold pos; rw [if_neg (by omega), if_pos (by omega)]; omega
  have q2 : pos (gw c) ((4 * k + 2 : Nat) : Int) = k := by unfold pos; rw [if_neg (by omega), if_neg (by omega), if_pos (by omega)]; omega
  have q3 : pos (gw c) ((4 * k + 3 : Nat) : Int) = gw c + k := by unfold pos; rw [if_neg (by omega), if_neg (by omega), if_neg (by omega)]; omega
  rw [q0, q1, q2, q3]
  have s0 := p_side (c := c) (i := 2 * gw c + k) (by omega) (by omega)
  have s1 := p_side (c := c) (i := 3 * gw c + k) (by omega) (by omega)
  have s2 := p_side (c := c) (i := k) (by omega) (by omega)
  have s3 := p_side (c := c) (i := gw c + k) (by omega) (by omega)
  refine ⟨⟨by omega, by omega⟩, ⟨by omega, by omega⟩, ⟨by omega, by omega⟩, by omega, by omega⟩
theorem e_m_setNear (hE : ∀ k, E 50 k = refT 50 k) (hS : ∀ s : Int, 0 ≤ s → s < 256 → isN (h 62 s)) {c : Int} (hc : isN c) : ∃ (L : Int) (B' D' : Int → Int), (0 ≤ L ∧ L ≤ 16) ∧ NearOK (h 62) c 0 L B' D' ∧ ∀ Q, wpS E (d + 3) mX10_setNear [(2, 50), (0, c)] h Q = Q 0 (vN h (up (up (h 50) 29 L) 32 (rm c)) B' D') := by
  have bw := gw_b c
  have bx := gx_b hc
  have bY := gy_b hc
  obtain ⟨w, hw⟩ : ∃ w : Nat, gw c = (w : Int) := ⟨(gw c).toNat, by omega⟩
  obtain ⟨⟨L, B', D', r⟩, i1, e1⟩ := loop_e (σ := Int × (Int → Int) × (Int → Int) × Int) (Inv := fun k s => InN (fun j => aW c (pos (gw c) j)) (fun j => aO (h 62) c (pos (gw c) j)) (4 * k) s.1 s.2.1 s.2.2.1 s.2.2.2) (X := fun Q k s => Ws E (d + 2) mX10_setNear Q 29 [(2, 50), (0, c), (0, gx c), (0, gy c), (0, gw c), (0, (k : Int))] [] (vN h (up (up (h 50) 29 s.1) 32 s.2.2.2) s.2.1 s.2.2.1)) w (0, h 63, h 64, 0) ⟨⟨Int.le_refl _, Int.le_refl _⟩, rfl, fun k k1 k2 => absurd (show k < 0 from k2) (by omega), fun k k' k1 k2 => absurd (show k < 0 from k2) (by omega), fun b hb => absurd (show (1 : Int) ≤ 0 from hb) (by decide)⟩ (by
    rintro k ⟨L, B, D, r⟩ hk I
    have I : InN (fun j => aW c (pos (gw c) j)) (fun j => aO (h 62) c (pos (gw c) j)) (4 * k) L B D r := I
    obtain ⟨p0, p1, p2, p3⟩ := pos_at (c := c) (k := k) (by omega)
    obtain ⟨L1, B1, D1, r1, I1, e1⟩ := e_beside (d := d) (r50 := h 50) hE hS (m := 4 * k) (by omega) I
    obtain ⟨L2, B2, D2, r2, I2, e2⟩ := e_beside (d := d) (r50 := h 50) hE hS (m := 4 * k + 1) (by omega) I1
    obtain ⟨L3, B3, D3, r3, I3, e3⟩ := e_beside (d := d) (r50 := h 50) hE hS (m := 4 * k + 2) (by omega) I2
    obtain ⟨L4, B4, D4, r4, I4, e4⟩ := e_beside (d := d) (r50 := h 50) hE hS (m := 4 * k + 3) (by omega) I3
    rw [p0.1, p0.2] at e1
    rw [p1.1, p1.2] at e2
    rw [p2.1, p2.2] at e3
    rw [p3.1, p3.2] at e4
    refine ⟨(L4, B4, D4, r4), I4, fun Q => ?_⟩
    show Ws E (d + 2) mX10_setNear Q 29 [(2, 50), (0, c), (0, gx c), (0, gy c), (0, gw c), (0, (k : Int))] [] (vN h (up (up (h 50) 29 L) 32 r) B D) = _
    rw [b_X10_setNear_29 hE, if_pos (by omega), w32_of (x := gx c + k) (by omega) (by omega), w32_of (x := gy c - 1) (by omega) (by omega), e1, w32_of (x := gy c + gw c) (by omega) (by omega), e2, w32_of (x := gx c - 1) (by omega) (by omega), w32_of (x := gy c + k) (by omega) (by omega), e3, w32_of (x := gx c + gw c) (by omega) (by omega), e4, w32_n1 (by omega)])
  have i1 : InN (fun j => aW c (pos (gw c) j)) (fun j => aO (h 62) c (pos (gw c) j)) (4 * w) L B' D' r := i1
  have ew : (4 * gw c).toNat = 4 * w := by omega
  rw [← ew] at i1
  obtain ⟨j1, j2, j3, j4, j5⟩ := i1
  have cn : ∀ b : Int, cnt (fun j => aW c (pos (gw c) j) ∧ aO (h 62) c (pos (gw c) j) = b) (4 * gw c).toNat = nb (h 62) c b := fun b => pos_cnt (c := c) (fun i => aW c i ∧ aO (h 62) c i = b)
  have cr : r = rm c := j2.trans (pos_cnt (c := c) (fun i => ¬ aW c i))
  refine ⟨L, B', D', by omega, ⟨fun k k1 k2 => ?_, j4, fun b hb => j5 b (by rw [cn]; exact hb)⟩, fun Q => ?_⟩
  · obtain ⟨a1, a2, a3⟩ := j3 k k1 k2
    exact ⟨a1, by rw [a2]; exact cn _, a3⟩
  · have e0 : hst (hst h 50 29 0) 50 32 0 = vN h (up (up (h 50) 29 0) 32 0) (h 63) (h 64) := by
      have q : h = vN h (h 50) (h 63) (h 64) := vN_id.symm
      conv => lhs; arg 1; arg 1; rw [q]
      rw [vN_s50, vN_s50]
    rw [u_X10_setNear hE, e0, e_m_leftOf hc, e_m_topOf hc, e_m_side]
    refine (e1 Q).trans ?_
    show Ws E (d + 2) mX10_setNear Q 29 [(2, 50), (0, c), (0, gx c), (0, gy c), (0, gw c), (0, (w : Int))] [] (vN h (up (up (h 50) 29 L) 32 r) B' D') = _
    rw [b_X10_setNear_29 hE, if_neg (by omega), cr]
end NEARM
theorem nb_c {O O' : Int → Int} (e : ∀ s : Int, 0 ≤ s → s < 256 → O' s = O s) (c b : Int) : nb O' c b = nb O c b := cnt_c _ (fun j hj => by
  constructor
  · rintro ⟨q1, q2⟩
    refine ⟨q1, ?_⟩
    rw [← e _ (by unfold onW at q1; omega) (by unfold onW at q1; omega)]
    exact q2
  · rintro ⟨q1, q2⟩
    refine ⟨q1, ?_⟩
    rw [e _ (by unfold onW at q1; omega) (by unfold onW at q1; omega)]
    exact q2)
theorem near_c {O O' : Int → Int} {c lo hi : Int} {B D : Int → Int} (e : ∀ s : Int, 0 ≤ s → s < 256 → O' s = O s) (h : NearOK O' c lo hi B D) : NearOK O c lo hi B D := by
  obtain ⟨h1, h2, h3⟩ := h
  refine ⟨fun k k1 k2 => ?_, h2, fun b hb => h3 b (by rw [nb_c e]; exact hb)⟩
  obtain ⟨a1, a2, a3⟩ := h1 k k1 k2
  exact ⟨a1, by rw [a2, nb_c e], a3⟩
