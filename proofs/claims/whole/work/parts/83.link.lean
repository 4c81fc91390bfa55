/-! the links of the class -/
/-- the rows 11, 20, 21, 22, 23, 24, 25 replaced -/
def vL (h : Hp) (r11 r20 r21 r22 r23 r24 r25 : Int → Int) : Hp := fun a => if a = 11 then r11 else if a = 20 then r20 else if a = 21 then r21 else if a = 22 then r22 else if a = 23 then r23 else if a = 24 then r24 else if a = 25 then r25 else h a
section VvL
variable {h : Hp} {r11 r20 r21 r22 r23 r24 r25 : Int → Int}
theorem vL_id : vL h (h 11) (h 20) (h 21) (h 22) (h 23) (h 24) (h 25) = h := by
  funext a
  unfold vL
  repeat' split
  all_goals first | rfl | (subst_vars; rfl)
theorem vL_r11 : vL h r11 r20 r21 r22 r23 r24 r25 11 = r11 := rfl
theorem vL_r20 : vL h r11 r20 r21 r22 r23 r24 r25 20 = r20 := rfl
theorem vL_r21 : vL h r11 r20 r21 r22 r23 r24 r25 21 = r21 := rfl
theorem vL_r22 : vL h r11 r20 r21 r22 r23 r24 r25 22 = r22 := rfl
theorem vL_r23 : vL h r11 r20 r21 r22 r23 r24 r25 23 = r23 := rfl
theorem vL_r24 : vL h r11 r20 r21 r22 r23 r24 r25 24 = r24 := rfl
theorem vL_r25 : vL h r11 r20 r21 r22 r23 r24 r25 25 = r25 := rfl
theorem vL_off {a : Int} (h11 : a ≠ 11) (h20 : a ≠ 20) (h21 : a ≠ 21) (h22 : a ≠ 22) (h23 : a ≠ 23) (h24 : a ≠ 24) (h25 : a ≠ 25) : vL h r11 r20 r21 r22 r23 r24 r25 a = h a := by
  unfold vL
  rw [if_neg h11, if_neg h20, if_neg h21, if_neg h22, if_neg h23, if_neg h24, if_neg h25]
theorem vL_w11 (f : Int → Int) : hrow (vL h r11 r20 r21 r22 r23 r24 r25) 11 f = vL h f r20 r21 r22 r23 r24 r25 := by
  funext a
  unfold hrow vL
  by_cases z : a = 11
  · subst z; rfl
  · simp only [if_neg z]
theorem vL_s11 (i v : Int) : hst (vL h r11 r20 r21 r22 r23 r24 r25) 11 i v = vL h (up r11 i v) r20 r21 r22 r23 r24 r25 := by
  rw [hst_row, vL_w11]
  rfl
theorem vL_w20 (f : Int → Int) : hrow (vL h r11 r20 r21 r22 r23 r24 r25) 20 f = vL h r11 f r21 r22 r23 r24 r25 := by
  funext a
  unfold hrow vL
  by_cases z : a = 20
  · subst z; rfl
  · simp only [if_neg z]
theorem vL_s20 (i v : Int) : hst (vL h r11 r20 r21 r22 r23 r24 r25) 20 i v = vL h r11 (up r20 i v) r21 r22 r23 r24 r25 := by
  rw [hst_row, vL_w20]
  rfl
theorem vL_w21 (f : Int → Int) : hrow (vL h r11 r20 r21 r22 r23 r24 r25) 21 f = vL h r11 r20 f r22 r23 r24 r25 := by
  funext a
  unfold hrow vL
  by_cases z : a = 21
  · subst z; rfl
  · simp only [if_neg z]
theorem vL_s21 (i v : Int) : hst (vL h r11 r20 r21 r22 r23 r24 r25) 21 i v = vL h r11 r20 (up r21 i v) r22 r23 r24 r25 := by
  rw [hst_row, vL_w21]
  rfl
theorem vL_w22 (f : Int → Int) : hrow (vL h r11 r20 r21 r22 r23 r24 r25) 22 f = vL h r11 r20 r21 f r23 r24 r25 := by
  funext a
  unfold hrow vL
  by_cases z : a = 22
  · subst z; rfl
  · simp only [if_neg z]
theorem vL_s22 (i v : Int) : hst (vL h r11 r20 r21 r22 r23 r24 r25) 22 i v = vL h r11 r20 r21 (up r22 i v) r23 r24 r25 := by
  rw [hst_row, vL_w22]
  rfl
theorem vL_w23 (f : Int → Int) : hrow (vL h r11 r20 r21 r22 r23 r24 r25) 23 f = vL h r11 r20 r21 r22 f r24 r25 := by
  funext a
  unfold hrow vL
  by_cases z : a = 23
  · subst z; rfl
  · simp only [if_neg z]
theorem vL_s23 (i v : Int) : hst (vL h r11 r20 r21 r22 r23 r24 r25) 23 i v = vL h r11 r20 r21 r22 (up r23 i v) r24 r25 := by
  rw [hst_row, vL_w23]
  rfl
theorem vL_w24 (f : Int → Int) : hrow (vL h r11 r20 r21 r22 r23 r24 r25) 24 f = vL h r11 r20 r21 r22 r23 f r25 := by
  funext a
  unfold hrow vL
  by_cases z : a = 24
  · subst z; rfl
  · simp only [if_neg z]
theorem vL_s24 (i v : Int) : hst (vL h r11 r20 r21 r22 r23 r24 r25) 24 i v = vL h r11 r20 r21 r22 r23 (up r24 i v) r25 := by
  rw [hst_row, vL_w24]
  rfl
theorem vL_w25 (f : Int → Int) : hrow (vL h r11 r20 r21 r22 r23 r24 r25) 25 f = vL h r11 r20 r21 r22 r23 r24 f := by
  funext a
  unfold hrow vL
  by_cases z : a = 25
  · subst z; rfl
  · simp only [if_neg z]
theorem vL_s25 (i v : Int) : hst (vL h r11 r20 r21 r22 r23 r24 r25) 25 i v = vL h r11 r20 r21 r22 r23 r24 (up r25 i v) := by
  rw [hst_row, vL_w25]
  rfl
end VvL
theorem cnt_mono {p : Int → Prop} [DecidablePred p] : ∀ {a b : Nat}, a ≤ b → cnt p a ≤ cnt p b := by
  intro a b h
  obtain ⟨r, rfl⟩ : ∃ r, b = a + r := ⟨b - a, by omega⟩
  rw [cnt_app]
  have := cnt_b (fun i => p ((a : Int) + i)) r
  omega
/-- the squares around c, i of them looked at -/
def InC (O : Int → Int) (c F0 : Int) (B0 D0 : Int → Int) (i : Nat) (L : Int) (B D : Int → Int) (r : Int) : Prop :=
  (F0 ≤ L ∧ L ≤ F0 + cnt (aW c) i) ∧ r = cnt (fun j => ¬ aW c j) i ∧ (∀ k : Int, k < F0 → B k = B0 k ∧ D k = D0 k) ∧ (∀ k : Int, F0 ≤ k → k < L → isN (B k) ∧ D k = cnt (fun j => aW c j ∧ aO O c j = B k) i ∧ 1 ≤ D k) ∧ (∀ k k' : Int, F0 ≤ k → k < L → F0 ≤ k' → k' < L → B k = B k' → k = k') ∧ (∀ b : Int, 1 ≤ cnt (fun j => aW c j ∧ aO O c j = b) i → ∃ k : Int, F0 ≤ k ∧ k < L ∧ B k = b) ∧ ∀ j : Nat, i = j + 1 → aW c j → F0 < L ∧ B (L - 1) = aO O c j
theorem InC_0 {O : Int → Int} {c F0 : Int} {B0 D0 : Int → Int} : InC O c F0 B0 D0 0 F0 B0 D0 0 := by
  refine ⟨⟨Int.le_refl _, ?_⟩, rfl, fun k _ => ⟨rfl, rfl⟩, fun k h1 h2 => by omega, fun k k' h1 h2 => by omega, fun b hb => ?_, fun j hj => by omega⟩
  · show F0 ≤ F0 + 0
    omega
  · have hb : (1 : Int) ≤ 0 := hb
    omega
theorem InC_off {O : Int → Int} {c F0 : Int} {B0 D0 B D : Int → Int} {i : Nat} {L r : Int} (h : InC O c F0 B0 D0 i L B D r) (hw : ¬ aW c i) : InC O c F0 B0 D0 (i + 1) L B D (r + 1) := by
  obtain ⟨h1, h2, h3, h4, h5, h6, h7⟩ := h
  refine ⟨?_, ?_, h3, fun k k1 k2 => ?_, h5, fun b hb => ?_, fun j hj hw' => ?_⟩
  · rw [cnt_f hw]; exact h1
  · rw [cnt_t hw, h2]
  · rw [cnt_f (fun q => hw q.1)]; exact h4 k k1 k2
  · rw [cnt_f (fun q => hw q.1)] at hb; exact h6 b hb
  · have : j = i := by omega
    subst this
    exact absurd hw' hw
theorem InC_same {O : Int → Int} {c F0 : Int} {B0 D0 B D : Int → Int} {i : Nat} {L r : Int} (h : InC O c F0 B0 D0 i L B D r) (hw : aW c i) (hL : F0 < L) (hB : B (L - 1) = aO O c i) : InC O c F0 B0 D0 (i + 1) L B (up D (L - 1) (D (L - 1) + 1)) r := by
  obtain ⟨h1, h2, h3, h4, h5, h6, h7⟩ := h
  refine ⟨?_, ?_, fun k k1 => ?_, fun k k1 k2 => ?_, h5, fun b hb => ?_, fun j hj hw' => ?_⟩
  · rw [cnt_t hw]; omega
  · rw [cnt_f (fun q => q hw)]; exact h2
  · rw [up_n _ _ (by omega)]; exact h3 k k1
  · obtain ⟨a1, a2, a3⟩ := h4 k k1 k2
    by_cases z : k = L - 1
    · subst z
      rw [up_s, cnt_t ⟨hw, hB.symm⟩]
      exact ⟨a1, by omega, by omega⟩
    · rw [up_n _ _ z, cnt_f (fun q => z (h5 k (L - 1) k1 k2 (by omega) (by omega) (by rw [hB, q.2])))]
      exact ⟨a1, a2, a3⟩
  · by_cases z : aO O c i = b
    · exact ⟨L - 1, by omega, by omega, by rw [hB, z]⟩
    · rw [cnt_f (fun q => z q.2)] at hb
      exact h6 b hb
  · have : j = i := by omega
    subst this
    exact ⟨hL, hB⟩
theorem InC_new {K O : Int → Int} {c F0 : Int} {B0 D0 B D : Int → Int} {i : Nat} {L r : Int} (P : Prt K O) (hc : isN c) (kc : K c ≠ -1) (hi : (i : Int) < 4 * gw c) (h : InC O c F0 B0 D0 i L B D r) (hw : aW c i) (hn : ¬ (F0 < L ∧ B (L - 1) = aO O c i)) : InC O c F0 B0 D0 (i + 1) (L + 1) (up B L (aO O c i)) (up D L 1) r := by
  obtain ⟨h1, h2, h3, h4, h5, h6, h7⟩ := h
  have no : ∀ j : Nat, j < i → ¬ (aW c j ∧ aO O c j = aO O c i) := by
    intro j hj q
    obtain ⟨i', rfl⟩ : ∃ i', i = i' + 1 := ⟨i - 1, by omega⟩
    have q2 := contig P hc kc (show (0 : Int) ≤ j by omega) (show (j : Int) < ((i' + 1 : Nat) : Int) by omega) hi q.1 hw q.2
    rw [show ((i' + 1 : Nat) : Int) - 1 = (i' : Int) by omega] at q2
    have q3 := h7 i' rfl q2.1
    exact hn ⟨q3.1, q3.2.trans q2.2⟩
  have z0 : cnt (fun j => aW c j ∧ aO O c j = aO O c i) i = 0 := cnt_none no
  have nB : ∀ k : Int, F0 ≤ k → k < L → B k ≠ aO O c i := by
    intro k k1 k2 e
    obtain ⟨a1, a2, a3⟩ := h4 k k1 k2
    rw [e, z0] at a2
    omega
  refine ⟨?_, ?_, fun k k1 => ?_, fun k k1 k2 => ?_, fun k k' k1 k2 k3 k4 e => ?_, fun b hb => ?_, fun j hj hw' => ?_⟩
  · rw [cnt_t hw]; omega
  · rw [cnt_f (fun q => q hw)]; exact h2
  · rw [up_n _ _ (by omega), up_n _ _ (by omega)]; exact h3 k k1
  · by_cases z : k = L
    · subst z
      rw [up_s, up_s, cnt_t ⟨hw, rfl⟩, z0]
      exact ⟨(aO_box P hw).1, rfl, Int.le_refl _⟩
    · rw [up_n _ _ z, up_n _ _ z, cnt_f (fun q => nB k k1 (by omega) q.2.symm)]
      exact h4 k k1 (by omega)
  · by_cases z : k = L
    · by_cases z' : k' = L
      · omega
      · rw [z, up_s, up_n _ _ z'] at e
        exact absurd e.symm (nB k' k3 (by omega))
    · rw [up_n _ _ z] at e
      by_cases z' : k' = L
      · rw [z', up_s] at e
        exact absurd e (nB k k1 (by omega))
      · rw [up_n _ _ z'] at e
        exact h5 k k' k1 (by omega) k3 (by omega) e
  · by_cases z : aO O c i = b
    · exact ⟨L, h1.1, by omega, by rw [up_s]; exact z⟩
    · rw [cnt_f (fun q => z q.2)] at hb
      obtain ⟨k, k1, k2, k3⟩ := h6 b hb
      exact ⟨k, k1, by omega, by rw [up_n _ _ (by omega)]; exact k3⟩
  · have : j = i := by omega
    subst this
    rw [show L + 1 - 1 = L by omega, up_s]
    exact ⟨by omega, rfl⟩
theorem InC_near {O : Int → Int} {c F0 : Int} {B0 D0 B D : Int → Int} {L r : Int} (h : InC O c F0 B0 D0 (4 * gw c).toNat L B D r) : r = rm c ∧ NearOK O c F0 L B D := by
  obtain ⟨h1, h2, h3, h4, h5, h6, h7⟩ := h
  exact ⟨h2, fun k k1 k2 => h4 k k1 k2, h5, h6⟩
section LINK
variable {n : Int} {d : Nat} {h : Hp} {r11 r20 F B D R V : Int → Int}
theorem e_link {K : Int → Int} {c F0 L r : Int} {B0 D0 : Int → Int} {i : Nat} (P : Prt K (h 19)) (hc : isN c) (kc : K c ≠ -1) (hi : (i : Int) < 4 * gw c) (hF : F c = F0) (h0 : 0 ≤ F0) (hb : F0 + onw c ≤ 960) (H : InC (h 19) c F0 B0 D0 i L B D r) : ∃ (L' : Int) (B' D' : Int → Int) (r' : Int), InC (h 19) c F0 B0 D0 (i + 1) L' B' D' r' ∧ ∀ Q, wpS (EF n) (d + 3) mX5_link [(2, 20), (2, 11), (0, c), (0, px c i), (0, py c i)] (vL h r11 (up r20 5 L) F B D (up R c r) V) Q = Q 0 (vL h r11 (up r20 5 L') F B' D' (up R c r') V) := by
  have hc' : 0 ≤ c ∧ c < 336 := hc
  have cb := cnt_b (fun j => ¬ aW c j) i
  have gb := gw_b c
  have own : ∀ Q, wpS (EF n) (d + 3) mX5_link [(2, 20), (2, 11), (0, c), (0, px c i), (0, py c i)] (vL h r11 (up r20 5 L) F B D (up R c r) V) Q = (if (if aW c i then aO (h 19) c i else -1) = -1 then Q 0 (hst (vL h r11 (up r20 5 L) F B D (up R c r) V) 24 c (w32 (up R c r c + 1))) else (if F c < L then ((0 ≤ w32 (L - 1) ∧ w32 (L - 1) < 960) ∧ (if B (w32 (L - 1)) = (if aW c i then aO (h 19) c i else -1) then ((0 ≤ w32 (L - 1) ∧ w32 (L - 1) < 960) ∧ ((0 ≤ w32 (L - 1) ∧ w32 (L - 1) < 960) ∧ Q 0 (hst (vL h r11 (up r20 5 L) F B D (up R c r) V) 23 (w32 (L - 1)) (w32 (D (w32 (L - 1)) + 1))))) else Ws (EF n) (d + 2) mX5_link Q 75 [(2, 20), (2, 11), (0, c), (0, px c i), (0, py c i), (0, if aW c i then aO (h 19) c i else -1)] [] (vL h r11 (up r20 5 L) F B D (up R c r) V))) else Ws (EF n) (d + 2) mX5_link Q 75 [(2, 20), (2, 11), (0, c), (0, px c i), (0, py c i), (0, if aW c i then aO (h 19) c i else -1)] [] (vL h r11 (up r20 5 L) F B D (up R c r) V))) := by
    intro Q
    have hc2 : 0 ≤ c ∧ c < 337 := by omega
    rw [u_X5_link, e_ownerAt (EF_11 n), and_tl hc', and_tl hc', and_tl hc2]
    rfl
  by_cases hw : aW c i
  · have hO := (aO_box P hw).1
    have hO' : 0 ≤ aO (h 19) c i ∧ aO (h 19) c i < 336 := hO
    have Lb : L < 960 := by
      have := H.1.2
      have m := cnt_mono (p := aW c) (show i + 1 ≤ (4 * gw c).toNat by omega)
      rw [cnt_t hw] at m
      unfold onw at hb
      omega
    have L0 := H.1.1
    by_cases z : F0 < L ∧ B (L - 1) = aO (h 19) c i
    · have H' := InC_same H hw z.1 z.2
      have Dk := H.2.2.2.1 (L - 1) (by omega) (by omega)
      have Db := cnt_b (fun j => aW c j ∧ aO (h 19) c j = B (L - 1)) i
      refine ⟨L, B, up D (L - 1) (D (L - 1) + 1), r, H', fun Q => ?_⟩
      rw [own, if_pos hw, if_neg (by omega), hF, if_pos z.1, w32_of (x := L - 1) (by omega) (by omega), and_tl (by omega), if_pos z.2, and_tl (by omega), and_tl (by omega), vL_s23, w32_of (x := D (L - 1) + 1) (by omega) (by omega)]
    · have H' := InC_new P hc kc hi H hw z
      refine ⟨L + 1, up B L (aO (h 19) c i), up D L 1, r, H', fun Q => ?_⟩
      have r75 : Ws (EF n) (d + 2) mX5_link Q 75 [(2, 20), (2, 11), (0, c), (0, px c i), (0, py c i), (0, aO (h 19) c i)] [] (vL h r11 (up r20 5 L) F B D (up R c r) V) = Q 0 (vL h r11 (up r20 5 (L + 1)) F (up B L (aO (h 19) c i)) (up D L 1) (up R c r) V) := by
        rw [b_X5_link_75, vL_r20, up_s, if_pos Lb, and_tl (by omega), vL_s22, vL_r20, up_s, and_tl (by omega), vL_s23, vL_r20, up_s, vL_s20, up_up, w32_of (x := L + 1) (by omega) (by omega)]
      rw [own, if_pos hw, if_neg (by omega), hF, r75]
      by_cases z1 : F0 < L
      · rw [if_pos z1, w32_of (x := L - 1) (by omega) (by omega), and_tl (by omega), if_neg (fun q => z ⟨z1, q⟩)]
      · rw [if_neg z1]
  · have H' := InC_off H hw
    refine ⟨L, B, D, r + 1, H', fun Q => ?_⟩
    have e := H.2.1
    rw [own, if_neg hw, if_pos rfl, up_s, vL_s24, up_up, w32_of (x := r + 1) (by omega) (by omega)]
theorem e_linkAll {K : Int → Int} {c F0 : Int} {B0 D0 : Int → Int} (hg : GeoOK h) (P : Prt K (h 19)) (hc : isN c) (kc : K c ≠ -1) (hF : F c = F0) (h0 : 0 ≤ F0) (hb : F0 + onw c ≤ 960) : ∃ (L' : Int) (B' D' : Int → Int), ((F0 ≤ L' ∧ L' ≤ F0 + onw c) ∧ (∀ k : Int, k < F0 → B' k = B0 k ∧ D' k = D0 k) ∧ NearOK (h 19) c F0 L' B' D') ∧ ∀ Q, wpS (EF n) (d + 4) mX5_linkAll [(2, 20), (2, 11), (0, c)] (vL h r11 (up r20 5 F0) F B0 D0 (up R c 0) V) Q = Q 0 (vL h r11 (up r20 5 L') F B' D' (up R c (rm c)) V) := by
  have hc' : 0 ≤ c ∧ c < 336 := hc
  have bx := gx_b hc
  have bY := gy_b hc
  have bw := gw_b c
  obtain ⟨W, hW⟩ : ∃ W : Nat, gw c = (W : Int) := ⟨(gw c).toNat, by omega⟩
  obtain ⟨g1, g2, g3⟩ := hg c hc'.1 hc'.2
  have l26 : ∀ (L : Int) (B D : Int → Int) (r : Int), InC (h 19) c F0 B0 D0 ((0) * W) L B D r → ∃ (L' : Int) (B' D' : Int → Int) (r' : Int), InC (h 19) c F0 B0 D0 ((0) * W + W) L' B' D' r' ∧ ∀ Q, Ws (EF n) (d + 3) mX5_linkAll Q 26 [(2, 20), (2, 11), (0, c), (0, gx c), (0, gy c), (0, gw c), (0, 0)] [] (vL h r11 (up r20 5 L) F B D (up R c r) V) = Ws (EF n) (d + 3) mX5_linkAll Q 26 [(2, 20), (2, 11), (0, c), (0, gx c), (0, gy c), (0, gw c), (0, (W : Int))] [] (vL h r11 (up r20 5 L') F B' D' (up R c r') V) := by
    intro L B D r H
    obtain ⟨s, i1, e1⟩ := loop_e (σ := Int × (Int → Int) × (Int → Int) × Int) (Inv := fun k s => InC (h 19) c F0 B0 D0 ((0) * W + k) s.1 s.2.1 s.2.2.1 s.2.2.2) (X := fun Q k s => Ws (EF n) (d + 3) mX5_linkAll Q 26 [(2, 20), (2, 11), (0, c), (0, gx c), (0, gy c), (0, gw c), (0, (k : Int))] [] (vL h r11 (up r20 5 s.1) F s.2.1 s.2.2.1 (up R c s.2.2.2) V)) W (L, B, D, r) H (by
      intro k s hk I
      obtain ⟨L', B', D', r', I', e⟩ := e_link (n := n) (d := d) (r11 := r11) (r20 := r20) (R := R) (V := V) (i := (0) * W + k) P hc kc (by omega) hF h0 hb I
      refine ⟨(L', B', D', r'), I', fun Q => ?_⟩
      have ps := p_side (c := c) (i := (((0) * W + k : Nat) : Int)) (by omega) (by omega)
      have epx : px c (((0) * W + k : Nat) : Int) = gx c - 1 := by omega
      have epy : py c (((0) * W + k : Nat) : Int) = gy c + (k : Int) := by omega
      rw [epx, epy] at e
      rw [b_X5_linkAll_26, if_pos (by omega), w32_of (x := gx c - 1) (by omega) (by omega), w32_of (x := gy c + (k : Int)) (by omega) (by omega), e, w32_n1 (by omega)])
    exact ⟨s.1, s.2.1, s.2.2.1, s.2.2.2, i1, e1⟩
  have l56 : ∀ (L : Int) (B D : Int → Int) (r : Int), InC (h 19) c F0 B0 D0 ((1) * W) L B D r → ∃ (L' : Int) (B' D' : Int → Int) (r' : Int), InC (h 19) c F0 B0 D0 ((1) * W + W) L' B' D' r' ∧ ∀ Q, Ws (EF n) (d + 3) mX5_linkAll Q 56 [(2, 20), (2, 11), (0, c), (0, gx c), (0, gy c), (0, gw c), (0, 0)] [] (vL h r11 (up r20 5 L) F B D (up R c r) V) = Ws (EF n) (d + 3) mX5_linkAll Q 56 [(2, 20), (2, 11), (0, c), (0, gx c), (0, gy c), (0, gw c), (0, (W : Int))] [] (vL h r11 (up r20 5 L') F B' D' (up R c r') V) := by
    intro L B D r H
    obtain ⟨s, i1, e1⟩ := loop_e (σ := Int × (Int → Int) × (Int → Int) × Int) (Inv := fun k s => InC (h 19) c F0 B0 D0 ((1) * W + k) s.1 s.2.1 s.2.2.1 s.2.2.2) (X := fun Q k s => Ws (EF n) (d + 3) mX5_linkAll Q 56 [(2, 20), (2, 11), (0, c), (0, gx c), (0, gy c), (0, gw c), (0, (k : Int))] [] (vL h r11 (up r20 5 s.1) F s.2.1 s.2.2.1 (up R c s.2.2.2) V)) W (L, B, D, r) H (by
      intro k s hk I
      obtain ⟨L', B', D', r', I', e⟩ := e_link (n := n) (d := d) (r11 := r11) (r20 := r20) (R := R) (V := V) (i := (1) * W + k) P hc kc (by omega) hF h0 hb I
      refine ⟨(L', B', D', r'), I', fun Q => ?_⟩
      have ps := p_side (c := c) (i := (((1) * W + k : Nat) : Int)) (by omega) (by omega)
      have epx : px c (((1) * W + k : Nat) : Int) = gx c + gw c := by omega
      have epy : py c (((1) * W + k : Nat) : Int) = gy c + (k : Int) := by omega
      rw [epx, epy] at e
      rw [b_X5_linkAll_56, if_pos (by omega), w32_of (x := gx c + gw c) (by omega) (by omega), w32_of (x := gy c + (k : Int)) (by omega) (by omega), e, w32_n1 (by omega)])
    exact ⟨s.1, s.2.1, s.2.2.1, s.2.2.2, i1, e1⟩
  have l87 : ∀ (L : Int) (B D : Int → Int) (r : Int), InC (h 19) c F0 B0 D0 ((2) * W) L B D r → ∃ (L' : Int) (B' D' : Int → Int) (r' : Int), InC (h 19) c F0 B0 D0 ((2) * W + W) L' B' D' r' ∧ ∀ Q, Ws (EF n) (d + 3) mX5_linkAll Q 87 [(2, 20), (2, 11), (0, c), (0, gx c), (0, gy c), (0, gw c), (0, 0)] [] (vL h r11 (up r20 5 L) F B D (up R c r) V) = Ws (EF n) (d + 3) mX5_linkAll Q 87 [(2, 20), (2, 11), (0, c), (0, gx c), (0, gy c), (0, gw c), (0, (W : Int))] [] (vL h r11 (up r20 5 L') F B' D' (up R c r') V) := by
    intro L B D r H
    obtain ⟨s, i1, e1⟩ := loop_e (σ := Int × (Int → Int) × (Int → Int) × Int) (Inv := fun k s => InC (h 19) c F0 B0 D0 ((2) * W + k) s.1 s.2.1 s.2.2.1 s.2.2.2) (X := fun Q k s => Ws (EF n) (d + 3) mX5_linkAll Q 87 [(2, 20), (2, 11), (0, c), (0, gx c), (0, gy c), (0, gw c), (0, (k : Int))] [] (vL h r11 (up r20 5 s.1) F s.2.1 s.2.2.1 (up R c s.2.2.2) V)) W (L, B, D, r) H (by
      intro k s hk I
      obtain ⟨L', B', D', r', I', e⟩ := e_link (n := n) (d := d) (r11 := r11) (r20 := r20) (R := R) (V := V) (i := (2) * W + k) P hc kc (by omega) hF h0 hb I
      refine ⟨(L', B', D', r'), I', fun Q => ?_⟩
      have ps := p_side (c := c) (i := (((2) * W + k : Nat) : Int)) (by omega) (by omega)
      have epx : px c (((2) * W + k : Nat) : Int) = gx c + (k : Int) := by omega
      have epy : py c (((2) * W + k : Nat) : Int) = gy c - 1 := by omega
      rw [epx, epy] at e
      rw [b_X5_linkAll_87, if_pos (by omega), w32_of (x := gx c + (k : Int)) (by omega) (by omega), w32_of (x := gy c - 1) (by omega) (by omega), e, w32_n1 (by omega)])
    exact ⟨s.1, s.2.1, s.2.2.1, s.2.2.2, i1, e1⟩
  have l117 : ∀ (L : Int) (B D : Int → Int) (r : Int), InC (h 19) c F0 B0 D0 ((3) * W) L B D r → ∃ (L' : Int) (B' D' : Int → Int) (r' : Int), InC (h 19) c F0 B0 D0 ((3) * W + W) L' B' D' r' ∧ ∀ Q, Ws (EF n) (d + 3) mX5_linkAll Q 117 [(2, 20), (2, 11), (0, c), (0, gx c), (0, gy c), (0, gw c), (0, 0)] [] (vL h r11 (up r20 5 L) F B D (up R c r) V) = Ws (EF n) (d + 3) mX5_linkAll Q 117 [(2, 20), (2, 11), (0, c), (0, gx c), (0, gy c), (0, gw c), (0, (W : Int))] [] (vL h r11 (up r20 5 L') F B' D' (up R c r') V) := by
    intro L B D r H
    obtain ⟨s, i1, e1⟩ := loop_e (σ := Int × (Int → Int) × (Int → Int) × Int) (Inv := fun k s => InC (h 19) c F0 B0 D0 ((3) * W + k) s.1 s.2.1 s.2.2.1 s.2.2.2) (X := fun Q k s => Ws (EF n) (d + 3) mX5_linkAll Q 117 [(2, 20), (2, 11), (0, c), (0, gx c), (0, gy c), (0, gw c), (0, (k : Int))] [] (vL h r11 (up r20 5 s.1) F s.2.1 s.2.2.1 (up R c s.2.2.2) V)) W (L, B, D, r) H (by
      intro k s hk I
      obtain ⟨L', B', D', r', I', e⟩ := e_link (n := n) (d := d) (r11 := r11) (r20 := r20) (R := R) (V := V) (i := (3) * W + k) P hc kc (by omega) hF h0 hb I
      refine ⟨(L', B', D', r'), I', fun Q => ?_⟩
      have ps := p_side (c := c) (i := (((3) * W + k : Nat) : Int)) (by omega) (by omega)
      have epx : px c (((3) * W + k : Nat) : Int) = gx c + (k : Int) := by omega
      have epy : py c (((3) * W + k : Nat) : Int) = gy c + gw c := by omega
      rw [epx, epy] at e
      rw [b_X5_linkAll_117, if_pos (by omega), w32_of (x := gx c + (k : Int)) (by omega) (by omega), w32_of (x := gy c + gw c) (by omega) (by omega), e, w32_n1 (by omega)])
    exact ⟨s.1, s.2.1, s.2.2.1, s.2.2.2, i1, e1⟩
  obtain ⟨L1, B1, D1, r1, I1, e1⟩ := l26 F0 B0 D0 0 (by rw [Nat.zero_mul]; exact InC_0)
  obtain ⟨L2, B2, D2, r2, I2, e2⟩ := l56 L1 B1 D1 r1 (by rw [show 1 * W = 0 * W + W by omega]; exact I1)
  obtain ⟨L3, B3, D3, r3, I3, e3⟩ := l87 L2 B2 D2 r2 (by rw [show 2 * W = 1 * W + W by omega]; exact I2)
  obtain ⟨L4, B4, D4, r4, I4, e4⟩ := l117 L3 B3 D3 r3 (by rw [show 3 * W = 2 * W + W by omega]; exact I3)
  have eW : (4 * gw c).toNat = 3 * W + W := by omega
  have I5 : InC (h 19) c F0 B0 D0 (4 * gw c).toNat L4 B4 D4 r4 := by rw [eW]; exact I4
  obtain ⟨f1, f2⟩ := InC_near I5
  refine ⟨L4, B4, D4, ⟨⟨I5.1.1, I5.1.2⟩, I5.2.2.1, f2⟩, fun Q => ?_⟩
  have q16 : vL h r11 (up r20 5 F0) F B0 D0 (up R c 0) V 16 c = gx c := g1
  have q17 : vL h r11 (up r20 5 F0) F B0 D0 (up R c 0) V 17 c = gy c := g2
  have q18 : vL h r11 (up r20 5 F0) F B0 D0 (up R c 0) V 18 c = gw c := g3
  rw [u_X5_linkAll, and_tl hc', and_tl hc', and_tl hc', q16, q17, q18, e1, b_X5_linkAll_26, if_neg (by omega), e2, b_X5_linkAll_56, if_neg (by omega), e3, b_X5_linkAll_87, if_neg (by omega), e4, b_X5_linkAll_117, if_neg (by omega), f1]
end LINK
