/-! tick: both part what is above, each in its own order -/
abbrev cand (K A : Int → Int) (p j : Int) : Prop := (K j = 0 ∨ K j = 1) ∧ p < A j
def sD (K A : Int → Int) (p lo hi : Int) : Int → Int := fun j => if (lo ≤ j ∧ j < hi) ∧ cand K A p j then 1 else 0
theorem up_twice (f : Int → Int) (i v w : Int) : up (up f i v) i w = up f i w := by
  funext j
  unfold up
  by_cases z : j = i
  · rw [if_pos z, if_pos z]
  · rw [if_neg z, if_neg z, if_neg z]
section PAB
variable {K A : Int → Int} {p lo hi : Int}
theorem sD_1 {j : Int} : sD K A p lo hi j = 1 ↔ (lo ≤ j ∧ j < hi) ∧ cand K A p j := by
  unfold sD
  by_cases z : (lo ≤ j ∧ j < hi) ∧ cand K A p j
  · rw [if_pos z]
    exact ⟨fun _ => z, fun _ => rfl⟩
  · rw [if_neg z]
    exact ⟨fun q => absurd q (by decide), fun q => absurd q z⟩
theorem sD_e {lo' hi' : Int} (h : ∀ j : Int, (lo ≤ j ∧ j < hi) ∧ cand K A p j ↔ (lo' ≤ j ∧ j < hi') ∧ cand K A p j) : sD K A p lo hi = sD K A p lo' hi' := by
  funext j
  unfold sD
  by_cases z : (lo ≤ j ∧ j < hi) ∧ cand K A p j
  · rw [if_pos z, if_pos ((h j).mp z)]
  · rw [if_neg z, if_neg (fun q => z ((h j).mpr q))]
theorem sD_up {c lo' hi' : Int} (hc : cand K A p c) (h : ∀ j : Int, (lo' ≤ j ∧ j < hi') ↔ (lo ≤ j ∧ j < hi) ∨ j = c) : up (sD K A p lo hi) c 1 = sD K A p lo' hi' := by
  funext j
  by_cases z : j = c
  · subst z
    rw [up_s]
    exact (sD_1.mpr ⟨(h j).mpr (Or.inr rfl), hc⟩).symm
  · rw [up_n _ _ z]
    unfold sD
    by_cases z2 : (lo ≤ j ∧ j < hi) ∧ cand K A p j
    · rw [if_pos z2, if_pos ⟨(h j).mpr (Or.inl z2.1), z2.2⟩]
    · rw [if_neg z2, if_neg (fun q => by
        rcases (h j).mp q.1 with u | u
        · exact z2 ⟨u, q.2⟩
        · exact z u)]
theorem sD_kid {O : Int → Int} {c : Int} (P : Prt K O) (hc : 0 ≤ c ∧ c < 80) (hk : K c ≠ -1) : ∀ j : Int, par j = c → sD K A p lo hi j ≠ 1 := by
  intro j hj q
  have := kid_gone P hc hk (par_kid.mpr hj)
  have := (sD_1.mp q).2.1
  omega
theorem sD_par {O : Int → Int} {c : Int} (P : Prt K O) (h0 : 0 ≤ lo ∧ hi ≤ 80) (hk : K c ≠ -1) : sD K A p lo hi (par c) ≠ 1 := by
  intro q
  have q1 := sD_1.mp q
  have := kid_gone P (c := par c) (j := c) (by omega) (by have := q1.2.1; omega) (par_kid.mpr rfl)
  exact hk this
theorem e_partAbove {E : PvEnv} (hE : ∀ k, E 11 k = refT 11 k) {d : Nat} {Q : Int → Hp → Prop} {h : Hp} {R G O : Int → Int} (P : Prt K O) (hA : ∀ c : Int, 0 ≤ c → c < 336 → 0 ≤ A c ∧ A c ≤ 1000000) (hg : GeoOK h) (hp : 0 < p) : wpS E (d + 4) mX8_partAbove [(2, 11), (0, p)] (wv h R K A G O) Q = Q (cnt (fun i => cand K A p i) 80) (wv h (up R 9 (if cnt (fun i => cand K A p i) 80 = 0 then R 9 else 1)) (dK (sD K A p 0 80) K) (dA (sD K A p 0 80) A) (dG (sD K A p 0 80) G) (dO (sD K A p 0 80) O)) := by
  have er := cnt_rev (p := fun i => cand K A p i) 80 (by omega)
  have er' : cnt (fun i => cand K A p (79 - i)) 80 = cnt (fun i => cand K A p i) 80 := by
    have : cnt (fun i => cand K A p i) (80 - 80) = 0 := rfl
    omega
  rw [u_X8_partAbove hE, ← er']
  have z0 : ∀ j, sD K A p 80 80 j ≠ 1 := fun j q => by
    have := (sD_1.mp q).1
    omega
  have st : wv h R K A G O = wv h (up R 9 (if cnt (fun i => cand K A p (79 - i)) 0 = 0 then R 9 else 1)) (dK (sD K A p (80 - ((0 : Nat) : Int)) 80) K) (dA (sD K A p (80 - ((0 : Nat) : Int)) 80) A) (dG (sD K A p (80 - ((0 : Nat) : Int)) 80) G) (dO (sD K A p (80 - ((0 : Nat) : Int)) 80) O) := by
    have e : (80 : Int) - ((0 : Nat) : Int) = 80 := by omega
    rw [e, (d_0 z0 K).1, (d_0 z0 A).2.2.2.1, (d_0 z0 G).2.2.2.2.1, (d_0 z0 O).2.2.2.2.2.2, if_pos (show cnt (fun i => cand K A p (79 - i)) 0 = 0 from rfl), up_self]
  rw [st]
  refine (loop_n (P := fun k => Ws E (d + 3) mX8_partAbove Q 5 [(2, 11), (0, p), (0, cnt (fun i => cand K A p (79 - i)) k), (0, 79 - (k : Int))] [] (wv h (up R 9 (if cnt (fun i => cand K A p (79 - i)) k = 0 then R 9 else 1)) (dK (sD K A p (80 - (k : Int)) 80) K) (dA (sD K A p (80 - (k : Int)) 80) A) (dG (sD K A p (80 - (k : Int)) 80) G) (dO (sD K A p (80 - (k : Int)) 80) O))) 80 (fun k hk => ?_)).trans ?_
  · have hb := cnt_b (fun i => cand K A p (79 - i)) k
    have n1 : sD K A p (80 - (k : Int)) 80 (79 - (k : Int)) ≠ 1 := fun q => by
      have := (sD_1.mp q).1
      omega
    have n2 : sD K A p (80 - (k : Int)) 80 (par (79 - (k : Int))) ≠ 1 := fun q => by
      have := (sD_1.mp q).1
      unfold par at this
      omega
    have eK : dK (sD K A p (80 - (k : Int)) 80) K (79 - (k : Int)) = K (79 - (k : Int)) := by
      unfold dK
      rw [if_neg n1, if_neg n2]
    have eA : dA (sD K A p (80 - (k : Int)) 80) A (79 - (k : Int)) = A (79 - (k : Int)) := if_neg n2
    have hc : 0 ≤ 79 - (k : Int) ∧ 79 - (k : Int) < 80 := by omega
    show Ws E (d + 3) mX8_partAbove Q 5 _ _ _ = Ws E (d + 3) mX8_partAbove Q 5 _ _ _
    rw [b_X8_partAbove_5 hE, if_neg (by omega), if_pos hp, e_canPart hE, b2_if, wv_r12, eK, w32_of (x := 79 - (k : Int) + (-1)) (by omega) (by omega), show 79 - (k : Int) + (-1) = 79 - ((k + 1 : Nat) : Int) by omega]
    by_cases z1 : K (79 - (k : Int)) = 0 ∨ K (79 - (k : Int)) = 1
    · rw [if_pos ⟨hc, z1⟩, and_tl (by omega), wv_r13, eA]
      by_cases z2 : p < A (79 - (k : Int))
      · have hcd : cand K A p (79 - (k : Int)) := ⟨z1, z2⟩
        have kd := sD_kid (A := A) (p := p) (lo := 80 - (k : Int)) (hi := 80) P hc (by omega)
        rw [if_pos z2, e_cutInFour hE hc (by rw [eK]; exact z1) (by rw [eA]; exact hA _ (by omega) (by omega)) hg, w32_of (x := cnt (fun i => cand K A p (79 - i)) k + 1) (by omega) (by omega), cnt_t (p := fun i => cand K A p (79 - i)) hcd, dK_step hc.1 kd, dA_step n2, dG_step n2, dO_step hc (fun s hs => P.2 _ s ⟨hc.1, by omega⟩ (by omega) hs), sD_up (lo' := 80 - ((k + 1 : Nat) : Int)) (hi' := 80) hcd (fun j => by omega), if_neg (show ¬ cnt (fun i => cand K A p (79 - i)) k + 1 = 0 by omega)]
        rw [up_twice]
      · rw [if_neg z2, cnt_f (p := fun i => cand K A p (79 - i)) (fun q => z2 q.2), sD_e (lo' := 80 - ((k + 1 : Nat) : Int)) (hi' := 80) (fun j => ⟨fun q => ⟨by omega, q.2⟩, fun q => ⟨by
          have : j ≠ 79 - (k : Int) := fun u => z2 (u ▸ q.2.2)
          omega, q.2⟩⟩)]
    · rw [if_neg (fun q => z1 q.2), cnt_f (p := fun i => cand K A p (79 - i)) (fun q => z1 q.1), sD_e (lo' := 80 - ((k + 1 : Nat) : Int)) (hi' := 80) (fun j => ⟨fun q => ⟨by omega, q.2⟩, fun q => ⟨by
          have : j ≠ 79 - (k : Int) := fun u => z1 (u ▸ q.2.1)
          omega, q.2⟩⟩)]
  · show Ws E (d + 3) mX8_partAbove Q 5 _ _ _ = _
    rw [b_X8_partAbove_5 hE, if_pos (by omega)]
    rfl
theorem e_partAbove_no {E : PvEnv} (hE : ∀ k, E 11 k = refT 11 k) {d : Nat} {Q : Int → Hp → Prop} {h : Hp} (hp : ¬ 0 < p) : wpS E (d + 1) mX8_partAbove [(2, 11), (0, p)] h Q = Q 0 h := by
  rw [u_X8_partAbove hE, b_X8_partAbove_5 hE, if_neg (by decide), if_neg hp]
end PAB
