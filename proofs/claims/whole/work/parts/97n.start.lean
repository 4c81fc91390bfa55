/-! the start: what both constructors leave -/
def R9 : Hp := (rj (rj (rj (rj (rj (rj (rj (rj (rj (rj (rj (rj (fun _ _ => 0) 1 ((fun x => (up (up x 0 2) 1 3)) (nwo 7)) (hrow (fun _ _ => 0) 2 (flr (fun _ => 0) 6 (-1)))) 4 ((fun x => (up (up x 0 5) 1 6)) (nwo 7)) (hrow (fun _ _ => 0) 5 (flr (fun _ => 0) 4 (-1)))) 7 ((fun x => (up (up (up (up (up (up x 5 8) 0 0) 1 1) 2 0) 3 (-1)) 4 (-1))) (nwo 4)) (fun _ _ => 0)) 9 ((fun x => (up (up (up (up (up (up x 5 10) 0 0) 1 1) 2 0) 3 (-1)) 4 (-1))) (nwo 4)) (fun _ _ => 0)) 11 ((fun x => (up (up (up (up (up (up (up (up (up x 0 12) 1 13) 2 14) 3 15) 4 16) 5 17) 6 18) 7 19) 9 1)) (nwo 8)) (hrow (hrow (hrow (hrow (hrow (fun _ _ => 0) 12 (lK 336)) 16 (lX 336)) 17 (lY 336)) 18 (lW 336)) 19 (ow (fun _ => 0) 16))) 20 ((fun x => (up (up (up (up (up x 0 21) 1 22) 2 23) 3 24) 4 25)) (nwo 5)) (fun _ _ => 0)) 26 ((fun x => (up (up (up (up x 0 27) 1 28) 2 29) 5 1)) (nwo 1)) (hrow (fun _ _ => 0) 27 (flr (fun _ => 0) 336 (-1)))) 30 ((fun x => (up (up (up (up (up (up x 0 31) 1 32) 2 33) 3 34) 4 35) 5 36)) (nwo 0)) (hrow (fun _ _ => 0) 33 (flr (fun _ => 0) 6 (-9)))) 37 ((fun x => (up (up (up x 0 38) 1 39) 2 40)) (nwo 3)) (fun _ _ => 0)) 41 ((fun x => (up (up (up x 0 42) 1 43) 2 44)) (nwo 3)) (fun _ _ => 0)) 45 ((fun x => (up (up (up x 0 46) 1 47) 2 1)) (nwo 6)) (fun _ _ => 0)) 48 ((fun x => (up x 1 1)) (nwo 2)) (fun _ _ => 0))
def R10 : Hp := (hrow (hrow (hrow (hrow (hrow (hrow (hrow (hrow (hrow (fun _ _ => 0) 52 (flr (fun _ => 0) 6 (-9))) 55 (flr (fun _ => 0) 4 (-9))) 57 (flr (fun _ => 0) 16 1)) 58 (flr (fun _ => 0) 16 0)) 59 (flr (fun _ => 0) 16 0)) 60 (flr (fun _ => 0) 16 0)) 61 (flr (fun _ => 0) 16 (-9))) 62 (ow (fun _ => 0) 16)) 78 (flr (fun _ => 0) 6 (-9)))
def Hf : Hp := fun a => if a = 0 then (up (up (up (up (up (up (up (up (up (up (up (up (up (nwo 9) 0 1) 1 4) 2 7) 3 9) 4 11) 5 20) 6 26) 7 30) 8 37) 9 41) 10 45) 11 48) 12 49) else if a < 50 then R9 a else if a = 50 then (up (up (up (up (up (up (up (up (up (up (up (up (up (up (up (up (up (up (up (up (up (up (up (up (up (up (up (up (up (up (up (up (up (up (up (up (up (up (up (up (up (up (nwo 10) 1 51) 4 1) 5 52) 6 53) 7 54) 8 55) 9 56) 11 1) 13 (-9)) 14 (-9)) 22 57) 23 58) 24 59) 25 60) 26 61) 27 62) 30 63) 31 64) 34 65) 35 66) 36 67) 38 68) 39 69) 40 70) 41 71) 42 72) 45 73) 46 74) 48 75) 49 76) 50 77) 51 78) 52 79) 53 80) 54 81) 55 82) 56 83) 57 84) 58 85) 59 86) 60 87) 61 88) else R10 a
theorem Hf_refs : ∀ q ∈ refL, Hf q.1 q.2.1 = q.2.2 := by decide +kernel
theorem refL_b : ∀ q ∈ refL, 0 ≤ q.1 ∧ q.1 < 89 := by decide +kernel
theorem Refs_start {n : Int} {g : Hp} (e : ∀ a : Int, 0 ≤ a → a < 89 → g a = Hf a) : RefsOK (EF n) g := by
  intro a f h0 hn
  unfold EF at *
  rw [if_neg (by omega), if_neg (by omega)] at *
  have hm := ref_mem hn
  have hb := refL_b _ hm
  have hf := Hf_refs _ hm
  rw [e a hb.1 hb.2]
  exact hf
theorem Prt_start : Prt (lK 336) (ow (fun _ => 0) 16) := by
  refine ⟨fun s h1 h2 => ?_, fun c s hc hk hi => ?_⟩
  · have hb : 0 ≤ bc s ∧ bc s < 16 := by unfold bc; omega
    have e : ow (fun _ => 0) 16 s = bc s := if_pos ⟨⟨h1, h2⟩, hb.2⟩
    rw [e]
    refine ⟨⟨hb.1, by omega⟩, ?_, ⟨h1, h2⟩, ?_⟩
    · unfold lK
      rw [if_pos ⟨hb.1, by omega⟩, if_pos hb.2]
      decide
    · unfold gx gy gw
      simp only [hb.2, if_true]
      unfold bc
      omega
  · have h16 : c < 16 := by
      by_cases z : c < 16
      · exact z
      · exfalso
        apply hk
        unfold lK
        rw [if_pos hc, if_neg z]
    obtain ⟨⟨i1, i2⟩, i3, i4⟩ := hi
    unfold gx gy gw at *
    simp only [h16, if_true] at i3 i4
    have hc' : 0 ≤ c ∧ c < 336 := hc
    have e : bc s = c := by unfold bc; omega
    show (if (0 ≤ s ∧ s < 256) ∧ bc s < 16 then bc s else 0) = c
    rw [if_pos ⟨⟨i1, i2⟩, by omega⟩, e]
theorem CSh_start {N lo hi : Int} : CSh N lo hi (flr (fun _ => 0) N (-1)) (fun _ => 0) (flr (fun _ => 0) N (-9)) (fun _ => 0) := by
  have e : ∀ r v : Int, 0 ≤ r → r < N → flr (fun _ => 0) N v r = v := fun r v h1 h2 => if_pos ⟨h1, h2⟩
  refine ⟨fun r h1 h2 => ?_, fun r h1 h2 => ?_, fun r i h1 h2 h3 h4 => ?_⟩
  · rw [e r _ h1 h2]; decide
  · rw [e r _ h1 h2, e r _ h1 h2]; exact Or.inr ⟨rfl, rfl⟩
  · rw [e r _ h1 h2] at h4
    omega
theorem CWld_start : CWld 0 0 (lK 336) (fun _ => 0) (fun _ => 0) (fun _ => 0) (ow (fun _ => 0) 16) (flr (fun _ => 0) 16 1) (flr (fun _ => 0) 16 0) (flr (fun _ => 0) 16 0) (flr (fun _ => 0) 16 0) (flr (fun _ => 0) 16 (-9)) (ow (fun _ => 0) 16) := by
  refine ⟨rfl, fun c h1 h2 => ?_, Prt_start, fun _ _ _ => rfl⟩
  have z0 : flr (fun _ => 0) 16 0 c = 0 := by unfold flr; split <;> rfl
  rw [z0]
  have ra : rAm 0 := by unfold rAm; decide
  have rm' : rMa 0 := by unfold rMa; decide
  by_cases z : c < 16
  · have e1 : lK 336 c = 0 := by unfold lK; rw [if_pos ⟨h1, h2⟩, if_pos z]
    have e2 : flr (fun _ => 0) 16 1 c = 1 := if_pos ⟨h1, z⟩
    rw [e1, e2]
    refine ⟨⟨by unfold rKi; decide, rfl, ⟨ra, ra, rm', rm'⟩, fun _ => ⟨rfl, rfl, rfl⟩⟩, fun q => absurd q (by decide), fun q => absurd q (by decide)⟩
  · have e1 : lK 336 c = -1 := by unfold lK; rw [if_pos ⟨h1, h2⟩, if_neg z]
    have e2 : flr (fun _ => 0) 16 1 c = 0 := if_neg (fun q => z q.2)
    rw [e1, e2]
    refine ⟨⟨by unfold rKi; decide, rfl, ⟨ra, ra, rm', rm'⟩, fun q => absurd rfl q⟩, fun q => absurd q (by decide), fun q => absurd q (by decide)⟩
theorem Cpl_Hf : Cpl Hf := by
  unfold Cpl
  refine ⟨?_, ?_, ?_, ?_, ?_, ?_, ?_, ?_, ?_, ?_, ?_, ?_, ?_, ?_, ?_⟩
  · show CFnd 0 0 (fun _ => 0) (fun _ => 0)
    exact ⟨rfl, fun _ _ _ => rfl⟩
  · rfl
  · show CSh 6 (-2147483648) 2147483647 (flr (fun _ => 0) 6 (-1)) (fun _ => 0) (flr (fun _ => 0) 6 (-9)) (fun _ => 0)
    exact CSh_start
  · show CSh 4 (-128) 127 (flr (fun _ => 0) 4 (-1)) (fun _ => 0) (flr (fun _ => 0) 4 (-9)) (fun _ => 0)
    exact CSh_start
  · show CLaw 0 1 0 (-1) (-1) 0 1 0 (-9) (-9)
    unfold CLaw
    decide
  · show CGeo (lX 336) (lY 336) (lW 336)
    exact fun c h1 h2 => ⟨if_pos ⟨h1, h2⟩, if_pos ⟨h1, h2⟩, if_pos ⟨h1, h2⟩⟩
  · exact CWld_start
  · show CLay 1 _ _ _ _ _ _ _ _
    exact ⟨Or.inr rfl, fun z => absurd z (by decide)⟩
  · show CFlo 0 1 (flr (fun _ => 0) 336 (-1)) 0 (fun _ => 0) (fun _ => 0) (fun _ => 0)
    have e : ∀ c : Int, 0 ≤ c → c < 336 → flr (fun _ => 0) 336 (-1) c = -1 := fun c h1 h2 => if_pos ⟨h1, h2⟩
    refine ⟨by decide, by decide, fun c h1 h2 => ?_, fun a b ha hb => ?_⟩
    · rw [e c h1 h2]; decide
    · rw [e a ha.1 ha.2, if_pos (Or.inl (by decide))]
      rfl
  · exact ⟨rfl, rfl⟩
  · show CCrw (fun _ => 0) (fun _ => 0) (flr (fun _ => 0) 6 (-9)) (fun _ => 0) (fun _ => 0) (flr (fun _ => 0) 6 (-9))
    exact fun m h1 h2 => ⟨rfl, ⟨Int.le_refl _, (by decide : (0 : Int) ≤ 4)⟩, rfl, rfl⟩
  · show CKep 0 0 _ _ _ _ _ _ 0 _ _ _ _ _
    exact ⟨Or.inl rfl, rfl, fun z => absurd z (by decide)⟩
  · show CKep 336 0 _ _ _ _ _ _ 0 _ _ _ _ _
    exact ⟨Or.inl rfl, rfl, fun z => absurd z (by decide)⟩
  · exact Or.inl ⟨rfl, rfl⟩
  · exact ⟨rfl, rfl⟩
theorem Cpl_start {g : Hp} (e : ∀ a : Int, 0 ≤ a → a < 89 → g a = Hf a) : Cpl g := by
  have hC := Cpl_Hf
  unfold Cpl at *
  rw [e 0 (by decide) (by decide), e 2 (by decide) (by decide), e 3 (by decide) (by decide), e 5 (by decide) (by decide), e 6 (by decide) (by decide), e 7 (by decide) (by decide), e 11 (by decide) (by decide), e 12 (by decide) (by decide), e 13 (by decide) (by decide), e 14 (by decide) (by decide), e 15 (by decide) (by decide), e 16 (by decide) (by decide), e 17 (by decide) (by decide), e 18 (by decide) (by decide), e 19 (by decide) (by decide), e 20 (by decide) (by decide), e 21 (by decide) (by decide), e 22 (by decide) (by decide), e 23 (by decide) (by decide), e 24 (by decide) (by decide), e 25 (by decide) (by decide), e 26 (by decide) (by decide), e 27 (by decide) (by decide), e 31 (by decide) (by decide), e 32 (by decide) (by decide), e 33 (by decide) (by decide), e 37 (by decide) (by decide), e 38 (by decide) (by decide), e 39 (by decide) (by decide), e 40 (by decide) (by decide), e 41 (by decide) (by decide), e 42 (by decide) (by decide), e 43 (by decide) (by decide), e 44 (by decide) (by decide), e 45 (by decide) (by decide), e 48 (by decide) (by decide), e 49 (by decide) (by decide), e 50 (by decide) (by decide), e 51 (by decide) (by decide), e 52 (by decide) (by decide), e 53 (by decide) (by decide), e 55 (by decide) (by decide), e 56 (by decide) (by decide), e 57 (by decide) (by decide), e 58 (by decide) (by decide), e 59 (by decide) (by decide), e 60 (by decide) (by decide), e 61 (by decide) (by decide), e 62 (by decide) (by decide), e 65 (by decide) (by decide), e 66 (by decide) (by decide), e 67 (by decide) (by decide), e 74 (by decide) (by decide), e 78 (by decide) (by decide), e 79 (by decide) (by decide), e 81 (by decide) (by decide), e 82 (by decide) (by decide), e 83 (by decide) (by decide), e 84 (by decide) (by decide), e 85 (by decide) (by decide), e 86 (by decide) (by decide)]
  exact hC
