/-! the law from its entry -/
theorem EF_still (n : Int) : StillE (EF n) := by
  refine ⟨by show (0 : Int) ≠ -7; decide, Int.le_refl _, fun a f h0 hn => ?_⟩
  unfold EF at hn
  rw [if_neg (by omega), if_neg (by omega)] at hn
  have h1 : ∀ q ∈ refL, shK q.1 ≤ 10 := by decide +kernel
  exact h1 _ (ref_mem hn)
theorem E0_HM (L : Nat) : HM (E0 L) L := by
  refine ⟨⟨rfl, fun a f ha => ?_⟩, rfl⟩
  unfold E0
  rw [if_neg (by omega), if_neg (by omega), if_neg (by omega)]
theorem z_new {E : PvEnv} {d : Nat} {M : MRec} {cal : PCal} {Q : Int → Hp → Prop} {pc : Nat} {L : List PV} {h : Hp} (hc : MonoC cal) {idx ci : Nat} {m n : Int} (d1 : decode (mC M) pc = .ok (.new idx, 3)) (d2 : decode (mC M) (pc + 3) = .ok (.dup, 1)) (hw : newT (mO M) idx = some ci) (hm : h (-3) 0 = m) (hs : shK m = ci) (h10 : ci ≤ 10) (hn : shN m = n) (hE : E (-3) 0 = -7) (hM : mMc M ≠ 0) (h1 : m + 1 ≤ E (-3) 1) (h2 : h (-3) 1 + n ≤ E (-3) 2) (hx : WpC E d M cal Q (pc + 4) L [(2, m), (2, m)] (hnew h (nwo ci) n)) : WpC E d M cal Q pc L [] h := by
  refine z_gen hc d1 rfl ?_
  show exNew E M idx pc L [] h (WpC E d M cal Q)
  unfold exNew
  rw [hw]
  dsimp only
  rw [hm, hn]
  refine ⟨⟨hs, h10, hE, hM, by omega, by omega⟩, ?_⟩
  exact z_gen hc d2 rfl hx
set_option maxRecDepth 10000 in
theorem law_all : LawAll := by
  intro L h hL c0 c1 hscr
  unfold LawP
  have hc := wpM_mono (E0 L) 9
  have hE := E0_HM L
  have l1 : E0 L (-3) 1 = 89 := rfl
  have l2 : E0 L (-3) 2 = 23179 := rfl
  show WpC (E0 L) 9 mL_law (wpM (E0 L) 9) (fun r _ => r = 1) 0 [(2, -2), (9, 0), (9, 0), (9, 0)] [] h
  refine z_new hc (ci := 9) (n := 15) dL_law_0 dL_law_3 (by decide +kernel) c0 sk_0 (by decide) sn_0 hE.2 (by decide) (by omega) (by omega) ?_
  have a0 : hnew h (nwo 9) 15 (-3) 0 = 1 := by rw [hw_0, c0]; rfl
  have a1 : hnew h (nwo 9) 15 (-3) 1 = 15 := by rw [hw_1, c1]; rfl
  refine z_call hc dL_law_4 (M' := mX9_init) (kd := 4) (As := [(2, 0)]) (rest := [(2, 0)]) rfl (Or.inl rfl) rfl rfl ⟨Or.inl rfl, rfl, by decide, ⟨by decide, by decide⟩, by decide, fun _ => ⟨by decide, by rw [a0, l1]; decide, by rw [a1, l2]; decide⟩, Or.inr sk_0⟩ rfl ?_
  refine j_X9 (dd := 4) hE a0 (fun g2 K2 => ?_)
  refine z_gen hc dL_law_7 rfl ?_
  show WpC (E0 L) 9 mL_law (wpM (E0 L) 9) (fun r _ => r = 1) 8 [(2, -2), (2, 0), (9, 0), (9, 0)] [] g2
  have b0 : g2 (-3) 0 = 50 := K2.1.2.1
  have b1 : g2 (-3) 1 = 9854 := by rw [K2.1.2.2, a1]; rfl
  refine z_new hc (ci := 10) (n := 63) dL_law_8 dL_law_11 (by decide +kernel) b0 sk_50 (by decide) sn_50 hE.2 (by decide) (by omega) (by omega) ?_
  have d0 : hnew g2 (nwo 10) 63 (-3) 0 = 51 := by rw [hw_0, b0]; rfl
  have d1 : hnew g2 (nwo 10) 63 (-3) 1 = 9917 := by rw [hw_1, b1]; rfl
  refine z_call hc dL_law_12 (M' := mX10_init) (kd := 4) (As := [(2, 50)]) (rest := [(2, 50)]) rfl (Or.inl rfl) rfl rfl ⟨Or.inl rfl, rfl, by decide, ⟨by decide, by decide⟩, by decide, fun _ => ⟨by decide, by rw [d0, l1]; decide, by rw [d1, l2]; decide⟩, Or.inr sk_50⟩ rfl ?_
  refine j_X10 (dd := 5) hE d0 (fun g4 K4 => ?_)
  refine z_gen hc dL_law_15 rfl ?_
  show WpC (E0 L) 9 mL_law (wpM (E0 L) 9) (fun r _ => r = 1) 16 [(2, -2), (2, 0), (2, 50), (9, 0)] [] g4
  refine z_gen hc dL_law_16 rfl ?_
  show WpC (E0 L) 9 mL_law (wpM (E0 L) 9) (fun r _ => r = 1) 17 [(2, -2), (2, 0), (2, 50), (9, 0)] [(0, w32 0)] g4
  refine z_gen hc dL_law_17 rfl ?_
  show WpC (E0 L) 9 mL_law (wpM (E0 L) 9) (fun r _ => r = 1) 18 [(2, -2), (2, 0), (2, 50), (0, w32 0)] [] g4
  rw [show w32 0 = 0 by decide]
  obtain ⟨⟨-, kk0, -⟩, -, k7, k8, k9⟩ := K4
  obtain ⟨-, -, j7, j8, j9⟩ := K2
  have p1 : ∀ a : Int, a ≠ -3 → a < 50 → g4 a = g2 a := fun a q1 q2 => by
    rw [k9 a q1 (by omega) (by omega), hw_n b0 (by omega) q1]
  have e : ∀ a : Int, 0 ≤ a → a < 89 → g4 a = Hf a := fun a q1 q2 => by
    unfold Hf
    by_cases z0 : a = 0
    · rw [if_pos z0, z0, p1 0 (by decide) (by decide), j8, hw_s c0 (by decide)]
    · rw [if_neg z0]
      by_cases z1 : a < 50
      · rw [if_pos z1, p1 a (by omega) z1, j7 a (by omega) z1]
        rfl
      · rw [if_neg z1]
        by_cases z2 : a = 50
        · rw [if_pos z2, z2, k8, hw_s b0 (by decide)]
        · rw [if_neg z2, k7 a (by omega) (by omega)]
          rfl
  have es : g4 (-2) = h (-2) := by
    rw [p1 (-2) (by decide) (by decide), j9 (-2) (by decide) (by decide) (by decide), hw_n c0 (by decide) (by decide)]
  have hn4 : g4 (-3) 0 = 89 := kk0
  refine W_switch (E := EF L) (Lx := L) (Q := fun r _ => r = 1) (EF_still L) rfl hE.1 hE.1 (by rw [hn4]; decide) (Refs_start e) (fun _ _ _ _ _ q => q) ?_
  refine law_loop (n := L) (s := h (-2)) (by omega) (by omega) (fun k q1 q2 => ?_) (fun _ => rfl) (L + 1) 0 g4 (by decide) (by omega) (by omega) (Cpl_start e) es
  have := hscr k.toNat (by omega)
  rw [show ((k.toNat : Nat) : Int) = k by omega] at this
  exact this
