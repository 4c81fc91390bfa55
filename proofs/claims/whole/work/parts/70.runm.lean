/-! run: the reference, and both -/
section RUNM
variable {E : PvEnv} {d : Nat} {Q : Int → Hp → Prop} {h : Hp}
theorem e_m_run (hE : ∀ k, E 50 k = refT 50 k) {N wait : Int} {wks Z : Int → Int} (hZ : Z = lkZ (mgiv h) 256 (zr6 (h 80) 36)) (hW : ∀ m : Int, 0 ≤ m → m < 6 → (if h 74 m = 1 then 2 else 1) * cnt (fun c => (h 57 c ≠ 0 ∧ h 60 c = m) ∧ h 59 c ≠ 4) 336 = wks m) (hN : 1 ≤ N ∧ N ≤ 20) (hw : 0 ≤ wait ∧ wait ≤ 50) (hO : ∀ s : Int, 0 ≤ s → s < 256 → isN (h 62 s)) (hG : ∀ s : Int, 0 ≤ s → s < 256 → 0 ≤ mgiv h s ∧ mgiv h s < 6) : wpS E (d + 3) mX10_run [(2, 50), (0, N), (0, wait)] h Q = Q (fr (fun a m => if a < Et (fun m k => k ≠ m ∧ Z (6 * m + k) ≠ 0) wks wait N.toNat m then Et (fun m k => k ≠ m ∧ Z (6 * m + k) ≠ 0) wks wait N.toNat m else a) 6 0) (vM h (pf (Et (fun m k => k ≠ m ∧ Z (6 * m + k) ≠ 0) wks wait N.toNat) (h 76) 6) (Rt (fun t => Et (fun m k => k ≠ m ∧ Z (6 * m + k) ≠ 0) wks wait (t + 1)) (h 77) N.toNat) (Wt (fun m k => k ≠ m ∧ Z (6 * m + k) ≠ 0) wks wait (h 78) N.toNat) (pf (Et (fun m k => k ≠ m ∧ Z (6 * m + k) ≠ 0) wks wait N.toNat) (h 79) 6) Z) := by
  rw [u_X10_run hE, e_m_in, b2_if, if_pos hN, e_m_in, b2_if, if_pos hw, e_m_setBeside hE hO hG, ← hZ]
  clear hZ
  have e0 : hrow h 80 Z = vM h (h 76) (h 77) (h 78) (h 79) Z := by
    have := vM_w80 (h := h) (r76 := h 76) (r77 := h 77) (r78 := h 78) (r79 := h 79) (r80 := h 80) Z
    rw [vM_id] at this
    exact this
  rw [e0]
  have l1 := loop_n (P := fun k => Ws E (d + 2) mX10_run Q 28 [(2, 50), (0, N), (0, wait), (0, (k : Int)), (9, 0), (9, 0), (9, 0)] [] (vM h (pf (fun _ => 0) (h 76) k) (h 77) (h 78) (h 79) Z)) 6 (by
    intro k hk
    rw [b_X10_run_28 hE, if_pos (by omega), and_tl (by omega), w32_n1 (by omega), vM_s76, pf_s (fun _ => 0)])
  rw [pf_0] at l1
  have tick : ∀ (t : Nat) (v : PV × PV × PV) (r77 : Int → Int), t < N.toNat → ∃ v' : PV × PV × PV, Ws E (d + 2) mX10_run Q 49 [(2, 50), (0, N), (0, wait), (0, (t : Int)), v.1, v.2.1, v.2.2] [] (vM h (pf (Et (fun m k => k ≠ m ∧ Z (6 * m + k) ≠ 0) wks wait t) (h 76) 6) r77 (Wt (fun m k => k ≠ m ∧ Z (6 * m + k) ≠ 0) wks wait (h 78) t) (h 79) Z) = Ws E (d + 2) mX10_run Q 49 [(2, 50), (0, N), (0, wait), (0, ((t + 1 : Nat) : Int)), v'.1, v'.2.1, v'.2.2] [] (vM h (pf (Et (fun m k => k ≠ m ∧ Z (6 * m + k) ≠ 0) wks wait (t + 1)) (h 76) 6) (pf (Et (fun m k => k ≠ m ∧ Z (6 * m + k) ≠ 0) wks wait (t + 1)) r77 6) (Wt (fun m k => k ≠ m ∧ Z (6 * m + k) ≠ 0) wks wait (h 78) (t + 1)) (h 79) Z) := by
    intro t v r77 ht
    rw [b_X10_run_49 hE, if_pos (by omega)]
    obtain ⟨v1, l2⟩ := loop_x (α := PV × PV) (P := fun v k => Ws E (d + 2) mX10_run Q 57 [(2, 50), (0, N), (0, wait), (0, (t : Int)), (0, (k : Int)), v.1, v.2] [] (vM h (pf (Et (fun m k => k ≠ m ∧ Z (6 * m + k) ≠ 0) wks wait t) (h 76) 6) (pf (Et (fun m k => k ≠ m ∧ Z (6 * m + k) ≠ 0) wks wait (t + 1)) r77 k) (pf (fun m => (wtk (fun j => j ≠ m ∧ Z (6 * m + j) ≠ 0) (Et (fun m k => k ≠ m ∧ Z (6 * m + k) ≠ 0) wks wait t) wait m 6).2) (Wt (fun m k => k ≠ m ∧ Z (6 * m + k) ≠ 0) wks wait (h 78) t) k) (h 79) Z)) 6 v.2 (by
      intro v k hk
      refine ⟨((0, (wtk (fun j => j ≠ (k : Int) ∧ Z (6 * (k : Int) + j) ≠ 0) (Et (fun m k => k ≠ m ∧ Z (6 * m + k) ≠ 0) wks wait t) wait k 6).1), (0, 6)), ?_⟩
      rw [b_X10_run_57 hE, if_pos (by omega), and_tl (by omega), and_tl (by omega), vM_r76, pf_in (by omega), vM_s78]
      generalize hr : pf (fun m => (wtk (fun j => j ≠ m ∧ Z (6 * m + j) ≠ 0) (Et (fun m k => k ≠ m ∧ Z (6 * m + k) ≠ 0) wks wait t) wait m 6).2) (Wt (fun m k => k ≠ m ∧ Z (6 * m + k) ≠ 0) wks wait (h 78) t) (k : Int) = r78
      have l3 := loop_n (P := fun j => Ws E (d + 2) mX10_run Q 85 [(2, 50), (0, N), (0, wait), (0, (t : Int)), (0, (k : Int)), (0, (wtk (fun j => j ≠ (k : Int) ∧ Z (6 * (k : Int) + j) ≠ 0) (Et (fun m k => k ≠ m ∧ Z (6 * m + k) ≠ 0) wks wait t) wait k j).1), (0, (j : Int))] [] (vM h (pf (Et (fun m k => k ≠ m ∧ Z (6 * m + k) ≠ 0) wks wait t) (h 76) 6) (pf (Et (fun m k => k ≠ m ∧ Z (6 * m + k) ≠ 0) wks wait (t + 1)) r77 k) (up r78 k (wtk (fun j => j ≠ (k : Int) ∧ Z (6 * (k : Int) + j) ≠ 0) (Et (fun m k => k ≠ m ∧ Z (6 * m + k) ≠ 0) wks wait t) wait k j).2) (h 79) Z)) 6 (by
        intro j hj
        have eu : ∀ a b : Int, up (up r78 k a) k b = up r78 k b := by
          intro a b
          funext i
          unfold up
          split <;> rfl
        rw [b_X10_run_85 hE, if_pos (by omega), w32_n1 (by omega), ix6 (by omega) (by omega), and_tl (by omega), vM_r80, vM_r76, pf_in (by omega), and_tl (by omega), and_tl (by omega), and_tl (by omega), vM_s78, eu]
        show _ = Ws E (d + 2) mX10_run Q 85 [(2, 50), (0, N), (0, wait), (0, (t : Int)), (0, (k : Int)), (0, (if ((j : Int) ≠ (k : Int) ∧ Z (6 * (k : Int) + j) ≠ 0) ∧ (wtk (fun j => j ≠ (k : Int) ∧ Z (6 * (k : Int) + j) ≠ 0) (Et (fun m k => k ≠ m ∧ Z (6 * m + k) ≠ 0) wks wait t) wait k j).1 < w32 (Et (fun m k => k ≠ m ∧ Z (6 * m + k) ≠ 0) wks wait t j + wait) then (w32 (Et (fun m k => k ≠ m ∧ Z (6 * m + k) ≠ 0) wks wait t j + wait), (j : Int)) else wtk (fun j => j ≠ (k : Int) ∧ Z (6 * (k : Int) + j) ≠ 0) (Et (fun m k => k ≠ m ∧ Z (6 * m + k) ≠ 0) wks wait t) wait k j).1), (0, ((j + 1 : Nat) : Int))] [] (vM h (pf (Et (fun m k => k ≠ m ∧ Z (6 * m + k) ≠ 0) wks wait t) (h 76) 6) (pf (Et (fun m k => k ≠ m ∧ Z (6 * m + k) ≠ 0) wks wait (t + 1)) r77 k) (up r78 k (if ((j : Int) ≠ (k : Int) ∧ Z (6 * (k : Int) + j) ≠ 0) ∧ (wtk (fun j => j ≠ (k : Int) ∧ Z (6 * (k : Int) + j) ≠ 0) (Et (fun m k => k ≠ m ∧ Z (6 * m + k) ≠ 0) wks wait t) wait k j).1 < w32 (Et (fun m k => k ≠ m ∧ Z (6 * m + k) ≠ 0) wks wait t j + wait) then (w32 (Et (fun m k => k ≠ m ∧ Z (6 * m + k) ≠ 0) wks wait t j + wait), (j : Int)) else wtk (fun j => j ≠ (k : Int) ∧ Z (6 * (k : Int) + j) ≠ 0) (Et (fun m k => k ≠ m ∧ Z (6 * m + k) ≠ 0) wks wait t) wait k j).2) (h 79) Z)
        by_cases z : (j : Int) = k
        · rw [if_pos z, if_neg (fun q => q.1.1 z)]
        · rw [if_neg z]
          by_cases y : Z (6 * (k : Int) + j) = 0
          · rw [if_pos y, if_neg (fun q => q.1.2 y)]
          · rw [if_neg y]
            by_cases w : (wtk (fun j => j ≠ (k : Int) ∧ Z (6 * (k : Int) + j) ≠ 0) (Et (fun m k => k ≠ m ∧ Z (6 * m + k) ≠ 0) wks wait t) wait k j).1 < w32 (Et (fun m k => k ≠ m ∧ Z (6 * m + k) ≠ 0) wks wait t j + wait)
            · rw [if_pos w, if_pos ⟨⟨z, y⟩, w⟩]
            · rw [if_neg w, if_neg (fun q => w q.2)])
      refine l3.trans ?_
      show Ws E (d + 2) mX10_run Q 85 [(2, 50), (0, N), (0, wait), (0, (t : Int)), (0, (k : Int)), (0, _), (0, ((6 : Nat) : Int))] [] _ = _
      rw [b_X10_run_85 hE, if_neg (by decide), e_m_workOf hE (by omega), and_tl (by omega), w32_n1 (by omega), vM_s77]
      have ew : (if vM h (pf (Et (fun m k => k ≠ m ∧ Z (6 * m + k) ≠ 0) wks wait t) (h 76) 6) (pf (Et (fun m k => k ≠ m ∧ Z (6 * m + k) ≠ 0) wks wait (t + 1)) r77 k) (up r78 k (wtk (fun j => j ≠ (k : Int) ∧ Z (6 * (k : Int) + j) ≠ 0) (Et (fun m k => k ≠ m ∧ Z (6 * m + k) ≠ 0) wks wait t) wait k 6).2) (h 79) Z 74 k = 1 then 2 else 1) * cnt (fun c => (vM h (pf (Et (fun m k => k ≠ m ∧ Z (6 * m + k) ≠ 0) wks wait t) (h 76) 6) (pf (Et (fun m k => k ≠ m ∧ Z (6 * m + k) ≠ 0) wks wait (t + 1)) r77 k) (up r78 k (wtk (fun j => j ≠ (k : Int) ∧ Z (6 * (k : Int) + j) ≠ 0) (Et (fun m k => k ≠ m ∧ Z (6 * m + k) ≠ 0) wks wait t) wait k 6).2) (h 79) Z 57 c ≠ 0 ∧ vM h (pf (Et (fun m k => k ≠ m ∧ Z (6 * m + k) ≠ 0) wks wait t) (h 76) 6) (pf (Et (fun m k => k ≠ m ∧ Z (6 * m + k) ≠ 0) wks wait (t + 1)) r77 k) (up r78 k (wtk (fun j => j ≠ (k : Int) ∧ Z (6 * (k : Int) + j) ≠ 0) (Et (fun m k => k ≠ m ∧ Z (6 * m + k) ≠ 0) wks wait t) wait k 6).2) (h 79) Z 60 c = k) ∧ vM h (pf (Et (fun m k => k ≠ m ∧ Z (6 * m + k) ≠ 0) wks wait t) (h 76) 6) (pf (Et (fun m k => k ≠ m ∧ Z (6 * m + k) ≠ 0) wks wait (t + 1)) r77 k) (up r78 k (wtk (fun j => j ≠ (k : Int) ∧ Z (6 * (k : Int) + j) ≠ 0) (Et (fun m k => k ≠ m ∧ Z (6 * m + k) ≠ 0) wks wait t) wait k 6).2) (h 79) Z 59 c ≠ 4) 336 = wks k := hW k (by omega) (by omega)
      rw [ew]
      have p1 := pf_s (Et (fun m k => k ≠ m ∧ Z (6 * m + k) ≠ 0) wks wait (t + 1)) r77 k
      have p2 := pf_s (fun m => (wtk (fun j => j ≠ m ∧ Z (6 * m + j) ≠ 0) (Et (fun m k => k ≠ m ∧ Z (6 * m + k) ≠ 0) wks wait t) wait m 6).2) (Wt (fun m k => k ≠ m ∧ Z (6 * m + k) ≠ 0) wks wait (h 78) t) k
      rw [← p1, ← p2, hr]
      rfl)
    have z1 := pf_0 (Et (fun m k => k ≠ m ∧ Z (6 * m + k) ≠ 0) wks wait (t + 1)) r77
    have z2 := pf_0 (fun m => (wtk (fun j => j ≠ m ∧ Z (6 * m + j) ≠ 0) (Et (fun m k => k ≠ m ∧ Z (6 * m + k) ≠ 0) wks wait t) wait m 6).2) (Wt (fun m k => k ≠ m ∧ Z (6 * m + k) ≠ 0) wks wait (h 78) t)
    rw [z1, z2] at l2
    refine ⟨((0, 6), v1.1, v1.2), ?_⟩
    refine l2.trans ?_
    show Ws E (d + 2) mX10_run Q 57 [(2, 50), (0, N), (0, wait), (0, (t : Int)), (0, ((6 : Nat) : Int)), v1.1, v1.2] [] _ = _
    rw [b_X10_run_57 hE, if_neg (by decide)]
    have l5 := loop_n (P := fun k => Ws E (d + 2) mX10_run Q 180 [(2, 50), (0, N), (0, wait), (0, (t : Int)), (0, (k : Int)), v1.1, v1.2] [] (vM h (pf (Et (fun m k => k ≠ m ∧ Z (6 * m + k) ≠ 0) wks wait (t + 1)) (pf (Et (fun m k => k ≠ m ∧ Z (6 * m + k) ≠ 0) wks wait t) (h 76) 6) k) (pf (Et (fun m k => k ≠ m ∧ Z (6 * m + k) ≠ 0) wks wait (t + 1)) r77 6) (Wt (fun m k => k ≠ m ∧ Z (6 * m + k) ≠ 0) wks wait (h 78) (t + 1)) (h 79) Z)) 6 (by
      intro k hk
      rw [b_X10_run_180 hE, if_pos (by omega), and_tl (by omega), and_tl (by omega), w32_n1 (by omega), vM_r77, pf_in (f := Et (fun m k => k ≠ m ∧ Z (6 * m + k) ≠ 0) wks wait (t + 1)) (g := r77) (by omega), vM_s76, pf_s])
    rw [pf_0] at l5
    refine l5.trans ?_
    show Ws E (d + 2) mX10_run Q 180 [(2, 50), (0, N), (0, wait), (0, (t : Int)), (0, ((6 : Nat) : Int)), v1.1, v1.2] [] (vM h (pf (Et (fun m k => k ≠ m ∧ Z (6 * m + k) ≠ 0) wks wait (t + 1)) (pf (Et (fun m k => k ≠ m ∧ Z (6 * m + k) ≠ 0) wks wait t) (h 76) 6) 6) _ _ _ _) = _
    rw [b_X10_run_180 hE, if_neg (by decide), w32_n1 (by omega), pf_pf]
    rfl
  obtain ⟨v, l3⟩ := loop_x (α := PV × PV × PV) (P := fun v t => Ws E (d + 2) mX10_run Q 49 [(2, 50), (0, N), (0, wait), (0, (t : Int)), v.1, v.2.1, v.2.2] [] (vM h (pf (Et (fun m k => k ≠ m ∧ Z (6 * m + k) ≠ 0) wks wait t) (h 76) 6) (Rt (fun t => Et (fun m k => k ≠ m ∧ Z (6 * m + k) ≠ 0) wks wait (t + 1)) (h 77) t) (Wt (fun m k => k ≠ m ∧ Z (6 * m + k) ≠ 0) wks wait (h 78) t) (h 79) Z)) N.toNat ((9, 0), (9, 0), (9, 0)) (fun v t ht => tick t v _ ht)
  refine l1.trans ?_
  show Ws E (d + 2) mX10_run Q 28 [(2, 50), (0, N), (0, wait), (0, ((6 : Nat) : Int)), (9, 0), (9, 0), (9, 0)] [] _ = _
  rw [b_X10_run_28 hE, if_neg (by decide)]
  refine l3.trans ?_
  show Ws E (d + 2) mX10_run Q 49 [(2, 50), (0, N), (0, wait), (0, _), v.1, v.2.1, v.2.2] [] (vM h _ _ _ _ _) = _
  rw [b_X10_run_49 hE, if_neg (by omega)]
  have l6 := loop_n (P := fun k => Ws E (d + 2) mX10_run Q 218 [(2, 50), (0, N), (0, wait), (0, fr (fun a m => if a < Et (fun m k => k ≠ m ∧ Z (6 * m + k) ≠ 0) wks wait N.toNat m then Et (fun m k => k ≠ m ∧ Z (6 * m + k) ≠ 0) wks wait N.toNat m else a) k 0), (0, (k : Int)), v.2.1, v.2.2] [] (vM h (pf (Et (fun m k => k ≠ m ∧ Z (6 * m + k) ≠ 0) wks wait N.toNat) (h 76) 6) (Rt (fun t => Et (fun m k => k ≠ m ∧ Z (6 * m + k) ≠ 0) wks wait (t + 1)) (h 77) N.toNat) (Wt (fun m k => k ≠ m ∧ Z (6 * m + k) ≠ 0) wks wait (h 78) N.toNat) (pf (Et (fun m k => k ≠ m ∧ Z (6 * m + k) ≠ 0) wks wait N.toNat) (h 79) k) Z)) 6 (by
    intro k hk
    show _ = Ws E (d + 2) mX10_run Q 218 [(2, 50), (0, N), (0, wait), (0, if fr (fun a m => if a < Et (fun m k => k ≠ m ∧ Z (6 * m + k) ≠ 0) wks wait N.toNat m then Et (fun m k => k ≠ m ∧ Z (6 * m + k) ≠ 0) wks wait N.toNat m else a) k 0 < Et (fun m k => k ≠ m ∧ Z (6 * m + k) ≠ 0) wks wait N.toNat k then Et (fun m k => k ≠ m ∧ Z (6 * m + k) ≠ 0) wks wait N.toNat k else fr (fun a m => if a < Et (fun m k => k ≠ m ∧ Z (6 * m + k) ≠ 0) wks wait N.toNat m then Et (fun m k => k ≠ m ∧ Z (6 * m + k) ≠ 0) wks wait N.toNat m else a) k 0), (0, ((k + 1 : Nat) : Int)), v.2.1, v.2.2] [] _
    generalize fr (fun a m => if a < Et (fun m k => k ≠ m ∧ Z (6 * m + k) ≠ 0) wks wait N.toNat m then Et (fun m k => k ≠ m ∧ Z (6 * m + k) ≠ 0) wks wait N.toNat m else a) k 0 = a
    rw [b_X10_run_218 hE, if_pos (by omega), and_tl (by omega), and_tl (by omega), and_tl (by omega), w32_n1 (by omega), vM_s79, vM_r76, vM_r76, pf_in (f := Et (fun m k => k ≠ m ∧ Z (6 * m + k) ≠ 0) wks wait N.toNat) (g := h 76) (by omega), and_tl (by omega), pf_s]
    by_cases z : a < Et (fun m k => k ≠ m ∧ Z (6 * m + k) ≠ 0) wks wait N.toNat k
    · rw [if_pos z, if_pos z]
    · rw [if_neg z, if_neg z])
  rw [pf_0] at l6
  refine l6.trans ?_
  show Ws E (d + 2) mX10_run Q 218 [(2, 50), (0, N), (0, wait), (0, _), (0, ((6 : Nat) : Int)), v.2.1, v.2.2] [] _ = _
  rw [b_X10_run_218 hE, if_neg (by decide)]
  rfl
end RUNM
theorem lkZ_c {g g' : Int → Int} {Z : Int → Int} : ∀ k : Nat, k ≤ 256 → (∀ s : Int, 0 ≤ s → s < 256 → g s = g' s) → lkZ g k Z = lkZ g' k Z
  | 0, _, _ => rfl
  | s + 1, hs, h => by
    have ih := lkZ_c (Z := Z) s (by omega) h
    have e : lkQ g (lkZ g s Z) s = lkQ g' (lkZ g' s Z) s := by
      unfold lkQ
      rw [ih, h s (by omega) (by omega)]
      by_cases z : (s : Int) % 16 < 15
      · rw [if_pos z, if_pos z, h (s + 1) (by omega) (by omega)]
      · rw [if_neg z, if_neg z]
    show (if (s : Int) < 240 then stZ (lkQ g (lkZ g s Z) s) (g s) (g (s + 16)) else lkQ g (lkZ g s Z) s) = if (s : Int) < 240 then stZ (lkQ g' (lkZ g' s Z) s) (g' s) (g' (s + 16)) else lkQ g' (lkZ g' s Z) s
    rw [e, h s (by omega) (by omega)]
    by_cases z : (s : Int) < 240
    · rw [if_pos z, if_pos z, h (s + 16) (by omega) (by omega)]
    · rw [if_neg z, if_neg z]
theorem p_run {n a b : Int} : Pr n mX9_run mX10_run [(0, a), (0, b)] := by
  intro h hC
  have hC' := hC
  obtain ⟨c1, c2, c3, c4, c5, c6, c7, c8, c9, c10, c11, c12, c13, c14, c15⟩ := hC
  by_cases z1 : 1 ≤ a ∧ a ≤ 20
  · by_cases z2 : 0 ≤ b ∧ b ≤ 50
    · have hg : ∀ s : Int, 0 ≤ s → s < 256 → 0 ≤ giv h s ∧ giv h s < 6 := fun s s0 s1 => cw_G c7 _ (cw_O c7 s s0 s1).1 (cw_O c7 s s0 s1).2
      have hgm : ∀ s : Int, 0 ≤ s → s < 256 → mgiv h s = giv h s := fun s s0 s1 => cw_giv c7 s s0 s1
      obtain ⟨t, ht⟩ : ∃ t : Nat, a.toNat = t + 1 := ⟨a.toNat - 1, by omega⟩
      have hB0 : BZ (zr6 (h 36) 6) (zr6 (h 80) 36) := by
        intro m k m0 m1 k0 k1
        have e1 : zr6 (h 36) 6 m = 0 := if_pos (by omega)
        have e2 : zr6 (h 80) 36 (6 * m + k) = 0 := if_pos (by omega)
        rw [e1, e2]
        exact ⟨by decide, fun _ => ⟨fun w => absurd w (bit_0 (by omega)), fun w => absurd rfl w⟩, bit_0 (by omega)⟩
      have hBZ := lk_BZ hg hB0 256 (Nat.le_refl _)
      have eZ : lkZ (mgiv h) 256 (zr6 (h 80) 36) = lkZ (giv h) 256 (zr6 (h 80) 36) := lkZ_c 256 (Nat.le_refl _) hgm
      rw [← eZ] at hBZ
      have x := fun Q => e_workThrough (n := n) (d := 3) (Q := Q) (h := h) (N := a) (wait := b) rfl (by omega) (cw_O c7) (cw_G c7)
      generalize hB : lkB (giv h) 256 (zr6 (h 36) 6) = B at *
      have hZ : lkZ (mgiv h) 256 (zr6 (h 80) 36) = lkZ (mgiv h) 256 (zr6 (h 80) 36) := rfl
      have hW : ∀ m : Int, 0 ≤ m → m < 6 → (if h 74 m = 1 then 2 else 1) * cnt (fun c => (h 57 c ≠ 0 ∧ h 60 c = m) ∧ h 59 c ≠ 4) 336 = wk (h 12) (h 14) (h 31) m := fun m m0 m1 => cw_wk c7 c11 ⟨m0, m1⟩
      generalize wk (h 12) (h 14) (h 31) = wks at *
      generalize hZ' : lkZ (mgiv h) 256 (zr6 (h 80) 36) = Z at *
      have hbs : ∀ m k : Int, 0 ≤ m → m < 6 → 0 ≤ k → k < 6 → ((k ≠ m ∧ Z (6 * m + k) ≠ 0) ↔ bitI (B m) k) := by
        intro m k m0 m1 k0 k1
        obtain ⟨-, q2, q3⟩ := hBZ m k m0 m1 k0 k1
        by_cases w : m = k
        · subst w
          exact ⟨fun q => absurd rfl q.1, fun q => absurd q q3⟩
        · rw [q2 w]
          exact ⟨fun q => q.2, fun q => ⟨fun e => w e.symm, q⟩⟩
      have eE : ∀ m : Int, 0 ≤ m → m < 6 → Et (fun m k => k ≠ m ∧ Z (6 * m + k) ≠ 0) wks b a.toNat m = Et (fun m k => bitI (B m) k) wks b a.toNat m := Et_c hbs (fun _ _ _ => rfl) a.toNat
      refine ⟨fr (fun x m => if x < Et (fun m k => bitI (B m) k) wks b a.toNat m then Et (fun m k => bitI (B m) k) wks b a.toNat m else x) 6 0, (vC h (pf (Et (fun m k => bitI (B m) k) wks b a.toNat) (h 32) 6) (Wt (fun m k => bitI (B m) k) wks b (h 33) a.toNat) (Rt (Et (fun m k => bitI (B m) k) wks b) (h 34) a.toNat) (pf wks (h 35) 6) B), (vM (vC h (pf (Et (fun m k => bitI (B m) k) wks b a.toNat) (h 32) 6) (Wt (fun m k => bitI (B m) k) wks b (h 33) a.toNat) (Rt (Et (fun m k => bitI (B m) k) wks b) (h 34) a.toNat) (pf wks (h 35) 6) B) (pf (Et (fun m k => k ≠ m ∧ Z (6 * m + k) ≠ 0) wks b a.toNat) (h 76) 6) (Rt (fun t => Et (fun m k => k ≠ m ∧ Z (6 * m + k) ≠ 0) wks b (t + 1)) (h 77) a.toNat) (Wt (fun m k => k ≠ m ∧ Z (6 * m + k) ≠ 0) wks b (h 78) a.toNat) (pf (Et (fun m k => k ≠ m ∧ Z (6 * m + k) ≠ 0) wks b a.toNat) (h 79) 6) Z), fun Q => ?_, fun Q => ?_, ?_⟩
      · rw [u_X9_run, if_neg (by omega), if_neg (by omega), if_neg (by omega), if_neg (by omega), x]
      · have m := e_m_run (E := EF n) (d := 6) (Q := Q) (h := (vC h (pf (Et (fun m k => bitI (B m) k) wks b a.toNat) (h 32) 6) (Wt (fun m k => bitI (B m) k) wks b (h 33) a.toNat) (Rt (Et (fun m k => bitI (B m) k) wks b) (h 34) a.toNat) (pf wks (h 35) 6) B)) (N := a) (wait := b) (wks := wks) (Z := Z) (EF_50 n) hZ'.symm hW z1 z2 (cw_S c7) (fun s s0 s1 => by show 0 ≤ mgiv h s ∧ mgiv h s < 6; rw [hgm s s0 s1]; exact hg s s0 s1)
        refine m.trans ?_
        rw [fr_c (g' := fun x m => if x < Et (fun m k => bitI (B m) k) wks b a.toNat m then Et (fun m k => bitI (B m) k) wks b a.toNat m else x) 6 0 (fun j hj x => by rw [eE j (by omega) (by omega)])]
        rfl
      · unfold Cpl
        simp only [vM, vC, Int.reduceEq, if_true, if_false, reduceIte]
        refine ⟨c1, c2, c3, c4, c5, c6, c7, c8, c9, c10, ?_, c12, c13, c14, c15⟩
        intro m m0 m1
        have q := c11 m m0 m1
        refine ⟨q.1, q.2.1, ?_, ?_⟩
        · rw [pf_in ⟨m0, m1⟩, pf_in ⟨m0, m1⟩]
          exact eE m m0 m1
        · rw [ht]
          exact Wt_c hbs (fun _ _ _ => rfl) _ _ t m m0 m1
    · refine ⟨-1, h, h, fun Q => ?_, fun Q => ?_, hC'⟩
      · rw [u_X9_run, if_neg (by omega), if_neg (by omega)]
        by_cases w : b < 0
        · rw [if_pos w]
        · rw [if_neg w, if_pos (by omega)]
      · rw [u_X10_run (EF_50 n), e_m_in, b2_if, if_pos z1, e_m_in, b2_if, if_neg z2]
  · refine ⟨-1, h, h, fun Q => ?_, fun Q => ?_, hC'⟩
    · rw [u_X9_run]
      by_cases w : a < 1
      · rw [if_pos w]
      · rw [if_neg w, if_pos (by omega)]
    · rw [u_X10_run (EF_50 n), e_m_in, b2_if, if_neg z1]
