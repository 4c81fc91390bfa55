/-! tick: the reference parts what is above -/
section MPA
variable {K A : Int → Int} {p t t' : Int} {G X O T A' K' G' X' S : Int → Int}
theorem CWld_cuts (w : CWld t t' K A G X O T A' K' G' X' S) : ∀ k : Nat, k ≤ 80 → CWld t t' (dK (sD K A p 0 k) K) (dA (sD K A p 0 k) A) (dG (sD K A p 0 k) G) X (dO (sD K A p 0 k) O) (dT (sD K A p 0 k) T) (dA (sD K A p 0 k) A') (dK2 (sD K A p 0 k) K') (dG (sD K A p 0 k) G') (dX (sD K A p 0 k) X') (dO (sD K A p 0 k) S)
  | 0, _ => by
    have z0 : ∀ j, sD K A p 0 ((0 : Nat) : Int) j ≠ 1 := fun j q => by
      have := (sD_1.mp q).1
      omega
    rw [(d_0 z0 K).1, (d_0 z0 A).2.2.2.1, (d_0 z0 G).2.2.2.2.1, (d_0 z0 O).2.2.2.2.2.2, (d_0 z0 T).2.2.1, (d_0 z0 A').2.2.2.1, (d_0 z0 K').2.1, (d_0 z0 G').2.2.2.2.1, (d_0 z0 X').2.2.2.2.2.1, (d_0 z0 S).2.2.2.2.2.2]
    exact w
  | k + 1, hk => by
    have ih := CWld_cuts w k (by omega)
    have P := w.2.2.1
    have hc : 0 ≤ (k : Int) ∧ (k : Int) < 80 := by omega
    by_cases z : cand K A p k
    · have kn : K (k : Int) ≠ -1 := by have := z.1; omega
      have n1 : sD K A p 0 (k : Int) (k : Int) ≠ 1 := fun q => by
        have := (sD_1.mp q).1
        omega
      have n2 := sD_par (A := A) (p := p) (lo := 0) (hi := (k : Int)) (c := (k : Int)) P (by omega) kn
      have kd := sD_kid (A := A) (p := p) (lo := 0) (hi := (k : Int)) P hc kn
      have eK : dK (sD K A p 0 (k : Int)) K (k : Int) = K (k : Int) := by
        unfold dK
        rw [if_neg n1, if_neg n2]
      have ho : ∀ s : Int, inC (k : Int) s → O s = k := fun s hs => P.2 _ s ⟨hc.1, by omega⟩ kn hs
      have hs : ∀ s : Int, inC (k : Int) s → S s = k := fun s hs => (w.2.2.2 s hs.1.1 hs.1.2).trans (ho s hs)
      have r := CWld_cut ih hc (by rw [eK]; exact z.1)
      rw [dK_step hc.1 kd, dA_step n2, dG_step n2, dO_step hc ho, dT_step hc.1 kd, dA_step n2, dK2_step, dG_step n2, dX_step, dO_step hc hs, sD_up (lo' := 0) (hi' := ((k + 1 : Nat) : Int)) z (fun j => by omega)] at r
      exact r
    · rw [← sD_e (K := K) (A := A) (p := p) (lo := 0) (hi := (k : Int)) (lo' := 0) (hi' := ((k + 1 : Nat) : Int)) (fun j => ⟨fun q => ⟨by omega, q.2⟩, fun q => ⟨by
          have : j ≠ (k : Int) := fun u => z (u ▸ q.2)
          omega, q.2⟩⟩)]
      exact ih
theorem e_m_above {E : PvEnv} (hE : ∀ k, E 50 k = refT 50 k) {d : Nat} {Q : Int → Hp → Prop} {g : Hp} {ov : Int} (w : CWld t t' K A G X O T A' K' G' X' S) (h73 : ∀ c : Int, isN c → g 73 c = T c) (hp : g 50 13 = p) (hp0 : 0 ≤ p) : Ws E (d + 4) mX10_tick Q 123 [(2, 50), (1, ov), (9, 0), (0, 0), (0, 0), (0, 0), (9, 0)] [] (mv g T A' K' G' X' S) = Ws E (d + 4) mX10_tick Q 191 [(2, 50), (1, ov), (9, 0), (0, cnt (fun i => cand K A p i) 80), (0, 0), (0, 79), (9, 0)] [] (mv g (dT (sD K A p 0 80) T) (dA (sD K A p 0 80) A') (dK2 (sD K A p 0 80) K') (dG (sD K A p 0 80) G') (dX (sD K A p 0 80) X') (dO (sD K A p 0 80) S)) := by
  have P := w.2.2.1
  have z0 : ∀ j, sD K A p 0 ((0 : Nat) : Int) j ≠ 1 := fun j q => by
    have := (sD_1.mp q).1
    omega
  have st : mv g T A' K' G' X' S = mv g (dT (sD K A p 0 ((0 : Nat) : Int)) T) (dA (sD K A p 0 ((0 : Nat) : Int)) A') (dK2 (sD K A p 0 ((0 : Nat) : Int)) K') (dG (sD K A p 0 ((0 : Nat) : Int)) G') (dX (sD K A p 0 ((0 : Nat) : Int)) X') (dO (sD K A p 0 ((0 : Nat) : Int)) S) := by
    rw [(d_0 z0 T).2.2.1, (d_0 z0 A').2.2.2.1, (d_0 z0 K').2.1, (d_0 z0 G').2.2.2.2.1, (d_0 z0 X').2.2.2.2.2.1, (d_0 z0 S).2.2.2.2.2.2]
  rw [st]
  refine (loop_n (P := fun k => Ws E (d + 4) mX10_tick Q 123 [(2, 50), (1, ov), (9, 0), (0, cnt (fun i => cand K A p i) k), (0, 0), (0, (k : Int)), (9, 0)] [] (mv g (dT (sD K A p 0 (k : Int)) T) (dA (sD K A p 0 (k : Int)) A') (dK2 (sD K A p 0 (k : Int)) K') (dG (sD K A p 0 (k : Int)) G') (dX (sD K A p 0 (k : Int)) X') (dO (sD K A p 0 (k : Int)) S))) 80 (fun k hk => ?_)).trans ?_
  · have hb := cnt_b (fun i => cand K A p i) k
    have hc : 0 ≤ (k : Int) ∧ (k : Int) < 80 := by omega
    have hn : isN (k : Int) := ⟨hc.1, by omega⟩
    have no : ¬ cand K A p k → sD K A p 0 (k : Int) = sD K A p 0 ((k + 1 : Nat) : Int) := fun z => sD_e (fun j => ⟨fun q => ⟨by omega, q.2⟩, fun q => ⟨by
      have : j ≠ (k : Int) := fun u => z (u ▸ q.2)
      omega, q.2⟩⟩)
    show Ws E (d + 4) mX10_tick Q 123 _ _ _ = Ws E (d + 4) mX10_tick Q 123 _ _ _
    rw [b_X10_tick_123 hE, if_pos (show (k : Int) < 80 from hc.2), and_tl (by omega), mv_off (a := 73) (by decide) (by decide) (by decide) (by decide) (by decide) (by decide), h73 _ hn, w32_of (x := (k : Int) + 1) (by omega) (by omega), show (k : Int) + 1 = ((k + 1 : Nat) : Int) by omega]
    by_cases y : K (k : Int) = -1
    · have nc : ¬ cand K A p k := fun q => by have := q.1; omega
      rw [if_pos ((cw_T w hn).mpr y), cnt_f (p := fun i => cand K A p i) nc, no nc]
    · have n2 := sD_par (A := A) (p := p) (lo := 0) (hi := (k : Int)) (c := (k : Int)) P (by omega) y
      have kd := sD_kid (A := A) (p := p) (lo := 0) (hi := (k : Int)) P hc y
      obtain ⟨e1, e2, e3⟩ := cw_e w hn y
      have eK : dK2 (sD K A p 0 (k : Int)) K' (k : Int) = K (k : Int) := (if_neg n2).trans e1
      have eA : dA (sD K A p 0 (k : Int)) A' (k : Int) = A (k : Int) := (if_neg n2).trans e2
      have rk := (w.2.1 _ hn.1 hn.2).1.1
      unfold rKi at rk
      rw [if_neg (fun q => y ((cw_T w hn).mp q)), and_tl (by omega), mv_r59, eK, mv_off (a := 50) (by decide) (by decide) (by decide) (by decide) (by decide) (by decide), hp, mv_r58, eA]
      by_cases y1 : 1 < K (k : Int)
      · have nc : ¬ cand K A p k := fun q => by have := q.1; omega
        rw [if_pos y1, cnt_f (p := fun i => cand K A p i) nc, no nc]
      · rw [if_neg y1, if_neg (by omega), and_tl (by omega)]
        by_cases y2 : p < A (k : Int)
        · have z : cand K A p k := ⟨by omega, y2⟩
          have ho : ∀ s : Int, inC (k : Int) s → S s = k := fun s hs => (w.2.2.2 s hs.1.1 hs.1.2).trans (P.2 _ s hn y hs)
          rw [if_pos y2, e_m_doPart hE hc (by rw [eA]; exact cw_A w _ hn.1 hn.2), w32_of (x := cnt (fun i => cand K A p i) k + 1) (by omega) (by omega), cnt_t (p := fun i => cand K A p i) z, dT_step hc.1 kd, dA_step n2, dK2_step, dG_step n2, dX_step, dO_step hc ho, sD_up (lo' := 0) (hi' := ((k + 1 : Nat) : Int)) z (fun j => by omega)]
        · have nc : ¬ cand K A p k := fun q => y2 q.2
          rw [if_neg y2, cnt_f (p := fun i => cand K A p i) nc, no nc]
  · show Ws E (d + 4) mX10_tick Q 123 _ _ _ = _
    rw [b_X10_tick_123 hE, if_neg (by omega)]
    rfl
theorem e_m_above_no {E : PvEnv} (hE : ∀ k, E 50 k = refT 50 k) {d : Nat} {Q : Int → Hp → Prop} {g : Hp} {ov : Int} (hp : g 50 13 < 0) : Ws E d mX10_tick Q 123 [(2, 50), (1, ov), (9, 0), (0, 0), (0, 0), (0, 0), (9, 0)] [] g = Ws E d mX10_tick Q 191 [(2, 50), (1, ov), (9, 0), (0, 0), (0, 0), (0, 79), (9, 0)] [] g := by
  refine (loop_n (P := fun k => Ws E d mX10_tick Q 123 [(2, 50), (1, ov), (9, 0), (0, 0), (0, 0), (0, (k : Int)), (9, 0)] [] g) 80 (fun k hk => ?_)).trans ?_
  · show Ws E d mX10_tick Q 123 _ _ _ = Ws E d mX10_tick Q 123 _ _ _
    rw [b_X10_tick_123 hE, if_pos (by omega), and_tl (by omega), and_tl (by omega), if_pos hp, w32_of (x := (k : Int) + 1) (by omega) (by omega), show (k : Int) + 1 = ((k + 1 : Nat) : Int) by omega]
    split
    · rfl
    · split <;> rfl
  · show Ws E d mX10_tick Q 123 _ _ _ = _
    rw [b_X10_tick_123 hE, if_neg (by omega)]
end MPA
