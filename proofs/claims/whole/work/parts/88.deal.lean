/-! deal: the reference, and both -/
section DEALM
variable {E : PvEnv} {d : Nat} {g : Hp} {w V by' : Int → Int} {N s : Int}
/-- the reference's curve, weights and machines -/
def DM (g : Hp) (w V by' : Int → Int) (N : Int) : Prop := (0 ≤ N ∧ N ≤ 256) ∧ g 50 47 = N ∧ (∀ a : Int, 0 ≤ a → a < N → g 75 a = V a ∧ isN (V a) ∧ (if g 59 (V a) = 4 then 0 else 1) = w a) ∧ ∀ m : Int, 0 ≤ m → m < 6 → (if g 74 m = 1 then 2 else 1) = by' m
theorem DM_w (h : DM g w V by' N) : ∀ i : Int, 0 ≤ i → i < N → w i = 0 ∨ w i = 1 := fun i h0 h1 => by
  rw [← (h.2.2.1 i h0 h1).2.2]
  split <;> simp
theorem DM_by (h : DM g w V by' N) : ∀ m : Int, 0 ≤ m → m < 6 → by' m = 1 ∨ by' m = 2 := fun m h0 h1 => by
  rw [← h.2.2.2 m h0 h1]
  split <;> simp
theorem e_m_deals (hE : ∀ k, E 50 k = refT 50 k) (D : DM g w V by' N) {G : Int → Int} {lim gv : Int} (hl : 0 ≤ lim ∧ lim ≤ 512) (hgv : gv = 0 ∨ gv = 1) : ∀ Q, wpS E (d + 2) mX10_deals [(2, 50), (0, s), (0, lim), (0, gv)] (hrow g 60 G) Q = Q (b2 (plc w N s lim by' 6 = N)) (hrow g 60 (if gv = 0 then G else dlG V w N s lim by' 6 G)) := by
  intro Q
  have DN := D.1
  have k44 : ∀ (f : Nat) (a m b t : Int) (G : Int → Int), 0 ≤ a → a ≤ N → N - a ≤ f → 0 ≤ m → m < 6 → (b = 1 ∨ b = 2) → 0 ≤ t → t ≤ lim → ∃ t' : Int, Ws E (d + 1) mX10_deals Q 44 [(2, 50), (0, s), (0, lim), (0, gv), (0, a), (0, m), (0, b), (0, t)] [] (hrow g 60 G) = Ws E (d + 1) mX10_deals Q 6 [(2, 50), (0, s), (0, lim), (0, gv), (0, a + gk w N b lim f a t), (0, m + 1), (0, b), (0, t')] [] (hrow g 60 (if gv = 0 then G else asg V m (gk w N b lim f a t) a G)) := by
    intro f
    induction f with
    | zero =>
      intro a m b t G a0 a1 af m0 m1 hb t0 t1
      refine ⟨t, ?_⟩
      have x50 : hrow g 60 G 50 = g 50 := hrow_n _ _ (by decide)
      have e : (if gv = 0 then G else asg V m (gk w N b lim 0 a t) a G) = G := by split <;> rfl
      rw [b_X10_deals_44 hE, x50, D.2.1, if_neg (by omega), w32_of (x := m + 1) (by omega) (by omega), e]
      show _ = Ws E (d + 1) mX10_deals Q 6 [(2, 50), (0, s), (0, lim), (0, gv), (0, a + ((0 : Nat) : Int)), (0, m + 1), (0, b), (0, t)] [] (hrow g 60 G)
      rw [show a + ((0 : Nat) : Int) = a by omega]
    | succ f ih =>
      intro a m b t G a0 a1 af m0 m1 hb t0 t1
      have x50 : ∀ {G}, hrow g 60 G 50 = g 50 := hrow_n _ _ (by decide)
      have x75 : ∀ {G}, hrow g 60 G 75 = g 75 := hrow_n _ _ (by decide)
      have x59 : ∀ {G}, hrow g 60 G 59 = g 59 := hrow_n _ _ (by decide)
      have un : gk w N b lim (f + 1) a t = if a < N ∧ t + b * w a ≤ lim then gk w N b lim f (a + 1) (t + b * w a) + 1 else 0 := rfl
      by_cases z : a < N
      · obtain ⟨v1, v2, v3⟩ := D.2.2.1 a a0 z
        have v2' : 0 ≤ V a ∧ V a < 336 := v2
        have wb : 0 ≤ b * w a ∧ b * w a ≤ 2 := by
          have := DM_w D a a0 z
          rcases hb with e | e <;> rcases this with e' | e' <;> rw [e, e'] <;> omega
        have st : Ws E (d + 1) mX10_deals Q 44 [(2, 50), (0, s), (0, lim), (0, gv), (0, a), (0, m), (0, b), (0, t)] [] (hrow g 60 G) = if lim < t + b * w a then Ws E (d + 1) mX10_deals Q 6 [(2, 50), (0, s), (0, lim), (0, gv), (0, a), (0, m + 1), (0, b), (0, t)] [] (hrow g 60 G) else Ws E (d + 1) mX10_deals Q 44 [(2, 50), (0, s), (0, lim), (0, gv), (0, a + 1), (0, m), (0, b), (0, t + b * w a)] [] (hrow g 60 (if gv = 0 then G else up G (V a) m)) := by
          rw [b_X10_deals_44 hE, x50, D.2.1, if_pos z, and_tl (by omega), x75, v1, e_m_weighs hE v2', x59, v3, x75, v1, e_m_weighs hE v2', x59, v3, and_tl (by omega), and_tl (by omega), and_tl (by omega), x75, v1, and_tl v2', and_tl v2', and_tl v2', hst_rr, hst_rr, hrow_s, up_self, w32_of (x := b * w a) (by omega) (by omega), w32_of (x := t + b * w a) (by omega) (by omega), w32_of (x := m + 1) (by omega) (by omega), w32_of (x := a + 1) (by omega) (by omega)]
          by_cases y : lim < t + b * w a
          · rw [if_pos y, if_pos y]
          · rw [if_neg y, if_neg y]
            rcases hgv with e | e
            · rw [if_pos e, if_pos e]
            · rw [if_neg (by omega), if_neg (by omega)]
        by_cases y : t + b * w a ≤ lim
        · obtain ⟨t', e⟩ := ih (a + 1) m b (t + b * w a) (if gv = 0 then G else up G (V a) m) (by omega) (by omega) (by omega) m0 m1 hb (by omega) y
          refine ⟨t', ?_⟩
          rw [st, if_neg (show ¬ lim < t + b * w a by omega), e, un, if_pos (show a < N ∧ t + b * w a ≤ lim from ⟨z, y⟩), show a + ((gk w N b lim f (a + 1) (t + b * w a) + 1 : Nat) : Int) = a + 1 + (gk w N b lim f (a + 1) (t + b * w a) : Int) by omega]
          rcases hgv with q | q
          · rw [if_pos q, if_pos q, if_pos q]
          · rw [if_neg (by omega), if_neg (by omega), if_neg (by omega)]
            rfl
        · refine ⟨t, ?_⟩
          rw [st, if_pos (show lim < t + b * w a by omega), un, if_neg (show ¬ (a < N ∧ t + b * w a ≤ lim) from fun q => y q.2), show a + ((0 : Nat) : Int) = a by omega]
          have e : (if gv = 0 then G else asg V m 0 a G) = G := by split <;> rfl
          rw [e]
      · refine ⟨t, ?_⟩
        have e : (if gv = 0 then G else asg V m 0 a G) = G := by split <;> rfl
        rw [b_X10_deals_44 hE, x50, D.2.1, if_neg z, w32_of (x := m + 1) (by omega) (by omega), un, if_neg (show ¬ (a < N ∧ t + b * w a ≤ lim) from fun q => z q.1), e, show a + ((0 : Nat) : Int) = a by omega]
  have inv := plc_inv (w := w) (N := N) (lim := lim) (set := s) (by' := by') (DM_w D) (DM_by D) D.1 hl.1
  obtain ⟨v, l⟩ := loop_x (α := PV × PV) (P := fun v m => Ws E (d + 1) mX10_deals Q 6 [(2, 50), (0, s), (0, lim), (0, gv), (0, plc w N s lim by' m), (0, (m : Int)), v.1, v.2] [] (hrow g 60 (if gv = 0 then G else dlG V w N s lim by' m G))) 6 ((9, 0), (9, 0)) (by
    intro v m hm
    have i1 := (inv m (by omega)).1
    have bm := D.2.2.2 m (by omega) (by omega)
    have b12 := DM_by D m (by omega) (by omega)
    have up1 : plc w N s lim by' (m + 1) = if bitI s m then plc w N s lim by' m + gk w N (by' m) lim 256 (plc w N s lim by' m) 0 else plc w N s lim by' m := rfl
    have up2 : dlG V w N s lim by' (m + 1) G = if bitI s m then asg V m (gk w N (by' m) lim 256 (plc w N s lim by' m) 0) (plc w N s lim by' m) (dlG V w N s lim by' m G) else dlG V w N s lim by' m G := rfl
    by_cases z : bitI s m
    · obtain ⟨t', e⟩ := k44 256 (plc w N s lim by' m) m (by' m) 0 (if gv = 0 then G else dlG V w N s lim by' m G) i1.1 i1.2 (by omega) (by omega) (by omega) b12 (Int.le_refl _) hl.1
      refine ⟨((0, by' m), (0, t')), ?_⟩
      have x74 : ∀ {G}, hrow g 60 G 74 = g 74 := hrow_n _ _ (by decide)
      have e6 : Ws E (d + 1) mX10_deals Q 6 [(2, 50), (0, s), (0, lim), (0, gv), (0, plc w N s lim by' m), (0, (m : Int)), v.1, v.2] [] (hrow g 60 (if gv = 0 then G else dlG V w N s lim by' m G)) = Ws E (d + 1) mX10_deals Q 44 [(2, 50), (0, s), (0, lim), (0, gv), (0, plc w N s lim by' m), (0, (m : Int)), (0, by' m), (0, 0)] [] (hrow g 60 (if gv = 0 then G else dlG V w N s lim by' m G)) := by
        rw [b_X10_deals_6 hE, if_pos (by omega), if_pos z, and_tl (by omega), x74]
        by_cases y : g 74 (m : Int) = 1
        · rw [if_pos y] at bm
          rw [if_pos y, ← bm]
        · rw [if_neg y] at bm
          rw [if_neg y, ← bm]
      refine e6.trans (e.trans ?_)
      show _ = Ws E (d + 1) mX10_deals Q 6 [(2, 50), (0, s), (0, lim), (0, gv), (0, plc w N s lim by' (m + 1)), (0, ((m + 1 : Nat) : Int)), (0, by' m), (0, t')] [] (hrow g 60 (if gv = 0 then G else dlG V w N s lim by' (m + 1) G))
      rw [up1, up2, if_pos z, if_pos z, show ((m + 1 : Nat) : Int) = (m : Int) + 1 by omega]
      rcases hgv with q | q
      · rw [if_pos q, if_pos q, if_pos q]
      · rw [if_neg (by omega), if_neg (by omega), if_neg (by omega)]
    · refine ⟨v, ?_⟩
      rw [b_X10_deals_6 hE, if_pos (by omega), if_neg z, w32_n1 (by omega), up1, up2, if_neg z, if_neg z])
  have e0 : (if gv = 0 then G else dlG V w N s lim by' 0 G) = G := by split <;> rfl
  rw [e0] at l
  rw [u_X10_deals hE]
  refine l.trans ?_
  have x50 : ∀ {G}, hrow g 60 G 50 = g 50 := hrow_n _ _ (by decide)
  show Ws E (d + 1) mX10_deals Q 6 [(2, 50), (0, s), (0, lim), (0, gv), (0, plc w N s lim by' 6), (0, ((6 : Nat) : Int)), v.1, v.2] [] _ = _
  rw [b_X10_deals_6 hE, if_neg (by decide), x50, D.2.1]
  by_cases z : plc w N s lim by' 6 = N
  · rw [if_pos z, b2_t z]
  · rw [if_neg z, b2_f z]
/-- the least limit that greed needs -/
theorem e_m_deal54 (hE : ∀ k, E 50 k = refT 50 k) {S : Int → Int} (D : DM g w V (slw S) N) {G : Int → Int} (hs : 1 ≤ s ∧ s ≤ 63) : ∀ Q, Ws E (d + 2) mX10_deal Q 54 [(2, 50), (0, s), (0, 0), (9, 0)] [] (hrow g 60 G) = Q (lmt s (pw w N) S) (hrow g 60 (dlG V w N s (lmt s (pw w N) S) (slw S) 6 G)) := by
  intro Q
  have pN : pw w N ≤ 256 := by
    have := sm_b (f := w) (lo := 0) (hi := 1) N.toNat (fun j hj => by
      have := DM_w D j (by omega) (by have := D.1; omega)
      omega)
    have := D.1
    unfold pw
    omega
  obtain ⟨j, j1, j2⟩ := set_some hs
  have r512 : pw w N ≤ rom s (slw S) 512 6 := by
    have := rom_j (set := s) (lim := 512) (slw_b S) (by decide) j2 6 j1 (Nat.le_refl _)
    omega
  have key : ∀ (k : Nat) (a : Int), 0 ≤ a → a + k = 512 → Ws E (d + 2) mX10_deal Q 54 [(2, 50), (0, s), (0, a), (9, 0)] [] (hrow g 60 G) = Q (fst1 (fun l => pw w N ≤ rom s (slw S) l 6) k a) (hrow g 60 (dlG V w N s (fst1 (fun l => pw w N ≤ rom s (slw S) l 6) k a) (slw S) 6 G)) := by
    have stop : ∀ a : Int, 0 ≤ a → a ≤ 512 → pw w N ≤ rom s (slw S) a 6 → Ws E (d + 2) mX10_deal Q 54 [(2, 50), (0, s), (0, a), (9, 0)] [] (hrow g 60 G) = Q a (hrow g 60 (dlG V w N s a (slw S) 6 G)) := by
      intro a a0 a1 hp
      have pe := (plc_end (set := s) (lim := a) (DM_w D) (DM_by D) D.1 a0 ⟨j, j1, j2⟩).mpr hp
      rw [b_X10_deal_54 hE, e_m_deals hE D ⟨a0, a1⟩ (Or.inl rfl), b2_t pe, if_neg (by decide), if_pos rfl, e_m_deals hE D ⟨a0, a1⟩ (Or.inr rfl), if_neg (by decide)]
    intro k
    induction k with
    | zero =>
      intro a a0 ha
      have e : a = 512 := by omega
      subst e
      exact stop 512 (by decide) (by decide) r512
    | succ k ih =>
      intro a a0 ha
      have un : fst1 (fun l => pw w N ≤ rom s (slw S) l 6) (k + 1) a = if pw w N ≤ rom s (slw S) a 6 then a else fst1 (fun l => pw w N ≤ rom s (slw S) l 6) k (a + 1) := rfl
      rw [un]
      by_cases z : pw w N ≤ rom s (slw S) a 6
      · rw [if_pos z]
        exact stop a a0 (by omega) z
      · have pe : ¬ plc w N s a (slw S) 6 = N := fun q => z ((plc_end (set := s) (lim := a) (DM_w D) (DM_by D) D.1 a0 ⟨j, j1, j2⟩).mp q)
        rw [if_neg z, b_X10_deal_54 hE, e_m_deals hE D ⟨a0, by omega⟩ (Or.inl rfl), b2_f pe, if_pos rfl, if_pos rfl, w32_of (x := a + 1) (by omega) (by omega)]
        exact ih (a + 1) (by omega) (by omega)
  exact key 512 0 (by decide) (by decide)
end DEALM
theorem asg_inv {K V : Int → Int} {m : Int} (hm : rMa m) : ∀ (k : Nat) (a : Int) (G G' : Int → Int), (∀ c : Int, 0 ≤ c → c < 336 → rMa (G c) ∧ rMa (G' c) ∧ (K c ≠ -1 → G' c = G c)) → ∀ c : Int, 0 ≤ c → c < 336 → rMa (asg V m k a G c) ∧ rMa (asg V m k a G' c) ∧ (K c ≠ -1 → asg V m k a G' c = asg V m k a G c)
  | 0, _, _, _, h => h
  | k + 1, a, G, G', h => asg_inv hm k (a + 1) (up G (V a) m) (up G' (V a) m) (fun c c0 c1 => by
    have q := h c c0 c1
    by_cases z : c = V a
    · rw [z, up_s, up_s]
      exact ⟨hm, hm, fun _ => rfl⟩
    · rw [up_n _ _ z, up_n _ _ z]
      exact q)
theorem dlG_inv {K V w by' : Int → Int} {N s lim : Int} : ∀ (m : Nat) (G G' : Int → Int), m ≤ 6 → (∀ c : Int, 0 ≤ c → c < 336 → rMa (G c) ∧ rMa (G' c) ∧ (K c ≠ -1 → G' c = G c)) → ∀ c : Int, 0 ≤ c → c < 336 → rMa (dlG V w N s lim by' m G c) ∧ rMa (dlG V w N s lim by' m G' c) ∧ (K c ≠ -1 → dlG V w N s lim by' m G' c = dlG V w N s lim by' m G c)
  | 0, _, _, _, h => h
  | m + 1, G, G', hm, h => by
    have ih := dlG_inv (V := V) (w := w) (by' := by') (N := N) (s := s) (lim := lim) m G G' (by omega) h
    intro c c0 c1
    have u : ∀ G, dlG V w N s lim by' (m + 1) G = if bitI s m then asg V m (gk w N (by' m) lim 256 (plc w N s lim by' m) 0) (plc w N s lim by' m) (dlG V w N s lim by' m G) else dlG V w N s lim by' m G := fun _ => rfl
    rw [u, u]
    by_cases z : bitI s m
    · rw [if_pos z, if_pos z]
      exact asg_inv ⟨by omega, by omega⟩ _ _ _ _ ih c c0 c1
    · rw [if_neg z, if_neg z]
      exact ih c c0 c1
theorem e_m_deal {n : Int} {g : Hp} {s : Int} (hs : 1 ≤ s ∧ s ≤ 63) : ∀ Q, wpS (EF n) 9 mX10_deal [(2, 50), (0, s)] g Q = if fst1 (fun m => bitI s m ∧ g 74 m = 4) 6 0 = 6 then wpS (EF n) 8 mX10_setCurve [(2, 50)] g (fun _ h1 => Ws (EF n) 8 mX10_deal Q 54 [(2, 50), (0, s), (0, 0), (9, 0)] [] h1) else Q (-4) g := by
  intro Q
  have key : ∀ (k : Nat) (a : Int), 0 ≤ a → a + k = 6 → Ws (EF n) 8 mX10_deal Q 14 [(2, 50), (0, s), (0, a), (9, 0)] [] g = if fst1 (fun m => bitI s m ∧ g 74 m = 4) k a = 6 then wpS (EF n) 8 mX10_setCurve [(2, 50)] g (fun _ h1 => Ws (EF n) 8 mX10_deal Q 54 [(2, 50), (0, s), (0, 0), (9, 0)] [] h1) else Q (-4) g := by
    intro k
    induction k with
    | zero =>
      intro a a0 ha
      show _ = if a = 6 then _ else _
      rw [b_X10_deal_14 (EF_50 n), if_neg (by omega), if_pos (show a = 6 by omega)]
    | succ k ih =>
      intro a a0 ha
      show _ = if (if bitI s a ∧ g 74 a = 4 then a else fst1 (fun m => bitI s m ∧ g 74 m = 4) k (a + 1)) = 6 then _ else _
      rw [b_X10_deal_14 (EF_50 n), if_pos (by omega), w32_of (x := a + 1) (by omega) (by omega), ih (a + 1) (by omega) (by omega)]
      by_cases z1 : bitI s a
      · rw [if_pos z1, and_tl (by omega)]
        by_cases z2 : g 74 a = 4
        · rw [if_pos z2, if_pos (show bitI s a ∧ g 74 a = 4 from ⟨z1, z2⟩), if_neg (show ¬ a = 6 by omega)]
        · rw [if_neg z2, if_neg (show ¬ (bitI s a ∧ g 74 a = 4) from fun q => z2 q.2)]
      · rw [if_neg z1, if_neg (show ¬ (bitI s a ∧ g 74 a = 4) from fun q => z1 q.1)]
  rw [u_X10_deal (EF_50 n), e_m_in, b2_if, if_pos hs]
  exact key 6 0 (by decide) (by decide)
theorem p_deal {n s : Int} : Pr n mX9_deal mX10_deal [(0, s)] := by
  intro h hC
  have hC0 := hC
  by_cases z : 1 ≤ s ∧ s ≤ 63
  · have c11 := hC.2.2.2.2.2.2.2.2.2.2.1
    have ef : fst1 (fun m => bitI s m ∧ h 74 m = 4) 6 0 = fst1 (fun m => bitI s m ∧ h 31 m = 4) 6 0 := fst1_c 6 0 (fun j h1 h2 => by rw [(c11 j (by omega) (by omega)).1])
    by_cases y : fst1 (fun m => bitI s m ∧ h 31 m = 4) 6 0 = 6
    · obtain ⟨h', r1, r2, r3, r4⟩ := e_refresh (n := n) hC
      have hC' := r2
      obtain ⟨c1, c2, c3, c4, c5, c6, c7, c8, c9, c10, c11, c12, c13, c14, c15⟩ := r2
      have o1 := (c8.2 r3).2
      have P := c7.2.2.1
      have x31 : h' 31 = h 31 := r4 31 (by decide) (by decide)
      have x74 : h' 74 = h 74 := r4 74 (by decide) (by decide)
      have x := fun Q => e_shareOut (n := n) (d := 4) (Q := Q) (s := s) P o1
      generalize hlim : lmt s (pw (wC (h' 12) (h' 25)) (h' 20 6)) (h' 31) = lim at x
      generalize hG1 : dlG (h' 25) (wC (h' 12) (h' 25)) (h' 20 6) s lim (slw (h' 31)) 6 (h' 14) = G1 at x
      obtain ⟨m, V, o2, e2⟩ := e_m_setCurve (d := 5) (h := hrow h' 14 G1) (EF_50 n) (cw_S c7)
      obtain ⟨em, eV⟩ := ord_eq o1 (ord_c c7.2.2.2 o2)
      have mb := ord_m o1
      have DD : DM (hrow (hst (hrow h' 14 G1) 50 47 m) 75 V) (wC (h' 12) (h' 25)) (h' 25) (slw (h' 31)) (h' 20 6) := by
        refine ⟨mb, ?_, fun a a0 a1 => ?_, fun k k0 k1 => ?_⟩
        · rw [hrow_n _ _ (by decide), hst_s]; exact em
        · obtain ⟨q1, q2⟩ := ord_at P o1 a0 a1
          refine ⟨by rw [hrow_s]; exact eV a a0 a1, q1, ?_⟩
          show (if h' 59 (h' 25 a) = 4 then 0 else 1) = wC (h' 12) (h' 25) a
          rw [(cw_e c7 q1 q2).1]
          rfl
        · show (if h' 74 k = 1 then 2 else 1) = slw (h' 31) k
          rw [(c11 k k0 k1).1]
          rfl
      have q54 := fun Q => e_m_deal54 (E := EF n) (d := 6) (G := h' 60) (EF_50 n) DD z Q
      have e60 : hrow (hrow (hst (hrow h' 14 G1) 50 47 m) 75 V) 60 (h' 60) = hrow (hst (hrow h' 14 G1) 50 47 m) 75 V := hrow_self _ 60
      rw [e60, hlim] at q54
      refine ⟨lim, hrow h' 14 G1, hrow (hrow (hst (hrow h' 14 G1) 50 47 m) 75 V) 60 (dlG (h' 25) (wC (h' 12) (h' 25)) (h' 20 6) s lim (slw (h' 31)) 6 (h' 60)), fun Q => ?_, fun Q => ?_, ?_⟩
      · rw [u_X9_deal, if_neg (by omega), if_pos (by omega), e_hasSpareIn, if_pos y, if_pos rfl, r1, x]
      · have y' : fst1 (fun m => bitI s m ∧ hrow h' 14 G1 74 m = 4) 6 0 = 6 := by
          show fst1 (fun m => bitI s m ∧ h' 74 m = 4) 6 0 = 6
          rw [x74, ef]
          exact y
        rw [e_m_deal z, if_pos y', e2, q54]
      · have inv := dlG_inv (K := h' 12) (V := h' 25) (w := wC (h' 12) (h' 25)) (by' := slw (h' 31)) (N := h' 20 6) (s := s) (lim := lim) 6 (h' 14) (h' 60) (Nat.le_refl _) (fun c q0 q1 => by
          obtain ⟨⟨a1, a2, a3, a4⟩, -⟩ := c7.2.1 c q0 q1
          exact ⟨a3.2.2.1, a3.2.2.2, fun k => (a4 k).2.2⟩)
        rw [hG1] at inv
        unfold Cpl
        simp only [hst_at, hrow_at, up_at, Int.reduceEq, if_true, if_false, reduceIte]
        refine ⟨c1, c2, c3, c4, c5, c6, ?_, c8, c9, c10, c11, c12, c13, c14, c15⟩
        refine ⟨c7.1, fun c q0 q1 => ?_, c7.2.2⟩
        obtain ⟨⟨a1, a2, a3, a4⟩, a5⟩ := c7.2.1 c q0 q1
        obtain ⟨i1, i2, i3⟩ := inv c q0 q1
        exact ⟨⟨a1, a2, ⟨a3.1, a3.2.1, i1, i2⟩, fun k => ⟨(a4 k).1, (a4 k).2.1, i3 k⟩⟩, a5⟩
    · refine ⟨-4, h, h, fun Q => ?_, fun Q => ?_, hC0⟩
      · rw [u_X9_deal, if_neg (by omega), if_pos (by omega), e_hasSpareIn, if_neg y, if_neg (by decide)]
      · rw [e_m_deal z, ef, if_neg y]
  · refine ⟨-1, h, h, fun Q => ?_, fun Q => ?_, hC0⟩
    · rw [u_X9_deal]
      by_cases w : s < 1
      · rw [if_pos w]
      · rw [if_neg w, if_neg (by omega)]
    · rw [u_X10_deal (EF_50 n), e_m_in, b2_if, if_neg z]
