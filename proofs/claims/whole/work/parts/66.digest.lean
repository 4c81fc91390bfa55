/-! digest -/
def mix (a v : Int) : Int := w64 (w64 (31 * a) + v)
def fr (g : Int → Int → Int) : Nat → Int → Int
  | 0, a => a
  | k + 1, a => g (fr g k a) k
theorem fr_c {g g' : Int → Int → Int} : ∀ (k : Nat) (a : Int), (∀ j : Nat, j < k → ∀ a, g a j = g' a j) → fr g k a = fr g' k a
  | 0, _, _ => rfl
  | k + 1, a, h => by
    show g (fr g k a) k = g' (fr g' k a) k
    rw [fr_c k a (fun j hj => h j (by omega)), h k (by omega)]
theorem fr_loop {P : Int → Int → Prop} (g : Int → Int → Int) (N : Nat) (a0 : Int) (hs : ∀ (k : Nat) (a : Int), k < N → P a k = P (g a k) ((k + 1 : Nat) : Int)) : P a0 0 = P (fr g N a0) N :=
  loop_n (P := fun k => P (fr g k a0) k) N (fun k hk => hs k (fr g k a0) hk)
def gW (p : Int → Prop) [DecidablePred p] (K A G : Int → Int) : Int → Int → Int := fun a c => if p c then mix (mix (mix (mix a c) (K c)) (A c)) (G c) else a
def gS (s p : Int → Int) : Int → Int → Int := fun a r => fr (fun a i => mix a (p (40 * r + i))) (s r).toNat (mix a (s r))
def dg (C : Int → Int) (g : Int → Int → Int) (S : Int → Int) (n m o pm jm lv pu : Int) (ga gb : Int → Int → Int) : Int :=
  fr gb 4 (fr ga 6 (mix (mix (mix (mix (mix (mix (mix (fr (fun a m => mix a (S m)) 6 (fr g 336 (fr (fun a w => mix a (C w)) 9 17))) n) m) o) pm) jm) lv) pu))
theorem e_w_fold {E : PvEnv} (hE : ∀ k, E 11 k = refT 11 k) {d : Nat} {Q : Int → Hp → Prop} {h : Hp} {a : Int} : wpS E (d + 3) mX8_fold [(2, 11), (1, a)] h Q = Q (fr (gW (fun c => h 12 c ≠ -1) (h 12) (h 13) (h 14)) 336 a) h := by
  rw [u_X8_fold hE]
  have l := fr_loop (P := fun x k => Ws E (d + 2) mX8_fold Q 5 [(2, 11), (1, a), (9, 0), (1, x), (9, 0), (0, k)] [] h) (gW (fun c => h 12 c ≠ -1) (h 12) (h 13) (h 14)) 336 a (by
    intro k x hk
    show Ws E (d + 2) mX8_fold Q 5 [(2, 11), (1, a), (9, 0), (1, x), (9, 0), (0, (k : Int))] [] h = _
    rw [b_X8_fold_5 hE, if_pos (by omega), e_w_isThere hE, b2_if, w32_n1 (by omega)]
    unfold gW
    by_cases z : h 12 (k : Int) = -1
    · rw [if_neg (fun q => q.2 z), if_neg (fun q => q z)]
    · rw [if_pos (show (0 ≤ (k : Int) ∧ (k : Int) < 336) ∧ h 12 (k : Int) ≠ -1 from ⟨by omega, z⟩), and_tl (by omega), and_tl (by omega), and_tl (by omega), if_pos z]
      rfl)
  refine l.trans ?_
  show Ws E (d + 2) mX8_fold Q 5 [(2, 11), (1, a), (9, 0), (1, _), (9, 0), (0, ((336 : Nat) : Int))] [] h = _
  rw [b_X8_fold_5 hE, if_neg (by decide)]
theorem e_fold_a {n : Int} {d : Nat} {Q : Int → Hp → Prop} {h : Hp} {a : Int} (hs : SzOK 6 (h 2)) : wpS (EF n) (d + 5) mX7_fold [(2, 1), (1, a)] h Q = Q (fr (gS (h 2) (h 3)) 6 a) h := by
  rw [u_X7_fold_a]
  have inner : ∀ (r : Nat) (x : Int), r < 6 → Ws (EF n) (d + 4) mX7_fold Q 33 [(2, 1), (1, a), (9, 0), (1, x), (9, 0), (0, (r : Int)), (0, 0)] [] h = Ws (EF n) (d + 4) mX7_fold Q 5 [(2, 1), (1, a), (9, 0), (1, fr (fun a i => mix a (h 3 (40 * (r : Int) + i))) (h 2 r).toNat x), (9, 0), (0, ((r + 1 : Nat) : Int)), (0, (((h 2 r).toNat : Nat) : Int))] [] h := by
    intro r x hr
    have hz := hs r (by omega) (by omega)
    have l := fr_loop (P := fun x k => Ws (EF n) (d + 4) mX7_fold Q 33 [(2, 1), (1, a), (9, 0), (1, x), (9, 0), (0, (r : Int)), (0, k)] [] h) (fun a i => mix a (h 3 (40 * (r : Int) + i))) (h 2 r).toNat x (by
      intro k x hk
      show Ws (EF n) (d + 4) mX7_fold Q 33 [(2, 1), (1, a), (9, 0), (1, x), (9, 0), (0, (r : Int)), (0, (k : Int))] [] h = _
      rw [b_X7_fold_a_33, and_tl (by omega), if_pos (by omega), e_get_a hs (by unfold in32; omega), if_pos (by omega), w32_n1 (by omega)]
      rfl)
    refine l.trans ?_
    show Ws (EF n) (d + 4) mX7_fold Q 33 [(2, 1), (1, a), (9, 0), (1, _), (9, 0), (0, (r : Int)), (0, _)] [] h = _
    rw [b_X7_fold_a_33, and_tl (by omega), if_neg (by omega), w32_n1 (by omega)]
  obtain ⟨v, l⟩ := loop_v (P := fun v k => Ws (EF n) (d + 4) mX7_fold Q 5 [(2, 1), (1, a), (9, 0), (1, fr (gS (h 2) (h 3)) k a), (9, 0), (0, (k : Int)), v] [] h) 6 (9, 0) (by
    intro v k hk
    exact ⟨_, by rw [b_X7_fold_a_5, if_pos (by omega), and_tl (by omega), inner k _ hk]; rfl⟩)
  refine l.trans ?_
  show Ws (EF n) (d + 4) mX7_fold Q 5 [(2, 1), (1, a), (9, 0), (1, _), (9, 0), (0, ((6 : Nat) : Int)), v] [] h = _
  rw [b_X7_fold_a_5, if_neg (by decide)]
theorem e_fold_b {n : Int} {d : Nat} {Q : Int → Hp → Prop} {h : Hp} {a : Int} (hs : SzOK 4 (h 5)) : wpS (EF n) (d + 5) mX7_fold [(2, 4), (1, a)] h Q = Q (fr (gS (h 5) (h 6)) 4 a) h := by
  rw [u_X7_fold_b]
  have inner : ∀ (r : Nat) (x : Int), r < 4 → Ws (EF n) (d + 4) mX7_fold Q 33 [(2, 4), (1, a), (9, 0), (1, x), (9, 0), (0, (r : Int)), (0, 0)] [] h = Ws (EF n) (d + 4) mX7_fold Q 5 [(2, 4), (1, a), (9, 0), (1, fr (fun a i => mix a (h 6 (40 * (r : Int) + i))) (h 5 r).toNat x), (9, 0), (0, ((r + 1 : Nat) : Int)), (0, (((h 5 r).toNat : Nat) : Int))] [] h := by
    intro r x hr
    have hz := hs r (by omega) (by omega)
    have l := fr_loop (P := fun x k => Ws (EF n) (d + 4) mX7_fold Q 33 [(2, 4), (1, a), (9, 0), (1, x), (9, 0), (0, (r : Int)), (0, k)] [] h) (fun a i => mix a (h 6 (40 * (r : Int) + i))) (h 5 r).toNat x (by
      intro k x hk
      show Ws (EF n) (d + 4) mX7_fold Q 33 [(2, 4), (1, a), (9, 0), (1, x), (9, 0), (0, (r : Int)), (0, (k : Int))] [] h = _
      rw [b_X7_fold_b_33, and_tl (by omega), if_pos (by omega), e_get_b hs (by unfold in32; omega), if_pos (by omega), w32_n1 (by omega)]
      rfl)
    refine l.trans ?_
    show Ws (EF n) (d + 4) mX7_fold Q 33 [(2, 4), (1, a), (9, 0), (1, _), (9, 0), (0, (r : Int)), (0, _)] [] h = _
    rw [b_X7_fold_b_33, and_tl (by omega), if_neg (by omega), w32_n1 (by omega)]
  obtain ⟨v, l⟩ := loop_v (P := fun v k => Ws (EF n) (d + 4) mX7_fold Q 5 [(2, 4), (1, a), (9, 0), (1, fr (gS (h 5) (h 6)) k a), (9, 0), (0, (k : Int)), v] [] h) 4 (9, 0) (by
    intro v k hk
    exact ⟨_, by rw [b_X7_fold_b_5, if_pos (by omega), and_tl (by omega), inner k _ hk]; rfl⟩)
  refine l.trans ?_
  show Ws (EF n) (d + 4) mX7_fold Q 5 [(2, 4), (1, a), (9, 0), (1, _), (9, 0), (0, ((4 : Nat) : Int)), v] [] h = _
  rw [b_X7_fold_b_5, if_neg (by decide)]
theorem x_digest {n : Int} {d : Nat} {Q : Int → Hp → Prop} {h : Hp} (h2 : SzOK 6 (h 2)) (h5 : SzOK 4 (h 5)) : wpS (EF n) (d + 6) mX9_digest [(2, 0)] h Q = Q (dg (cX h) (gW (fun c => h 12 c ≠ -1) (h 12) (h 13) (h 14)) (h 31) (h 7 0) (h 7 1) (h 7 2) (h 7 3) (h 7 4) (h 26 6) (h 26 7) (gS (h 2) (h 3)) (gS (h 5) (h 6))) h := by
  rw [u_X9_digest]
  have l := fr_loop (P := fun x k => Ws (EF n) (d + 5) mX9_digest Q 6 [(2, 0), (1, x), (9, 0), (0, k)] [] h) (fun a w => mix a (cX h w)) 9 17 (by
    intro k x hk
    show Ws (EF n) (d + 5) mX9_digest Q 6 [(2, 0), (1, x), (9, 0), (0, (k : Int))] [] h = _
    rw [b_X9_digest_6, if_neg (by omega), e_count, w32_n1 (by omega)]
    rfl)
  refine l.trans ?_
  show Ws (EF n) (d + 5) mX9_digest Q 6 [(2, 0), (1, _), (9, 0), (0, ((9 : Nat) : Int))] [] h = _
  rw [b_X9_digest_6, if_pos (by decide), e_w_fold (EF_11 n)]
  have l2 := fr_loop (P := fun x k => Ws (EF n) (d + 5) mX9_digest Q 42 [(2, 0), (1, x), (9, 0), (0, k)] [] h) (fun a m => mix a (h 31 m)) 6 (fr (gW (fun c => h 12 c ≠ -1) (h 12) (h 13) (h 14)) 336 (fr (fun a w => mix a (cX h w)) 9 17)) (by
    intro k x hk
    show Ws (EF n) (d + 5) mX9_digest Q 42 [(2, 0), (1, x), (9, 0), (0, (k : Int))] [] h = _
    rw [b_X9_digest_42, if_pos (by omega), and_tl (by omega), w32_n1 (by omega)]
    rfl)
  refine l2.trans ?_
  show Ws (EF n) (d + 5) mX9_digest Q 42 [(2, 0), (1, _), (9, 0), (0, ((6 : Nat) : Int))] [] h = _
  rw [b_X9_digest_42, if_neg (by decide), u_X4_fold, e_fold_a h2, e_fold_b h5]
  rfl
theorem hst_2 (h : Hp) (a i v w : Int) : hst (hst h a i v) a i w = hst h a i w := by
  funext b j
  unfold hst
  by_cases z : b = a ∧ j = i
  · rw [if_pos z, if_pos z]
  · rw [if_neg z, if_neg z, if_neg z]
theorem hst_s (h : Hp) (a i v : Int) : hst h a i v a i = v := if_pos ⟨rfl, rfl⟩
theorem hst_o (h : Hp) (a : Int) {i j : Int} (v : Int) (hn : j ≠ i) : hst h a i v a j = h a j := if_neg (fun q => hn q.2)
theorem e_m_mix {E : PvEnv} (hE : ∀ k, E 50 k = refT 50 k) {d : Nat} {Q : Int → Hp → Prop} {h : Hp} {a v : Int} : wpS E (d + 1) mX10_mix [(2, 50), (1, v)] (hst h 50 62 a) Q = Q 0 (hst h 50 62 (mix a v)) := by
  rw [u_X10_mix hE, hst_2, hst_s]
  rfl
theorem cM_62 (h : Hp) (a w : Int) : cM (hst h 50 62 a) w = cM h w := by
  have e1 : hst h 50 62 a 57 = h 57 := hst_off h (by decide)
  have e2 : hst h 50 62 a 59 = h 59 := hst_off h (by decide)
  have e3 : hst h 50 62 a 74 = h 74 := hst_off h (by decide)
  have e4 : hst h 50 62 a 81 = h 81 := hst_off h (by decide)
  have e5 : hst h 50 62 a 52 = h 52 := hst_off h (by decide)
  have e6 : hst h 50 62 a 55 = h 55 := hst_off h (by decide)
  have e7 : hst h 50 62 a 50 28 = h 50 28 := hst_o h 50 a (by decide)
  have e8 : ∀ q, ofK (hst h 50 62 a) q = ofK h q := fun q => by funext c; unfold ofK; rw [e1, e2]
  have e9 : ∀ q k, cnt (ofK (hst h 50 62 a) q) k = cnt (ofK h q) k := fun q k => cnt_c k (fun j _ => by rw [e8])
  unfold cM
  rw [e3, e4, e5, e6, e7, e9, e9, e9, e9]
def mneg (x : Int) : Int := if x < 0 then -1 else x
def gT (s p : Int → Int) : Int → Int → Int := fun a r => fr (fun a i => mix a (p (40 * r + i))) (s r).toNat (mix a (mneg (s r)))
theorem e_m_digest {E : PvEnv} (hE : ∀ k, E 50 k = refT 50 k) {d : Nat} {Q : Int → Hp → Prop} {h : Hp} (z52 : ∀ r : Int, 0 ≤ r → r < 6 → -9 ≤ h 52 r ∧ h 52 r ≤ 40) (z55 : ∀ r : Int, 0 ≤ r → r < 4 → -9 ≤ h 55 r ∧ h 55 r ≤ 40) : ∃ v, v = dg (cM h) (gW (fun c => h 57 c ≠ 0) (h 59) (h 58) (h 60)) (h 74) (h 50 10) (h 50 11) (h 50 12) (mneg (h 50 13)) (mneg (h 50 14)) (h 50 43) (h 50 44) (gT (h 52) (h 53)) (gT (h 55) (h 56)) ∧ wpS E (d + 4) mX10_digest [(2, 50)] h Q = Q v (hst h 50 62 v) := by
  refine ⟨_, rfl, ?_⟩
  rw [u_X10_digest hE]
  have i242 : ∀ (r : Nat) (x : Int), r < 6 → Ws E (d + 3) mX10_digest Q 242 [(2, 50), (0, (r : Int)), (0, 0)] [] (hst h 50 62 x) = Ws E (d + 3) mX10_digest Q 208 [(2, 50), (0, ((r + 1 : Nat) : Int)), (0, (((h 52 r).toNat : Nat) : Int))] [] (hst h 50 62 (fr (fun a i => mix a (h 53 (40 * (r : Int) + i))) (h 52 r).toNat x)) := by
    intro r x hr
    have hz := z52 r (by omega) (by omega)
    have e : ∀ x, hst h 50 62 x 52 = h 52 := fun x => hst_off h (by decide)
    have e' : ∀ x, hst h 50 62 x 53 = h 53 := fun x => hst_off h (by decide)
    have l := fr_loop (P := fun x k => Ws E (d + 3) mX10_digest Q 242 [(2, 50), (0, (r : Int)), (0, k)] [] (hst h 50 62 x)) (fun a i => mix a (h 53 (40 * (r : Int) + i))) (h 52 r).toNat x (by
      intro k x hk
      show Ws E (d + 3) mX10_digest Q 242 [(2, 50), (0, (r : Int)), (0, (k : Int))] [] (hst h 50 62 x) = _
      rw [b_X10_digest_242 hE, e, e', and_tl (by omega), if_pos (by omega), ix_m (by omega) (by omega) (by omega) (by omega), and_tl (by omega), e_m_mix hE, w32_n1 (by omega)])
    refine l.trans ?_
    show Ws E (d + 3) mX10_digest Q 242 [(2, 50), (0, (r : Int)), (0, _)] [] (hst h 50 62 _) = _
    rw [b_X10_digest_242 hE, e, and_tl (by omega), if_neg (by omega), w32_n1 (by omega)]
  have o208 : ∀ (v : PV) (x : Int), ∃ v', Ws E (d + 3) mX10_digest Q 208 [(2, 50), (0, 0), v] [] (hst h 50 62 x) = Ws E (d + 3) mX10_digest Q 208 [(2, 50), (0, ((6 : Nat) : Int)), v'] [] (hst h 50 62 (fr (gT (h 52) (h 53)) 6 x)) := by
    intro v x
    have e : ∀ x, hst h 50 62 x 52 = h 52 := fun x => hst_off h (by decide)
    refine loop_v (P := fun v k => Ws E (d + 3) mX10_digest Q 208 [(2, 50), (0, (k : Int)), v] [] (hst h 50 62 (fr (gT (h 52) (h 53)) k x))) 6 v (fun v k hk => ⟨(0, (((h 52 k).toNat : Nat) : Int)), ?_⟩)
    show Ws E (d + 3) mX10_digest Q 208 [(2, 50), (0, (k : Int)), v] [] (hst h 50 62 _) = Ws E (d + 3) mX10_digest Q 208 [(2, 50), (0, ((k + 1 : Nat) : Int)), _] [] (hst h 50 62 (fr (fun a i => mix a (h 53 (40 * (k : Int) + i))) (h 52 k).toNat (mix (fr (gT (h 52) (h 53)) k x) (mneg (h 52 k)))))
    rw [b_X10_digest_208 hE, e, if_pos (by omega), and_tl (by omega), and_tl (by omega), b_X10_digest_237 hE, b_X10_digest_237 hE, e_m_mix hE, e_m_mix hE, i242 k _ hk, i242 k _ hk]
    unfold mneg
    by_cases z : h 52 (k : Int) < 0
    · rw [if_pos z, if_pos z]
    · rw [if_neg z, if_neg z]
  have i315 : ∀ (r : Nat) (x : Int), r < 4 → Ws E (d + 3) mX10_digest Q 315 [(2, 50), (0, (r : Int)), (0, 0)] [] (hst h 50 62 x) = Ws E (d + 3) mX10_digest Q 282 [(2, 50), (0, ((r + 1 : Nat) : Int)), (0, (((h 55 r).toNat : Nat) : Int))] [] (hst h 50 62 (fr (fun a i => mix a (h 56 (40 * (r : Int) + i))) (h 55 r).toNat x)) := by
    intro r x hr
    have hz := z55 r (by omega) (by omega)
    have e : ∀ x, hst h 50 62 x 55 = h 55 := fun x => hst_off h (by decide)
    have e' : ∀ x, hst h 50 62 x 56 = h 56 := fun x => hst_off h (by decide)
    have l := fr_loop (P := fun x k => Ws E (d + 3) mX10_digest Q 315 [(2, 50), (0, (r : Int)), (0, k)] [] (hst h 50 62 x)) (fun a i => mix a (h 56 (40 * (r : Int) + i))) (h 55 r).toNat x (by
      intro k x hk
      show Ws E (d + 3) mX10_digest Q 315 [(2, 50), (0, (r : Int)), (0, (k : Int))] [] (hst h 50 62 x) = _
      rw [b_X10_digest_315 hE, e, e', and_tl (by omega), if_pos (by omega), ix_m (by omega) (by omega) (by omega) (by omega), and_tl (by omega), e_m_mix hE, w32_n1 (by omega)])
    refine l.trans ?_
    show Ws E (d + 3) mX10_digest Q 315 [(2, 50), (0, (r : Int)), (0, _)] [] (hst h 50 62 _) = _
    rw [b_X10_digest_315 hE, e, and_tl (by omega), if_neg (by omega), w32_n1 (by omega)]
  have o282 : ∀ (v : PV) (x : Int), ∃ v', Ws E (d + 3) mX10_digest Q 282 [(2, 50), (0, 0), v] [] (hst h 50 62 x) = Ws E (d + 3) mX10_digest Q 282 [(2, 50), (0, ((4 : Nat) : Int)), v'] [] (hst h 50 62 (fr (gT (h 55) (h 56)) 4 x)) := by
    intro v x
    have e : ∀ x, hst h 50 62 x 55 = h 55 := fun x => hst_off h (by decide)
    refine loop_v (P := fun v k => Ws E (d + 3) mX10_digest Q 282 [(2, 50), (0, (k : Int)), v] [] (hst h 50 62 (fr (gT (h 55) (h 56)) k x))) 4 v (fun v k hk => ⟨(0, (((h 55 k).toNat : Nat) : Int)), ?_⟩)
    show Ws E (d + 3) mX10_digest Q 282 [(2, 50), (0, (k : Int)), v] [] (hst h 50 62 _) = Ws E (d + 3) mX10_digest Q 282 [(2, 50), (0, ((k + 1 : Nat) : Int)), _] [] (hst h 50 62 (fr (fun a i => mix a (h 56 (40 * (k : Int) + i))) (h 55 k).toNat (mix (fr (gT (h 55) (h 56)) k x) (mneg (h 55 k)))))
    rw [b_X10_digest_282 hE, e, if_pos (by omega), and_tl (by omega), and_tl (by omega), b_X10_digest_310 hE, b_X10_digest_310 hE, e_m_mix hE, e_m_mix hE, i315 k _ hk, i315 k _ hk]
    unfold mneg
    by_cases z : h 55 (k : Int) < 0
    · rw [if_pos z, if_pos z]
    · rw [if_neg z, if_neg z]
  have l := fr_loop (P := fun x k => Ws E (d + 3) mX10_digest Q 9 [(2, 50), (0, k), (9, 0)] [] (hst h 50 62 x)) (fun a w => mix a (cM h w)) 9 17 (by
    intro k x hk
    show Ws E (d + 3) mX10_digest Q 9 [(2, 50), (0, (k : Int)), (9, 0)] [] (hst h 50 62 x) = _
    rw [b_X10_digest_9 hE, if_neg (by omega), e_m_counts hE, e_m_mix hE, cM_62, w32_n1 (by omega)])
  refine l.trans ?_
  show Ws E (d + 3) mX10_digest Q 9 [(2, 50), (0, ((9 : Nat) : Int)), (9, 0)] [] (hst h 50 62 _) = _
  rw [b_X10_digest_9 hE, if_pos (by decide)]
  unfold dg
  generalize fr (fun a w => mix a (cM h w)) 9 17 = x1
  have l2 := fr_loop (P := fun x k => Ws E (d + 3) mX10_digest Q 33 [(2, 50), (0, k), (9, 0)] [] (hst h 50 62 x)) (gW (fun c => h 57 c ≠ 0) (h 59) (h 58) (h 60)) 336 x1 (by
    intro k x hk
    have e1 : ∀ x, hst h 50 62 x 57 = h 57 := fun x => hst_off h (by decide)
    have e2 : ∀ x, hst h 50 62 x 58 = h 58 := fun x => hst_off h (by decide)
    have e3 : ∀ x, hst h 50 62 x 59 = h 59 := fun x => hst_off h (by decide)
    have e4 : ∀ x, hst h 50 62 x 60 = h 60 := fun x => hst_off h (by decide)
    show Ws E (d + 3) mX10_digest Q 33 [(2, 50), (0, (k : Int)), (9, 0)] [] (hst h 50 62 x) = _
    rw [b_X10_digest_33 hE, if_pos (by omega), e1, and_tl (by omega), w32_n1 (by omega), e_m_mix hE, and_tl (by omega), e_m_mix hE, and_tl (by omega), e_m_mix hE, and_tl (by omega), e_m_mix hE, e2, e3, e4]
    unfold gW
    by_cases z : h 57 (k : Int) = 0
    · rw [if_pos z, if_neg (fun q => q z)]
    · rw [if_neg z, if_pos z])
  refine l2.trans ?_
  show Ws E (d + 3) mX10_digest Q 33 [(2, 50), (0, ((336 : Nat) : Int)), (9, 0)] [] (hst h 50 62 _) = _
  rw [b_X10_digest_33 hE, if_neg (by decide)]
  generalize fr (gW (fun c => h 57 c ≠ 0) (h 59) (h 58) (h 60)) 336 x1 = x2
  have l3 := fr_loop (P := fun x k => Ws E (d + 3) mX10_digest Q 96 [(2, 50), (0, k), (9, 0)] [] (hst h 50 62 x)) (fun a m => mix a (h 74 m)) 6 x2 (by
    intro k x hk
    have e1 : ∀ x, hst h 50 62 x 74 = h 74 := fun x => hst_off h (by decide)
    show Ws E (d + 3) mX10_digest Q 96 [(2, 50), (0, (k : Int)), (9, 0)] [] (hst h 50 62 x) = _
    rw [b_X10_digest_96 hE, if_pos (by omega), e1, and_tl (by omega), w32_n1 (by omega), e_m_mix hE])
  refine l3.trans ?_
  show Ws E (d + 3) mX10_digest Q 96 [(2, 50), (0, ((6 : Nat) : Int)), (9, 0)] [] (hst h 50 62 _) = _
  have g : ∀ (x j : Int), j ≠ 62 → hst h 50 62 x 50 j = h 50 j := fun x j hj => hst_o h 50 x hj
  rw [b_X10_digest_96 hE, if_neg (by decide), e_m_mix hE, e_m_mix hE, e_m_mix hE]
  simp only [g _ 10 (by decide), g _ 11 (by decide), g _ 12 (by decide), g _ 13 (by decide)]
  generalize fr (fun a m => mix a (h 74 m)) 6 x2 = x3
  have t1 : ∀ x, (if h 50 13 < 0 then Ws E (d + 3) mX10_digest Q 165 [(2, 50), (0, ((6 : Nat) : Int)), (9, 0)] [(1, (-1)), (2, 50)] (hst h 50 62 x) else Ws E (d + 3) mX10_digest Q 165 [(2, 50), (0, ((6 : Nat) : Int)), (9, 0)] [(1, h 50 13), (2, 50)] (hst h 50 62 x)) = Ws E (d + 3) mX10_digest Q 165 [(2, 50), (0, ((6 : Nat) : Int)), (9, 0)] [(1, mneg (h 50 13)), (2, 50)] (hst h 50 62 x) := by
    intro x
    unfold mneg
    by_cases z : h 50 13 < 0
    · rw [if_pos z, if_pos z]
    · rw [if_neg z, if_neg z]
  have t2 : ∀ x, (if h 50 14 < 0 then Ws E (d + 3) mX10_digest Q 187 [(2, 50), (0, ((6 : Nat) : Int)), (9, 0)] [(1, (-1)), (2, 50)] (hst h 50 62 x) else Ws E (d + 3) mX10_digest Q 187 [(2, 50), (0, ((6 : Nat) : Int)), (9, 0)] [(1, h 50 14), (2, 50)] (hst h 50 62 x)) = Ws E (d + 3) mX10_digest Q 187 [(2, 50), (0, ((6 : Nat) : Int)), (9, 0)] [(1, mneg (h 50 14)), (2, 50)] (hst h 50 62 x) := by
    intro x
    unfold mneg
    by_cases z : h 50 14 < 0
    · rw [if_pos z, if_pos z]
    · rw [if_neg z, if_neg z]
  rw [t1, b_X10_digest_165 hE, e_m_mix hE, g _ 14 (by decide), t2, b_X10_digest_187 hE, e_m_mix hE, e_m_mix hE, e_m_mix hE]
  simp only [g _ 43 (by decide), g _ 44 (by decide)]
  obtain ⟨v1, q1⟩ := o208 (9, 0) (mix (mix (mix (mix (mix (mix (mix x3 (h 50 10)) (h 50 11)) (h 50 12)) (mneg (h 50 13))) (mneg (h 50 14))) (h 50 43)) (h 50 44))
  rw [q1, b_X10_digest_208 hE, if_neg (by decide)]
  obtain ⟨v2, q2⟩ := o282 v1 (fr (gT (h 52) (h 53)) 6 (mix (mix (mix (mix (mix (mix (mix x3 (h 50 10)) (h 50 11)) (h 50 12)) (mneg (h 50 13))) (mneg (h 50 14))) (h 50 43)) (h 50 44)))
  rw [q2, b_X10_digest_282 hE, if_neg (by decide), hst_s]
theorem Cpl_62 {h : Hp} {v : Int} (hC : Cpl h) : Cpl (hst h 50 62 v) := by
  unfold Cpl
  simp only [hst_at, hrow_at, up_at, Int.reduceEq, if_true, if_false, reduceIte]
  exact hC
theorem gS_gT {N lo hi : Int} {s p S P : Int → Int} (c : CSh N lo hi s p S P) {k : Nat} (hk : (k : Int) < N) (a : Int) : gT S P a k = gS s p a k := by
  have h1 := CSh_neg c (r := k) (by omega)
  have hz := c.1 k (by omega) hk
  unfold gT gS mneg
  by_cases z : s (k : Int) < 0
  · have e1 : (S (k : Int)).toNat = 0 := by omega
    have e2 : (s (k : Int)).toNat = 0 := by omega
    rw [if_pos (h1.mpr z), e1, e2]
    have : s (k : Int) = -1 := by omega
    rw [this]
    rfl
  · have e := CSh_eq c (r := k) (by omega) (by omega)
    rw [e, if_neg z]
    exact fr_c _ _ (fun j hj a => by rw [(c.2.2 k j (by omega) hk (by omega) (by omega)).1])
theorem p_digest {n : Int} : Pr n mX9_digest mX10_digest [] := by
  intro h hC
  have hC' := hC
  obtain ⟨c1, c2, c3, c4, c5, c6, c7, c8, c9, c10, c11, c12, c13, c14, c15⟩ := hC
  have key : dg (cM h) (gW (fun c => h 57 c ≠ 0) (h 59) (h 58) (h 60)) (h 74) (h 50 10) (h 50 11) (h 50 12) (mneg (h 50 13)) (mneg (h 50 14)) (h 50 43) (h 50 44) (gT (h 52) (h 53)) (gT (h 55) (h 56)) = dg (cX h) (gW (fun c => h 12 c ≠ -1) (h 12) (h 13) (h 14)) (h 31) (h 7 0) (h 7 1) (h 7 2) (h 7 3) (h 7 4) (h 26 6) (h 26 7) (gS (h 2) (h 3)) (gS (h 5) (h 6)) := by
    obtain ⟨⟨a1, a2, a3⟩, -, a4, a5⟩ := c5
    have m1 : mneg (h 50 13) = h 7 3 := by unfold mneg; split <;> omega
    have m2 : mneg (h 50 14) = h 7 4 := by unfold mneg; split <;> omega
    unfold dg
    rw [fr_c (g := fun a w => mix a (cM h w)) (g' := fun a w => mix a (cX h w)) 9 17 (fun j hj a => by rw [cX_cM hC' (by omega)])]
    rw [fr_c (g := gW (fun c => h 57 c ≠ 0) (h 59) (h 58) (h 60)) (g' := gW (fun c => h 12 c ≠ -1) (h 12) (h 13) (h 14)) 336 _ (fun j hj a => by
      have aT := cw_T c7 (c := j) (by omega)
      unfold gW
      by_cases v : h 12 (j : Int) = -1
      · rw [if_neg (fun q => q (aT.mpr v)), if_neg (fun q => q v)]
      · have e := cw_e c7 (c := j) (by omega) v
        rw [if_pos (fun q => v (aT.mp q)), if_pos v, e.1, e.2.1, e.2.2])]
    rw [fr_c (g := fun a m => mix a (h 74 m)) (g' := fun a m => mix a (h 31 m)) 6 _ (fun j hj a => by rw [(c11 j (by omega) (by omega)).1])]
    rw [a1, a2, a3, m1, m2, c10.1, c10.2]
    rw [fr_c (g := gT (h 52) (h 53)) (g' := gS (h 2) (h 3)) 6 _ (fun j hj a => gS_gT c3 (by omega) a)]
    rw [fr_c (g := gT (h 55) (h 56)) (g' := gS (h 5) (h 6)) 4 _ (fun j hj a => gS_gT c4 (by omega) a)]
  have m := fun Q => e_m_digest (E := EF n) (d := 5) (Q := Q) (h := h) (EF_50 n) (CSh_mz c3) (CSh_mz c4)
  rw [key] at m
  refine ⟨dg (cX h) (gW (fun c => h 12 c ≠ -1) (h 12) (h 13) (h 14)) (h 31) (h 7 0) (h 7 1) (h 7 2) (h 7 3) (h 7 4) (h 26 6) (h 26 7) (gS (h 2) (h 3)) (gS (h 5) (h 6)), h, hst h 50 62 (dg (cX h) (gW (fun c => h 12 c ≠ -1) (h 12) (h 13) (h 14)) (h 31) (h 7 0) (h 7 1) (h 7 2) (h 7 3) (h 7 4) (h 26 6) (h 26 7) (gS (h 2) (h 3)) (gS (h 5) (h 6))), fun Q => x_digest c3.1 c4.1, fun Q => ?_, Cpl_62 hC'⟩
  obtain ⟨v, e, q⟩ := m Q
  subst e
  exact q
