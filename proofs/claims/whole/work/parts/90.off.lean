/-! off -/
/-- over the neighbours -/
def nS (O : Int → Int) (c : Int) (φ : Int → Int → Int) : Int := sm (fun b => if 1 ≤ nb O c b then φ b (nb O c b) else 0) 336
theorem nb_in {K O : Int → Int} {c b : Int} (P : Prt K O) (h : 1 ≤ nb O c b) : isN b ∧ K b ≠ -1 := by
  obtain ⟨j, j1, j2, j3⟩ := cnt_pos h
  have q := aO_box P (c := c) (i := j) j2
  have e : aO O c j = b := j3
  rw [e] at q
  exact ⟨q.1, q.2.1⟩
theorem nb_b (O : Int → Int) (c b : Int) : 0 ≤ nb O c b ∧ nb O c b ≤ 16 := by
  have bw := gw_b c
  have := cnt_b (fun i => onW (px c i) (py c i) ∧ O (16 * py c i + px c i) = b) (4 * gw c).toNat
  unfold nb
  omega
theorem nS_c {K O : Int → Int} {c : Int} {φ φ' : Int → Int → Int} (P : Prt K O) (h : ∀ b : Int, isN b → K b ≠ -1 → φ b (nb O c b) = φ' b (nb O c b)) : nS O c φ = nS O c φ' := sm_c 336 (fun b hb => by
  by_cases z : 1 ≤ nb O c b
  · rw [if_pos z, if_pos z]
    have := nb_in P z
    exact h b this.1 this.2
  · rw [if_neg z, if_neg z])
abbrev flw (K : Int → Int) (b : Int) : Prop := (0 ≤ b ∧ b < 336) ∧ K b ≠ -1 ∧ K b ≠ 4
section OFF
variable {n : Int} {d : Nat} {h : Hp}
theorem e_partnersOf {Q : Int → Hp → Prop} {c o : Int} (hc : 0 ≤ c ∧ c < 336) (kc : h 12 c ≠ -1) (hf : (0 ≤ h 21 c ∧ h 21 c ≤ h 21 (c + 1) ∧ h 21 (c + 1) ≤ 960)) (hr : h 24 c = rm c) (N : NearOK (h 19) c (h 21 c) (h 21 (c + 1)) (h 22) (h 23)) : wpS (EF n) (d + 4) mX5_partnersOf [(2, 20), (2, 11), (0, c), (0, o)] h Q = Q (if h 12 c = 4 then 0 else (if o = 1 ∧ 0 < rm c then 1 else 0) + nS (h 19) c (fun b _ => if flw (h 12) b then 1 else 0)) h := by
  rw [u_X5_partnersOf, e_isFlowing (EF_11 n), b2_if]
  by_cases z : h 12 c = 4
  · rw [if_neg (fun q => q.2.2 z), if_pos z]
  · rw [if_pos (show (0 ≤ c ∧ c < 336) ∧ h 12 c ≠ -1 ∧ h 12 c ≠ 4 from ⟨hc, kc, z⟩), if_neg z, hr]
    have r29 : ∀ x : Int, 0 ≤ x → x ≤ 1 → Ws (EF n) (d + 3) mX5_partnersOf Q 29 [(2, 20), (2, 11), (0, c), (0, o), (9, 0), (9, 0)] [(0, x)] h = Q (x + nS (h 19) c (fun b _ => if flw (h 12) b then 1 else 0)) h := by
      intro x x0 x1
      have en : ((h 21 (c + 1) - h 21 c).toNat : Int) = h 21 (c + 1) - h 21 c := by omega
      have l := loop_n (P := fun k => Ws (EF n) (d + 3) mX5_partnersOf Q 39 [(2, 20), (2, 11), (0, c), (0, o), (0, x + cnt (fun j => flw (h 12) (h 22 (h 21 c + j))) k), (0, h 21 c + (k : Int))] [] h) (h 21 (c + 1) - h 21 c).toNat (by
        intro k hk
        have cb := cnt_b (fun j => flw (h 12) (h 22 (h 21 c + j))) k
        rw [b_X5_partnersOf_39, w32_of (x := c + 1) (by omega) (by omega), and_tl (by omega), if_pos (by omega), if_pos (by omega), and_tl (by omega), e_isFlowing (EF_11 n), b2_if, w32_of (x := h 21 c + (k : Int) + 1) (by omega) (by omega), w32_of (x := x + cnt (fun j => flw (h 12) (h 22 (h 21 c + j))) k + 1) (by omega) (by omega)]
        show (if flw (h 12) (h 22 (h 21 c + k)) then _ else _) = Ws (EF n) (d + 3) mX5_partnersOf Q 39 [(2, 20), (2, 11), (0, c), (0, o), (0, x + cnt (fun j => flw (h 12) (h 22 (h 21 c + j))) (k + 1)), (0, h 21 c + ((k + 1 : Nat) : Int))] [] h
        rw [show h 21 c + ((k + 1 : Nat) : Int) = h 21 c + (k : Int) + 1 by omega]
        by_cases y : flw (h 12) (h 22 (h 21 c + k))
        · rw [if_pos y, cnt_t (p := fun j => flw (h 12) (h 22 (h 21 c + j))) y, show x + (cnt (fun j => flw (h 12) (h 22 (h 21 c + j))) k + 1) = x + cnt (fun j => flw (h 12) (h 22 (h 21 c + j))) k + 1 by omega]
        · rw [if_neg y, cnt_f (p := fun j => flw (h 12) (h 22 (h 21 c + j))) y])
      have e0 : Ws (EF n) (d + 3) mX5_partnersOf Q 29 [(2, 20), (2, 11), (0, c), (0, o), (9, 0), (9, 0)] [(0, x)] h = Ws (EF n) (d + 3) mX5_partnersOf Q 39 [(2, 20), (2, 11), (0, c), (0, o), (0, x + cnt (fun j => flw (h 12) (h 22 (h 21 c + j))) 0), (0, h 21 c + ((0 : Nat) : Int))] [] h := by
        rw [b_X5_partnersOf_29, and_tl (by omega), show x + cnt (fun j => flw (h 12) (h 22 (h 21 c + j))) 0 = x from Int.add_zero x, show h 21 c + ((0 : Nat) : Int) = h 21 c by omega]
      refine e0.trans (l.trans ?_)
      have es : cnt (fun j => flw (h 12) (h 22 (h 21 c + j))) (h 21 (c + 1) - h 21 c).toNat = nS (h 19) c (fun b _ => if flw (h 12) b then 1 else 0) := by
        rw [cnt_sm]
        exact near_sum N (fun b _ => if flw (h 12) b then 1 else 0)
      show Ws (EF n) (d + 3) mX5_partnersOf Q 39 [(2, 20), (2, 11), (0, c), (0, o), (0, _), (0, h 21 c + (((h 21 (c + 1) - h 21 c).toNat : Nat) : Int))] [] h = _
      rw [b_X5_partnersOf_39, w32_of (x := c + 1) (by omega) (by omega), and_tl (by omega), if_neg (by omega), es]
    rw [b_X5_partnersOf_28, r29 0 (by decide) (by decide), r29 1 (by decide) (by decide)]
    by_cases y1 : o = 1
    · rw [if_pos y1, and_tl hc]
      by_cases y2 : 0 < rm c
      · rw [if_pos y2, if_pos ⟨y1, y2⟩]
      · rw [if_neg y2, if_neg (fun q => y2 q.2)]
    · rw [if_neg y1, if_neg (fun q => y1 q.1)]
end OFF
theorem p_off {n c t : Int} : Pr n mX9_off mX10_off [(0, c), (0, t)] := by
  intro h hC
  have hC0 := hC
  by_cases z1 : 0 ≤ t ∧ t ≤ 20
  · by_cases z2 : 0 ≤ c ∧ c < 336
    · by_cases z3 : h 12 c = -1
      · have zT : h 57 c = 0 := (cw_T hC.2.2.2.2.2.2.1 z2).mpr z3
        refine ⟨-3, fnd h 1, mfnd (fnd h 1) 1, fun Q => ?_, fun Q => ?_, Cpl_fnd hC0 (by decide) (by decide)⟩
        · rw [u_X9_off, e_isName, b2_if, if_pos z2, if_neg (by omega), if_neg (by omega), e_w_isThere (EF_11 n), b2_if, if_neg (fun q => q.2 z3), e_refuse (by decide) (by decide)]
        · rw [u_X10_off (EF_50 n), e_m_in, b2_if, if_pos z1, e_m_askedCell (EF_50 n), if_pos z2, if_pos (show fnd h 1 57 c = 0 from zT), if_pos (by decide)]
      · obtain ⟨h', r1, r2, r3, r4⟩ := e_refresh (n := n) hC
        have hC' := r2
        obtain ⟨c1, c2, c3, c4, c5, c6, c7, c8, c9, c10, c11, c12, c13, c14, c15⟩ := r2
        have x12 : h' 12 = h 12 := r4 12 (by decide) (by decide)
        have k3 : h' 12 c ≠ -1 := by rw [x12]; exact z3
        obtain ⟨l1, l2, l3⟩ := (c8.2 r3).1 c z2.1 z2.2 k3
        have P := c7.2.2.1
        have eK := (cw_e c7 z2 k3).1
        have vT : h' 57 c ≠ 0 := fun q => k3 ((cw_T c7 z2).mp q)
        have xc := fun Q => e_partnersOf (n := n) (d := 4) (Q := Q) (o := h' 7 2) z2 k3 l2 l1 l3
        by_cases y : h' 12 c = 4
        · refine ⟨0, h', h', fun Q => ?_, fun Q => ?_, hC'⟩
          · rw [u_X9_off, e_isName, b2_if, if_pos z2, if_neg (by omega), if_neg (by omega), e_w_isThere (EF_11 n), b2_if, if_pos (show (0 ≤ c ∧ c < 336) ∧ h 12 c ≠ -1 from ⟨z2, z3⟩), r1, xc, if_pos y, Int.mul_zero]
            rfl
          · rw [u_X10_off (EF_50 n), e_m_in, b2_if, if_pos z1, e_m_askedCell (EF_50 n), if_pos z2, if_neg vT, if_neg (by decide), and_tl z2, if_pos (by rw [eK]; exact y)]
        · obtain ⟨L, B, D, q1, q2, q3⟩ := e_m_setNear (d := 5) (h := h') (c := c) (EF_50 n) (cw_S c7) z2
          have q2' := near_c c7.2.2.2 q2
          have es : sm (fun j => if h' 59 (B j) = 4 then 0 else 1) L.toNat = nS (h' 19) c (fun b _ => if flw (h' 12) b then 1 else 0) := by
            have e1 := near_sum q2' (fun b _ => if h' 59 b = 4 then 0 else 1)
            rw [show (L - 0).toNat = L.toNat by omega] at e1
            have e2 : sm (fun j => if h' 59 (B j) = 4 then 0 else 1) L.toNat = sm (fun j => if h' 59 (B (0 + j)) = 4 then 0 else 1) L.toNat := sm_c _ (fun j _ => by rw [Int.zero_add])
            rw [e2, e1]
            refine nS_c (φ := fun b _ => if h' 59 b = 4 then 0 else 1) P (fun b hb kb => ?_)
            show (if h' 59 b = 4 then 0 else 1) = if flw (h' 12) b then 1 else 0
            rw [(cw_e c7 hb kb).1]
            by_cases w : h' 12 b = 4
            · rw [if_pos w, if_neg (fun q => q.2.2 w)]
            · rw [if_neg w, if_pos ⟨hb, kb, w⟩]
          have smb := sm_b (f := fun j => if h' 59 (B j) = 4 then 0 else 1) (lo := 0) (hi := 1) L.toNat (fun j _ => by split <;> omega)
          rw [es] at smb
          have eo : h' 50 12 = h' 7 2 := c5.1.2.2
          refine ⟨w32 (t * ((if h' 7 2 = 1 ∧ 0 < rm c then 1 else 0) + nS (h' 19) c (fun b _ => if flw (h' 12) b then 1 else 0))), h', vN h' (up (up (h' 50) 29 L) 32 (rm c)) B D, fun Q => ?_, fun Q => ?_, ?_⟩
          · rw [u_X9_off, e_isName, b2_if, if_pos z2, if_neg (by omega), if_neg (by omega), e_w_isThere (EF_11 n), b2_if, if_pos (show (0 ≤ c ∧ c < 336) ∧ h 12 c ≠ -1 from ⟨z2, z3⟩), r1, xc, if_neg y]
          · have r66 : ∀ x : Int, 0 ≤ x → x ≤ 1 → Ws (EF n) 8 mX10_off Q 66 [(2, 50), (0, c), (0, t), (0, 0), (0, x), (0, 0)] [] (vN h' (up (up (h' 50) 29 L) 32 (rm c)) B D) = Q (w32 (t * (x + nS (h' 19) c (fun b _ => if flw (h' 12) b then 1 else 0)))) (vN h' (up (up (h' 50) 29 L) 32 (rm c)) B D) := by
              intro x x0 x1
              have g29 : (vN h' (up (up (h' 50) 29 L) 32 (rm c)) B D) 50 29 = L := by
                show up (up (h' 50) 29 L) 32 (rm c) 29 = L
                rw [up_n _ _ (by decide), up_s]
              have l := loop_n (P := fun k => Ws (EF n) 8 mX10_off Q 66 [(2, 50), (0, c), (0, t), (0, 0), (0, x + sm (fun j => if h' 59 (B j) = 4 then 0 else 1) k), (0, (k : Int))] [] (vN h' (up (up (h' 50) 29 L) 32 (rm c)) B D)) L.toNat (by
                intro k hk
                have cb := sm_b (f := fun j => if h' 59 (B j) = 4 then 0 else 1) (lo := 0) (hi := 1) k (fun j _ => by split <;> omega)
                have bN := (q2.1 k (by omega) (by omega)).1
                have bN' : 0 ≤ B k ∧ B k < 336 := bN
                have x59 : (vN h' (up (up (h' 50) 29 L) 32 (rm c)) B D) 59 = h' 59 := rfl
                rw [b_X10_off_66 (EF_50 n), g29, if_pos (by omega), and_tl (by omega), vN_r63, and_tl bN', x59, b_X10_off_98 (EF_50 n), b_X10_off_98 (EF_50 n), w32_n1 (by omega), w32_of (x := x + sm (fun j => if h' 59 (B j) = 4 then 0 else 1) k + 0) (by omega) (by omega), w32_of (x := x + sm (fun j => if h' 59 (B j) = 4 then 0 else 1) k + 1) (by omega) (by omega)]
                show _ = Ws (EF n) 8 mX10_off Q 66 [(2, 50), (0, c), (0, t), (0, 0), (0, x + (sm (fun j => if h' 59 (B j) = 4 then 0 else 1) k + (if h' 59 (B k) = 4 then 0 else 1))), (0, ((k + 1 : Nat) : Int))] [] (vN h' (up (up (h' 50) 29 L) 32 (rm c)) B D)
                rw [← Int.add_assoc]
                by_cases w : h' 59 (B k) = 4
                · rw [if_pos w, if_pos w]
                · rw [if_neg w, if_neg w])
              rw [show x + sm (fun j => if h' 59 (B j) = 4 then 0 else 1) 0 = x from Int.add_zero x] at l
              refine l.trans ?_
              show Ws (EF n) 8 mX10_off Q 66 [(2, 50), (0, c), (0, t), (0, 0), (0, _), (0, ((L.toNat : Nat) : Int))] [] (vN h' (up (up (h' 50) 29 L) 32 (rm c)) B D) = _
              rw [b_X10_off_66 (EF_50 n), g29, if_neg (by omega), es]
            have g12 : (vN h' (up (up (h' 50) 29 L) 32 (rm c)) B D) 50 12 = h' 7 2 := by
              show up (up (h' 50) 29 L) 32 (rm c) 12 = _
              rw [up_n _ _ (by decide), up_n _ _ (by decide)]
              exact eo
            have g32 : (vN h' (up (up (h' 50) 29 L) 32 (rm c)) B D) 50 32 = rm c := by
              show up (up (h' 50) 29 L) 32 (rm c) 32 = rm c
              exact up_s _ _ _
            rw [u_X10_off (EF_50 n), e_m_in, b2_if, if_pos z1, e_m_askedCell (EF_50 n), if_pos z2, if_neg vT, if_neg (by decide), and_tl z2, if_neg (by rw [eK]; exact y), q3, g12, g32, b_X10_off_60 (EF_50 n), r66 0 (by decide) (by decide), r66 1 (by decide) (by decide)]
            by_cases y1 : h' 7 2 = 1
            · rw [if_pos y1]
              by_cases y2 : 0 < rm c
              · rw [if_pos y2, if_pos ⟨y1, y2⟩]
              · rw [if_neg y2, if_neg (fun q => y2 q.2)]
            · rw [if_neg y1, if_neg (fun q => y1 q.1)]
          · unfold Cpl
            simp only [vN, up_at, Int.reduceEq, if_true, if_false, reduceIte]
            exact ⟨c1, c2, c3, c4, c5, c6, c7, c8, c9, c10, c11, c12, c13, c14, c15⟩
    · refine ⟨-1, h, h, fun Q => ?_, fun Q => ?_, hC0⟩
      · rw [u_X9_off, e_isName, b2_if, if_neg z2]
      · rw [u_X10_off (EF_50 n), e_m_in, b2_if, if_pos z1, e_m_askedCell (EF_50 n), if_neg z2, if_pos (by decide)]
  · refine ⟨-1, h, h, fun Q => ?_, fun Q => ?_, hC0⟩
    · rw [u_X9_off, e_isName, b2_if]
      by_cases w : 0 ≤ c ∧ c < 336
      · rw [if_pos w]
        by_cases v : t < 0
        · rw [if_pos v]
        · rw [if_neg v, if_pos (by omega)]
      · rw [if_neg w]
    · rw [u_X10_off (EF_50 n), e_m_in, b2_if, if_neg z1]
