/-! tick: sides by squares are sides by places; settling keeps all in common -/
theorem cnt_iv (Y lo hi : Int) (h : lo ≤ hi) : ∀ w : Nat, cnt (fun k => lo ≤ Y + k ∧ Y + k < hi) w = max 0 (min (Y + w) hi - max Y lo)
  | 0 => by
    show (0 : Int) = _
    omega
  | w + 1 => by
    have ih := cnt_iv Y lo hi h w
    by_cases z : lo ≤ Y + (w : Int) ∧ Y + (w : Int) < hi
    · rw [cnt_t (p := fun k => lo ≤ Y + k ∧ Y + k < hi) z, ih]
      omega
    · rw [cnt_f (p := fun k => lo ≤ Y + k ∧ Y + k < hi) z, ih]
      omega
theorem cnt_and (q : Prop) [Decidable q] (p : Int → Prop) [DecidablePred p] (r : Int → Prop) [DecidablePred r] (N : Nat) (h : ∀ j : Nat, j < N → (r j ↔ q ∧ p j)) : cnt r N = if q then cnt p N else 0 := by
  by_cases z : q
  · rw [if_pos z]
    exact cnt_c N (fun j hj => (h j hj).trans ⟨fun w => w.2, fun w => ⟨z, w⟩⟩)
  · rw [if_neg z]
    exact cnt_none (fun j hj w => z ((h j hj).mp w).1)
theorem nb_sb {K O : Int → Int} {a b : Int} (P : Prt K O) (ha : isN a) (hb : isN b) (ka : K a ≠ -1) (kb : K b ≠ -1) : nb O a b = sb a b := by
  have ax := gx_b ha
  have ay := gy_b ha
  have aw := gw_b a
  have bx := gx_b hb
  have bY := gy_b hb
  have bw := gw_b b
  have eq : nb O a b = cnt (fun i => (gx b ≤ px a i ∧ px a i < gx b + gw b) ∧ gy b ≤ py a i ∧ py a i < gy b + gw b) (4 * gw a).toNat := cnt_c _ (fun i _ => by
    constructor
    · rintro ⟨q1, q2⟩
      have q := aO_box P (c := a) (i := (i : Int)) q1
      have e : aO O a i = b := q2
      rw [e] at q
      exact q.2.2
    · intro q
      exact aO_of P hb kb q)
  rw [eq]
  obtain ⟨w, hw⟩ : ∃ w : Nat, gw a = (w : Int) := ⟨(gw a).toNat, by omega⟩
  have ps := fun (i : Nat) (h : (i : Int) < 4 * gw a) => p_side (c := a) (i := (i : Int)) (by omega) h
  have e4 : (4 * gw a).toNat = w + (w + (w + w)) := by omega
  rw [e4, cnt_app, cnt_app, cnt_app]
  have s1 : cnt (fun i => (gx b ≤ px a i ∧ px a i < gx b + gw b) ∧ gy b ≤ py a i ∧ py a i < gy b + gw b) w = if gx b ≤ gx a - 1 ∧ gx a - 1 < gx b + gw b then cnt (fun k => gy b ≤ gy a + k ∧ gy a + k < gy b + gw b) w else 0 := cnt_and _ _ _ w (fun j hj => by
    have q := ps j (by omega)
    have e1 : px a j = gx a - 1 := by omega
    have e2 : py a j = gy a + j := by omega
    rw [e1, e2])
  have s2 : cnt (fun i => (gx b ≤ px a ((w : Int) + i) ∧ px a ((w : Int) + i) < gx b + gw b) ∧ gy b ≤ py a ((w : Int) + i) ∧ py a ((w : Int) + i) < gy b + gw b) w = if gx b ≤ gx a + gw a ∧ gx a + gw a < gx b + gw b then cnt (fun k => gy b ≤ gy a + k ∧ gy a + k < gy b + gw b) w else 0 := cnt_and _ _ _ w (fun j hj => by
    have q := ps (w + j) (by omega)
    rw [show ((w + j : Nat) : Int) = (w : Int) + j by omega] at q
    have e1 : px a ((w : Int) + j) = gx a + gw a := by omega
    have e2 : py a ((w : Int) + j) = gy a + j := by omega
    rw [e1, e2])
  have s3 : cnt (fun i => (gx b ≤ px a ((w : Int) + ((w : Int) + i)) ∧ px a ((w : Int) + ((w : Int) + i)) < gx b + gw b) ∧ gy b ≤ py a ((w : Int) + ((w : Int) + i)) ∧ py a ((w : Int) + ((w : Int) + i)) < gy b + gw b) w = if gy b ≤ gy a - 1 ∧ gy a - 1 < gy b + gw b then cnt (fun k => gx b ≤ gx a + k ∧ gx a + k < gx b + gw b) w else 0 := cnt_and _ _ _ w (fun j hj => by
    have q := ps (w + (w + j)) (by omega)
    rw [show ((w + (w + j) : Nat) : Int) = (w : Int) + ((w : Int) + j) by omega] at q
    have e1 : px a ((w : Int) + ((w : Int) + j)) = gx a + j := by omega
    have e2 : py a ((w : Int) + ((w : Int) + j)) = gy a - 1 := by omega
    rw [e1, e2]
    exact and_comm)
  have s4 : cnt (fun i => (gx b ≤ px a ((w : Int) + ((w : Int) + ((w : Int) + i))) ∧ px a ((w : Int) + ((w : Int) + ((w : Int) + i))) < gx b + gw b) ∧ gy b ≤ py a ((w : Int) + ((w : Int) + ((w : Int) + i))) ∧ py a ((w : Int) + ((w : Int) + ((w : Int) + i))) < gy b + gw b) w = if gy b ≤ gy a + gw a ∧ gy a + gw a < gy b + gw b then cnt (fun k => gx b ≤ gx a + k ∧ gx a + k < gx b + gw b) w else 0 := cnt_and _ _ _ w (fun j hj => by
    have q := ps (w + (w + (w + j))) (by omega)
    rw [show ((w + (w + (w + j)) : Nat) : Int) = (w : Int) + ((w : Int) + ((w : Int) + j)) by omega] at q
    have e1 : px a ((w : Int) + ((w : Int) + ((w : Int) + j))) = gx a + j := by omega
    have e2 : py a ((w : Int) + ((w : Int) + ((w : Int) + j))) = gy a + gw a := by omega
    rw [e1, e2]
    exact and_comm)
  rw [s1, s2, s3, s4, cnt_iv (gy a) (gy b) (gy b + gw b) (by omega), cnt_iv (gx a) (gx b) (gx b + gw b) (by omega), ← hw]
  unfold sb ovl
  by_cases ab : a = b
  · subst ab
    rw [if_neg (by omega), if_neg (by omega), if_neg (by omega), if_neg (by omega), if_neg (by omega), if_neg (by omega)]
    rfl
  · have off : ¬ ((max (gx a) (gx b) < min (gx a + gw a) (gx b + gw b)) ∧ max (gy a) (gy b) < min (gy a + gw a) (gy b + gw b)) := fun q => Prt_off (X := max (gx a) (gx b)) (Y := max (gy a) (gy b)) P ha hb ka kb ab (by omega) (by omega)
    generalize gx a = X at *
    generalize gy a = Y at *
    generalize gw a = W at *
    generalize gx b = x at *
    generalize gy b = y at *
    generalize gw b = v at *
    by_cases h1 : X + W = x ∨ x + v = X
    · rw [if_pos h1]
      split <;> split <;> split <;> split <;> omega
    · rw [if_neg h1]
      by_cases h2 : Y + W = y ∨ y + v = Y
      · rw [if_pos h2]
        split <;> split <;> split <;> split <;> omega
      · rw [if_neg h2]
        split <;> split <;> split <;> split <;> omega
theorem w64_w (x y : Int) : w64 (w64 x + y) = w64 (x + y) := by
  unfold w64
  omega
section STL
variable {K A G X O T A' K' G' X' S : Int → Int} {t t' n m o : Int}
theorem stW_mt {v v' : Int → Int} (w : CWld t t' K A G X O T A' K' G' X' S) (hv : ∀ c : Int, isN c → v c = v' c) (x : Int) : ∀ k : Nat, k ≤ 336 → stW K v k x = mtW T K' v' k x
  | 0, _ => rfl
  | k + 1, hk => by
    have ih := stW_mt w hv x k (by omega)
    have hc : 0 ≤ (k : Int) ∧ (k : Int) < 336 := by omega
    have aT := cw_T w hc
    show (if flw K k ∧ K k = 3 then w64 (stW K v k x + v k) else stW K v k x) = if T k ≠ 0 ∧ K' k = 3 then w64 (mtW T K' v' k x + v' k) else mtW T K' v' k x
    rw [ih, hv k hc]
    by_cases z : K (k : Int) = 3
    · have k1 : K (k : Int) ≠ -1 := by omega
      rw [if_pos ⟨⟨hc, k1, by omega⟩, z⟩, if_pos ⟨fun q => k1 (aT.mp q), by rw [(cw_e w hc k1).1]; exact z⟩]
    · rw [if_neg (fun q => z q.2), if_neg (fun q => by
        have k1 : K (k : Int) ≠ -1 := fun u => q.1 (aT.mpr u)
        have e := (cw_e w hc k1).1
        have := q.2
        omega)]
theorem stW_left {v v' : Int → Int} (w : CWld t t' K A G X O T A' K' G' X' S) (hv : ∀ c : Int, isN c → v c = v' c) (x r : Int) : ∀ k : Nat, k ≤ 336 → stW K v k (w64 (x + r)) = w64 (mtW T K' v' k x + r) := by
  intro k hk
  rw [stW_mt w hv (w64 (x + r)) k hk]
  have key : ∀ k : Nat, mtW T K' v' k (w64 (x + r)) = w64 (mtW T K' v' k x + r) := by
    intro k
    induction k with
    | zero => rfl
    | succ k ih =>
      show (if T k ≠ 0 ∧ K' k = 3 then w64 (mtW T K' v' k (w64 (x + r)) + v' k) else mtW T K' v' k (w64 (x + r))) = w64 ((if T k ≠ 0 ∧ K' k = 3 then w64 (mtW T K' v' k x + v' k) else mtW T K' v' k x) + r)
      rw [ih]
      by_cases z : T (k : Int) ≠ 0 ∧ K' k = 3
      · rw [if_pos z, if_pos z, w64_w, w64_w]
        congr 1
        omega
      · rw [if_neg z, if_neg z]
  exact key k
/-- the world behind the settling -/
theorem CWld_settle {g c g' c' : Int → Int} (w : CWld t t' K A G X O T A' K' G' X' S) (hg : ∀ j : Int, isN j → g j = gnC K A O n m o j ∧ g' j = g j) (hcm : ∀ j : Int, isN j → c j = cmk K A O n m 336 j ∧ c' j = c j) (hl : LwOK n m) (nb : ∀ j : Int, isN j → ¬ bad K A O n m o j) {u : Int} : CWld u u K (stA K A g c 336) G (stX K A X c 336) O T (mtA T K' A' g' c' 336) K' G' (mtX T K' A' X' c' 336) S := by
  have hA : ∀ c : Int, isN c → 0 ≤ A c ∧ A c ≤ 1000000 := fun c hc => cw_A w c hc.1 hc.2
  refine ⟨rfl, fun j j0 j1 => ?_, w.2.2⟩
  obtain ⟨⟨a1, a2, a3, a4⟩, a5, a6⟩ := w.2.1 j j0 j1
  have hj : isN j := ⟨j0, j1⟩
  have aT := cw_T w ⟨j0, j1⟩
  obtain ⟨b1, b2, b3⟩ := beh_b (o := o) w.2.2.1 hl hA hj
  have nbj := nb j hj
  unfold stA stX mtA mtX
  by_cases z : K j = -1
  · have z0 : T j = 0 := aT.mpr z
    rw [if_neg (show ¬ ((0 ≤ j ∧ j < ((336 : Nat) : Int)) ∧ flw K j ∧ K j ≠ 3) from fun q => q.2.1.2.1 z), if_neg (show ¬ ((0 ≤ j ∧ j < ((336 : Nat) : Int)) ∧ T j ≠ 0 ∧ K' j ≠ 3) from fun q => q.2.1 z0), if_neg (show ¬ ((0 ≤ j ∧ j < ((336 : Nat) : Int)) ∧ flw K j) from fun q => q.2.2.1 z), if_neg (show ¬ ((0 ≤ j ∧ j < ((336 : Nat) : Int)) ∧ T j ≠ 0) from fun q => q.2 z0)]
    exact ⟨⟨a1, a2, a3, a4⟩, a5, a6⟩
  · have z0 : T j ≠ 0 := fun q => z (aT.mp q)
    obtain ⟨e1, e2, e3⟩ := a4 z
    have hr : (0 ≤ j ∧ j < ((336 : Nat) : Int)) := ⟨j0, by omega⟩
    rw [e1]
    have cm0 : K j = 4 → cmk K A O n m 336 j = 0 := fun q => sm_0 (fun a _ => if_neg (fun u => u.2.2.2 q))
    have gn0 : K j = 4 → gnC K A O n m o j = 0 := fun q => if_neg (fun u => u.2.2 q)
    have q1 := hg j hj
    have q2 := hcm j hj
    have eb : beh K A O n m o j = A j - gnC K A O n m o j + cmk K A O n m 336 j := rfl
    rw [if_pos (show (0 ≤ j ∧ j < ((336 : Nat) : Int)) ∧ T j ≠ 0 from ⟨hr, z0⟩)]
    by_cases z3 : K j = 3
    · have fl3 : flw K j := ⟨⟨j0, j1⟩, z, by omega⟩
      rw [if_neg (fun q => q.2.2 z3), if_neg (fun q => q.2.2 z3), if_pos ⟨hr, fl3⟩, if_pos z3, if_pos z3]
      exact ⟨⟨a1, a2, a3, fun _ => ⟨rfl, e2, e3⟩⟩, fun q => by omega, fun _ => q2.2⟩
    · have am : rAm (A j - gnC K A O n m o j + cmk K A O n m 336 j) := by
        have : ¬ 1000000 < beh K A O n m o j := fun q => nbj ⟨⟨z, z3⟩, q⟩
        unfold rAm
        omega
      rw [if_pos (show (0 ≤ j ∧ j < ((336 : Nat) : Int)) ∧ T j ≠ 0 ∧ K j ≠ 3 from ⟨hr, z0, z3⟩), if_neg z3]
      by_cases z4 : K j = 4
      · rw [if_neg (fun q => q.2.1.2.2 z4), if_neg (fun q => q.2.2.2 z4), if_neg (by omega)]
        have c0 := cm0 z4
        have g0 := gn0 z4
        have ev : A' j + (c' j - g' j) = A j := by rw [e2]; omega
        rw [ev]
        exact ⟨⟨a1, a2, ⟨a3.1, a3.1, a3.2.2⟩, fun _ => ⟨rfl, rfl, e3⟩⟩, fun q => absurd q (by omega), fun q => (if_neg (show ¬ K j = 2 by omega)).trans (a6 q)⟩
      · have fl3 : flw K j := ⟨⟨j0, j1⟩, z, z4⟩
        rw [if_pos ⟨hr, fl3, z3⟩, if_pos (show (0 ≤ j ∧ j < ((336 : Nat) : Int)) ∧ flw K j from ⟨hr, fl3⟩), if_neg z3]
        have ev : A' j + (c' j - g' j) = A j - g j + c j := by rw [e2]; omega
        have ev2 : A j - g j + c j = A j - gnC K A O n m o j + cmk K A O n m 336 j := by omega
        rw [ev, ev2]
        refine ⟨⟨a1, a2, ⟨am, am, a3.2.2⟩, fun _ => ⟨rfl, rfl, e3⟩⟩, fun q => ?_, fun q => by omega⟩
        rw [if_pos q, if_pos q, e2]
        exact Or.inl ⟨rfl, (hA j hj).1⟩
/-- the flows behind the tick -/
theorem CFlo_new {F D V Bg F' D' V' : Int → Int} {many : Int} (w : CWld t t' K A G X O T A' K' G' X' S) (hl : LwOK n m) (hm : 0 ≤ many ∧ many ≤ 1024) (hf : ∀ a b : Int, isN a → isN b → fl F D V a b many.toNat = if a < ((336 : Nat) : Int) ∧ flw K a ∧ flw K b then fb A O n m a b else 0) (hc : ∀ j : Nat, j < many.toNat → F' j = F j ∧ D' j = D j ∧ V' j = V j) : CFlo n m (stB K A Bg 336) many F' D' V' := by
  have hA : ∀ c : Int, isN c → 0 ≤ A c ∧ A c ≤ 1000000 := fun c hc => cw_A w c hc.1 hc.2
  have bgv : ∀ c : Int, isN c → stB K A Bg 336 c = if flw K c then A c else -1 := fun c hc => if_pos (show 0 ≤ c ∧ c < ((336 : Nat) : Int) from ⟨hc.1, by have := hc.2; omega⟩)
  refine ⟨⟨hl.1.1, hl.1.2, hl.2.1, hl.2.2⟩, hm, fun c c0 c1 => ?_, fun a b ha hb => ?_⟩
  · rw [bgv c ⟨c0, c1⟩]
    have := hA c ⟨c0, c1⟩
    split <;> omega
  · rw [fl_c (F' := F) (T' := D) (A' := V) many.toNat hc, hf a b ha hb, bgv a ha, bgv b hb]
    have h1 := hA a ha
    have h2 := hA b hb
    have ha2 := ha.2
    by_cases z1 : flw K a
    · rw [if_pos z1]
      by_cases z2 : flw K b
      · rw [if_pos z2, if_pos ⟨by omega, z1, z2⟩, if_neg (by omega)]
        unfold fb
        rw [nb_sb w.2.2.1 ha hb z1.2.1 z2.2.1]
      · rw [if_neg z2, if_neg (fun q => z2 q.2.2), if_pos (Or.inr (by decide))]
    · rw [if_neg z1, if_neg (fun q => z1 q.2.1), if_pos (Or.inl (by decide))]
end STL
