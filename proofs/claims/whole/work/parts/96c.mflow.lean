/-! tick: the reference's flows -/
theorem fl_c {F T A F' T' A' : Int → Int} {a b : Int} : ∀ k : Nat, (∀ j : Nat, j < k → F j = F' j ∧ T j = T' j ∧ A j = A' j) → fl F T A a b k = fl F' T' A' a b k
  | 0, _ => rfl
  | k + 1, h => by
    have ih := fl_c (a := a) (b := b) k (fun j hj => h j (by omega))
    obtain ⟨h1, h2, h3⟩ := h k (by omega)
    show (if F k = a ∧ T k = b then A k else fl F T A a b k) = if F' k = a ∧ T' k = b then A' k else fl F' T' A' a b k
    rw [ih, h1, h2, h3]
theorem fl_app (F T A : Int → Int) (a b c e v : Int) {m : Int} (hm : 0 ≤ m) : fl (up F m c) (up T m e) (up A m v) a b (m + 1).toNat = if c = a ∧ e = b then v else fl F T A a b m.toNat := by
  rw [show (m + 1).toNat = m.toNat + 1 by omega]
  have em : ((m.toNat : Nat) : Int) = m := by omega
  show (if up F m c ((m.toNat : Nat) : Int) = a ∧ up T m e ((m.toNat : Nat) : Int) = b then up A m v ((m.toNat : Nat) : Int) else fl (up F m c) (up T m e) (up A m v) a b m.toNat) = _
  rw [em, up_s, up_s, up_s, fl_c (F' := F) (T' := T) (A' := A) m.toNat (fun j hj => ⟨up_n _ _ (by omega), up_n _ _ (by omega), up_n _ _ (by omega)⟩)]
def fl1 (g : Hp) (c b m v : Int) : Hp := hst (hst (hst (hst (hst (hst g 68 m c) 69 m b) 70 m v) 50 37 (w32 (m + 1))) 71 c (w32 (g 71 c + v))) 72 b (w32 (g 72 b + v))
/-- what the reference's world is, with its amounts -/
def MF (K A O : Int → Int) (n m o : Int) (g : Hp) : Prop := MS K O n m o g ∧ ∀ c : Int, isN c → K c ≠ -1 → g 58 c = A c
def FrF (h g : Hp) : Prop := (∀ a : Int, a ≠ 50 → a ≠ 63 → a ≠ 64 → a ≠ 68 → a ≠ 69 → a ≠ 70 → a ≠ 71 → a ≠ 72 → g a = h a) ∧ ∀ i : Int, i ≠ 29 → i ≠ 32 → i ≠ 37 → g 50 i = h 50 i
def InF (K A O : Int → Int) (n m o : Int) (h : Hp) (k : Nat) (g : Hp) : Prop := FrF h g ∧ (0 ≤ g 50 37 ∧ g 50 37 ≤ sm (onK K) k) ∧ (∀ c : Int, isN c → g 71 c = if c < k then gnC K A O n m o c else 0) ∧ (∀ b : Int, isN b → g 72 b = cmk K A O n m k b) ∧ ∀ a b : Int, isN a → isN b → fl (g 68) (g 69) (g 70) a b (g 50 37).toNat = if a < k ∧ flw K a ∧ flw K b then fb A O n m a b else 0
theorem near_len {K O : Int → Int} {c L : Int} {B D : Int → Int} (P : Prt K O) (hL : 0 ≤ L) (N : NearOK O c 0 L B D) : L ≤ onw c := by
  have e := near_sum0 N (fun _ x => x)
  rw [nS_0 (fun _ => rfl)] at e
  have e2 := nb_tot (c := c) P
  have e3 : sm (fun b => (fun _ x => x) b (nb O c b)) 336 = sm (fun b => nb O c b) 336 := rfl
  rw [e3, e2] at e
  have s : sm (fun _ => 1) L.toNat ≤ sm (fun j => (fun _ x => x) (B j) (D j)) L.toNat := sm_le _ (fun j hj => (N.1 j (by omega) (by omega)).2.2)
  rw [e] at s
  have e4 : ∀ k : Nat, sm (fun _ => 1) k = (k : Int) := by
    intro k
    induction k with
    | zero => rfl
    | succ k ih => show sm (fun _ => 1) k + 1 = _; rw [ih]; omega
  rw [e4] at s
  omega
section MFL
variable {E : PvEnv} {d : Nat} {K A O : Int → Int} {n m o : Int}
theorem MF_Fr {h g : Hp} (F : FrF h g) (M : MF K A O n m o h) : MF K A O n m o g := by
  obtain ⟨f1, f2⟩ := F
  obtain ⟨⟨m1, m2, m3, m4, m5, m6⟩, m7⟩ := M
  refine ⟨⟨fun s h0 h1 => ?_, fun c hc => ?_, m3, ?_, ?_, ?_⟩, fun c hc kc => ?_⟩
  · rw [f1 62 (by decide) (by decide) (by decide) (by decide) (by decide) (by decide) (by decide) (by decide)]; exact m1 s h0 h1
  · rw [f1 57 (by decide) (by decide) (by decide) (by decide) (by decide) (by decide) (by decide) (by decide), f1 59 (by decide) (by decide) (by decide) (by decide) (by decide) (by decide) (by decide) (by decide)]; exact m2 c hc
  · rw [f2 10 (by decide) (by decide) (by decide)]; exact m4
  · rw [f2 11 (by decide) (by decide) (by decide)]; exact m5
  · rw [f2 12 (by decide) (by decide) (by decide)]; exact m6
  · rw [f1 58 (by decide) (by decide) (by decide) (by decide) (by decide) (by decide) (by decide) (by decide)]; exact m7 c hc kc
theorem e_116 (hE : ∀ k, E 50 k = refT 50 k) {g : Hp} {over c j v : Int} {v5 : PV} {Q : Int → Hp → Prop} (hm : 0 ≤ g 50 37 ∧ g 50 37 < 1024) (hj : 0 ≤ j ∧ j < 16) (hc : 0 ≤ c ∧ c < 336) (hB : 0 ≤ g 63 j ∧ g 63 j < 336) : Ws E d mX10_setFlows Q 116 [(2, 50), (1, over), (9, 0), (0, c), (0, j), v5] [(0, v)] g = if 0 < v then Ws E d mX10_setFlows Q 75 [(2, 50), (1, over), (9, 0), (0, c), (0, w32 (j + 1)), (0, v)] [] (fl1 g c (g 63 j) (g 50 37) v) else Ws E d mX10_setFlows Q 75 [(2, 50), (1, over), (9, 0), (0, c), (0, w32 (j + 1)), (0, v)] [] g := by
  rw [b_X10_setFlows_116 hE]
  by_cases z : 0 < v
  · rw [if_pos z, if_pos z]
    show ((0 ≤ g 50 37 ∧ g 50 37 < 1024) ∧ ((0 ≤ j ∧ j < 16) ∧ ((0 ≤ g 50 37 ∧ g 50 37 < 1024) ∧ ((0 ≤ g 50 37 ∧ g 50 37 < 1024) ∧ ((0 ≤ c ∧ c < 336) ∧ ((0 ≤ c ∧ c < 336) ∧ ((0 ≤ j ∧ j < 16) ∧ ((0 ≤ g 63 j ∧ g 63 j < 336) ∧ ((0 ≤ g 63 j ∧ g 63 j < 336) ∧ Ws E d mX10_setFlows Q 75 [(2, 50), (1, over), (9, 0), (0, c), (0, w32 (j + 1)), (0, v)] [] (fl1 g c (g 63 j) (g 50 37) v)))))))))) = _
    rw [and_tl hm, and_tl hj, and_tl hm, and_tl hm, and_tl hc, and_tl hc, and_tl hj, and_tl hB, and_tl hB]
  · rw [if_neg z, if_neg z]
theorem fl1_r {g : Hp} {c b m v : Int} : (∀ a : Int, a ≠ 50 → a ≠ 68 → a ≠ 69 → a ≠ 70 → a ≠ 71 → a ≠ 72 → fl1 g c b m v a = g a) ∧ (∀ i : Int, i ≠ 37 → fl1 g c b m v 50 i = g 50 i) ∧ fl1 g c b m v 50 37 = w32 (m + 1) ∧ fl1 g c b m v 68 = up (g 68) m c ∧ fl1 g c b m v 69 = up (g 69) m b ∧ fl1 g c b m v 70 = up (g 70) m v ∧ fl1 g c b m v 71 = up (g 71) c (w32 (g 71 c + v)) ∧ fl1 g c b m v 72 = up (g 72) b (w32 (g 72 b + v)) := by
  unfold fl1
  refine ⟨fun a h1 h2 h3 h4 h5 h6 => ?_, fun i hi => ?_, ?_, ?_, ?_, ?_, ?_, ?_⟩
  · rw [hst_off _ h6, hst_off _ h5, hst_off _ h1, hst_off _ h4, hst_off _ h3, hst_off _ h2]
  · rw [hst_off _ (by decide), hst_off _ (by decide), hst_o _ _ _ hi, hst_off _ (by decide), hst_off _ (by decide), hst_off _ (by decide)]
  · rw [hst_off _ (by decide), hst_off _ (by decide), hst_s]
  · rw [hst_off _ (by decide), hst_off _ (by decide), hst_off _ (by decide), hst_off _ (by decide), hst_off _ (by decide), hst_row, hrow_s]
  · rw [hst_off _ (by decide), hst_off _ (by decide), hst_off _ (by decide), hst_off _ (by decide), hst_row, hrow_s, hst_off _ (by decide)]
  · rw [hst_off _ (by decide), hst_off _ (by decide), hst_off _ (by decide), hst_row, hrow_s, hst_off _ (by decide), hst_off _ (by decide)]
  · rw [hst_off _ (by decide), hst_row, hrow_s, hst_off _ (by decide), hst_off _ (by decide), hst_off _ (by decide), hst_off _ (by decide)]
  · rw [hst_row, hrow_s, hst_off _ (by decide), hst_off _ (by decide), hst_off _ (by decide), hst_off _ (by decide), hst_off _ (by decide)]
/-- one cell's flows -/
theorem e_m_cell (hE : ∀ k, E 50 k = refT 50 k) {h g : Hp} {c : Nat} {v4 v5 : PV} (P : Prt K O) (M : MF K A O n m o h) (hl : LwOK n m) (hA : ∀ c : Int, isN c → 0 ≤ A c ∧ A c ≤ 1000000) (hc : c < 336) (y : flw K c) (I : InF K A O n m o h c g) : ∃ (g' : Hp) (v : PV × PV), InF K A O n m o h (c + 1) g' ∧ ∀ Q, Ws E (d + 4) mX10_setFlows Q 38 [(2, 50), (1, rmk K A n m o c), (9, 0), (0, (c : Int)), v4, v5] [] g = Ws E (d + 4) mX10_setFlows Q 38 [(2, 50), (1, rmk K A n m o (c + 1)), (9, 0), (0, ((c + 1 : Nat) : Int)), v.1, v.2] [] g' := by
  have hn : isN (c : Int) := y.1
  have hc' : 0 ≤ (c : Int) ∧ (c : Int) < 336 := y.1
  obtain ⟨F, j1, j2, j3, j4⟩ := I
  have Mg := MF_Fr F M
  have ac := hA c hn
  have gb := gon_b (o := o) (c := (c : Int)) P hl ac.1
  have bw := gw_b (c : Int)
  have rb := rm_b (c : Int)
  have b960 := links_960 P
  have mono := sm_mono (f := onK K) (onK_n K) (show c + 1 ≤ 336 by omega)
  have oc : onK K c = onw c := if_neg y.2.1
  have ec : sm (onK K) (c + 1) = sm (onK K) c + onK K c := rfl
  obtain ⟨L, B, D, q1, q2, q3⟩ := e_m_setNear (d := d + 1) (h := g) (c := (c : Int)) hE (MS_S P Mg.1) hn
  have q2' := near_c Mg.1.1 q2
  have Ll := near_len P q1.1 q2'
  have go := lst_go (K := K) (A := A) (n := n) (m := m) q2'
  have to := fun b => lst_to (K := K) (A := A) (n := n) (m := m) q2' b
  rw [show (L - 0).toNat = L.toNat by omega] at go to
  have z0 : ∀ f : Int → Int, (fun j : Int => f (0 + j)) = f := fun f => by funext j; rw [Int.zero_add]
  have go : sm (fun j => if flw K (B j) then fv (A c) n m (D j) (gw c) else 0) L.toNat = gT1 K A O n m c := by
    refine Eq.trans (sm_c _ (fun j _ => ?_)) go
    rw [Int.zero_add]
  have to : ∀ b, sm (fun j => if flw K (B j) ∧ B j = b then fv (A c) n m (D j) (gw c) else 0) L.toNat = if flw K b then fb A O n m c b else 0 := fun b => by
    refine Eq.trans (sm_c _ (fun j _ => ?_)) (to b)
    rw [Int.zero_add]
  have term : ∀ j : Nat, j < L.toNat → fvOK (A c) n m (D j) (gw c) := fun j hj => by
    obtain ⟨y1, y2, y3⟩ := q2'.1 j (by omega) (by omega)
    have nbb := nb_b O c (B j)
    exact ⟨ac, hl.1, hl.2, by omega, bw⟩
  have S1b : ∀ k : Nat, k ≤ L.toNat → 0 ≤ sm (fun j => if flw K (B j) then fv (A c) n m (D j) (gw c) else 0) k ∧ sm (fun j => if flw K (B j) then fv (A c) n m (D j) (gw c) else 0) k ≤ gT1 K A O n m c := by
    intro k hk
    have nn : ∀ j : Nat, j < L.toNat → 0 ≤ (if flw K (B j) then fv (A c) n m (D j) (gw c) else 0) := fun j hj => by
      split
      · exact (fv_b (term j hj)).2.2.2.1
      · exact Int.le_refl _
    refine ⟨sm_nn k (fun j hj => nn j (by omega)), ?_⟩
    rw [← go]
    obtain ⟨e, he⟩ : ∃ e, L.toNat = k + e := ⟨L.toNat - k, by omega⟩
    rw [he, sm_app]
    have := sm_nn (f := fun i => if flw K (B ((k : Int) + i)) then fv (A c) n m (D ((k : Int) + i)) (gw c) else 0) e (fun j hj => by
      have := nn (k + j) (by omega)
      rw [show ((k + j : Nat) : Int) = (k : Int) + j by omega] at this
      exact this)
    omega
  have X1b : ∀ (b : Int) (k : Nat), k ≤ L.toNat → 0 ≤ sm (fun j => if flw K (B j) ∧ B j = b then fv (A c) n m (D j) (gw c) else 0) k ∧ sm (fun j => if flw K (B j) ∧ B j = b then fv (A c) n m (D j) (gw c) else 0) k ≤ 1000000 := by
    intro b k hk
    have s := S1b k hk
    have le : sm (fun j => if flw K (B j) ∧ B j = b then fv (A c) n m (D j) (gw c) else 0) k ≤ sm (fun j => if flw K (B j) then fv (A c) n m (D j) (gw c) else 0) k := sm_le k (fun j hj => by
      have fj := (fv_b (term j (by omega))).2.2.2.1
      by_cases z : flw K (B j)
      · rw [if_pos z]
        split
        · exact Int.le_refl _
        · exact fj
      · rw [if_neg z, if_neg (fun q => z q.1)]
        exact Int.le_refl _)
    refine ⟨sm_nn k (fun j hj => ?_), by omega⟩
    have fj := (fv_b (term j (by omega))).2.2.2.1
    split
    · exact fj
    · exact Int.le_refl _
  generalize hg1 : vN g (up (up (g 50) 29 L) 32 (rm c)) B D = g1 at q3
  have r1 : ∀ a : Int, a ≠ 50 → a ≠ 63 → a ≠ 64 → g1 a = g a := fun a h1 h2 h3 => by rw [← hg1]; exact vN_off h1 h2 h3
  have r2 : ∀ i : Int, i ≠ 29 → i ≠ 32 → g1 50 i = g 50 i := fun i h1 h2 => by
    rw [← hg1]
    show up (up (g 50) 29 L) 32 (rm c) i = g 50 i
    rw [up_n _ _ h2, up_n _ _ h1]
  have r29 : g1 50 29 = L := by
    rw [← hg1]
    show up (up (g 50) 29 L) 32 (rm c) 29 = L
    rw [up_n _ _ (by decide), up_s]
  have r32 : g1 50 32 = rm c := by
    rw [← hg1]
    show up (up (g 50) 29 L) 32 (rm c) 32 = rm c
    exact up_s _ _ _
  have r63 : g1 63 = B := by rw [← hg1]; rfl
  have r64 : g1 64 = D := by rw [← hg1]; rfl
  obtain ⟨⟨g2, v5'⟩, ⟨k1, k2, k3, k4, k5, k6⟩, e2⟩ := loop_e (σ := Hp × PV) (Inv := fun j s => (∀ a : Int, a ≠ 50 → a ≠ 68 → a ≠ 69 → a ≠ 70 → a ≠ 71 → a ≠ 72 → s.1 a = g1 a) ∧ (∀ i : Int, i ≠ 37 → s.1 50 i = g1 50 i) ∧ (0 ≤ s.1 50 37 ∧ s.1 50 37 ≤ g 50 37 + j) ∧ (∀ x : Int, isN x → s.1 71 x = if x = c then sm (fun j => if flw K (B j) then fv (A c) n m (D j) (gw c) else 0) j else g 71 x) ∧ (∀ b : Int, isN b → s.1 72 b = g 72 b + sm (fun j => if flw K (B j) ∧ B j = b then fv (A c) n m (D j) (gw c) else 0) j) ∧ ∀ a b : Int, isN a → isN b → fl (s.1 68) (s.1 69) (s.1 70) a b (s.1 50 37).toNat = if a = c then sm (fun j => if flw K (B j) ∧ B j = b then fv (A c) n m (D j) (gw c) else 0) j else fl (g 68) (g 69) (g 70) a b (g 50 37).toNat) (X := fun Q j s => Ws E (d + 4) mX10_setFlows Q 75 [(2, 50), (1, rmk K A n m o c), (9, 0), (0, (c : Int)), (0, (j : Int)), s.2] [] s.1) L.toNat (g1, v5) ⟨fun a _ _ _ _ _ _ => rfl, fun i _ => rfl, by
      show 0 ≤ g1 50 37 ∧ g1 50 37 ≤ g 50 37 + ((0 : Nat) : Int)
      rw [r2 37 (by decide) (by decide)]
      omega, fun x hx => by
      show g1 71 x = _
      rw [r1 71 (by decide) (by decide) (by decide)]
      by_cases z : x = c
      · rw [if_pos z, z, j2 c hn, if_neg (by omega)]
        rfl
      · rw [if_neg z], fun b hb => by
      show g1 72 b = _
      rw [r1 72 (by decide) (by decide) (by decide)]
      exact (Int.add_zero _).symm, fun a b ha hb => by
      show fl (g1 68) (g1 69) (g1 70) a b (g1 50 37).toNat = _
      rw [r1 68 (by decide) (by decide) (by decide), r1 69 (by decide) (by decide) (by decide), r1 70 (by decide) (by decide) (by decide), r2 37 (by decide) (by decide)]
      by_cases z : a = c
      · rw [if_pos z, j4 a b ha hb, if_neg (fun q => by have := q.1; omega)]
        rfl
      · rw [if_neg z]⟩ (by
    rintro j ⟨g2, v5⟩ hj ⟨k1, k2, k3, k4, k5, k6⟩
    simp only at k1 k2 k3 k4 k5 k6
    obtain ⟨y1, y2, y3⟩ := q2'.1 j (by omega) (by omega)
    have y1' : 0 ≤ B j ∧ B j < 336 := y1
    have kB := (nb_in P (show 1 ≤ nb O c (B j) by omega)).2
    have tj := term j hj
    have fj := (fv_b tj).2.2.2
    have s1 := S1b j (by omega)
    have s2 := S1b (j + 1) (by omega)
    have u1 : sm (fun j => if flw K (B j) then fv (A c) n m (D j) (gw c) else 0) (j + 1) = sm (fun j => if flw K (B j) then fv (A c) n m (D j) (gw c) else 0) j + (if flw K (B j) then fv (A c) n m (D j) (gw c) else 0) := rfl
    have u2 : ∀ b, sm (fun j => if flw K (B j) ∧ B j = b then fv (A c) n m (D j) (gw c) else 0) (j + 1) = sm (fun j => if flw K (B j) ∧ B j = b then fv (A c) n m (D j) (gw c) else 0) j + (if flw K (B j) ∧ B j = b then fv (A c) n m (D j) (gw c) else 0) := fun b => rfl
    have p63 : g2 63 = B := by rw [k1 63 (by decide) (by decide) (by decide) (by decide) (by decide) (by decide)]; exact r63
    have p64 : g2 64 = D := by rw [k1 64 (by decide) (by decide) (by decide) (by decide) (by decide) (by decide)]; exact r64
    have p29 : g2 50 29 = L := by rw [k2 29 (by decide)]; exact r29
    have p59 : g2 59 = g 59 := by rw [k1 59 (by decide) (by decide) (by decide) (by decide) (by decide) (by decide)]; exact r1 59 (by decide) (by decide) (by decide)
    have p58 : g2 58 c = A c := by rw [k1 58 (by decide) (by decide) (by decide) (by decide) (by decide) (by decide), r1 58 (by decide) (by decide) (by decide)]; exact Mg.2 c hn y.2.1
    have p10 : g2 50 10 = n := by rw [k2 10 (by decide), r2 10 (by decide) (by decide)]; exact Mg.1.2.2.2.1
    have p11 : g2 50 11 = m := by rw [k2 11 (by decide), r2 11 (by decide) (by decide)]; exact Mg.1.2.2.2.2.1
    have eB := (Mg.1.2.1 (B j) y1).2 kB
    have m37 : 0 ≤ g2 50 37 ∧ g2 50 37 < 1024 := by omega
    have eB2 : g2 63 j = B j := by rw [p63]
    have ents : ∀ x : Int, ∀ Q, Ws E (d + 4) mX10_setFlows Q 116 [(2, 50), (1, rmk K A n m o c), (9, 0), (0, (c : Int)), (0, (j : Int)), v5] [(0, x)] g2 = if 0 < x then Ws E (d + 4) mX10_setFlows Q 75 [(2, 50), (1, rmk K A n m o c), (9, 0), (0, (c : Int)), (0, ((j + 1 : Nat) : Int)), (0, x)] [] (fl1 g2 c (B j) (g2 50 37) x) else Ws E (d + 4) mX10_setFlows Q 75 [(2, 50), (1, rmk K A n m o c), (9, 0), (0, (c : Int)), (0, ((j + 1 : Nat) : Int)), (0, x)] [] g2 := fun x Q => by
      have := e_116 (d := d + 4) (g := g2) (over := rmk K A n m o c) (c := (c : Int)) (j := (j : Int)) (v := x) (v5 := v5) (Q := Q) hE m37 (by omega) hc' (by rw [eB2]; exact y1')
      rw [eB2, w32_n1 (by omega)] at this
      exact this
    have st : ∀ Q, Ws E (d + 4) mX10_setFlows Q 75 [(2, 50), (1, rmk K A n m o c), (9, 0), (0, (c : Int)), (0, (j : Int)), v5] [] g2 = Ws E (d + 4) mX10_setFlows Q 116 [(2, 50), (1, rmk K A n m o c), (9, 0), (0, (c : Int)), (0, (j : Int)), v5] [(0, if flw K (B j) then fv (A c) n m (D j) (gw c) else 0)] g2 := fun Q => by
      have fo := fun Q => e_m_flowOf (d := d + 2) (Q := Q) (h := g2) (c := (c : Int)) (s := D j) hE hn (by rw [p58, p10, p11]; exact tj)
      rw [p58, p10, p11] at fo
      rw [b_X10_setFlows_75 hE, p29, if_pos (by omega), and_tl (by omega), p63, and_tl y1', p59, eB, and_tl (by omega), p64, fo]
      by_cases z : K (B j) = 4
      · rw [if_pos z, if_neg (fun q => q.2.2 z)]
      · rw [if_neg z, if_pos (show flw K (B j) from ⟨y1', kB, z⟩)]
    by_cases z : flw K (B j) ∧ 0 < fv (A c) n m (D j) (gw c)
    · obtain ⟨t1, t2, t3, t4, t5, t6, t7, t8⟩ := fl1_r (g := g2) (c := (c : Int)) (b := B j) (m := g2 50 37) (v := fv (A c) n m (D j) (gw c))
      rw [if_pos z.1] at u1
      rw [u1] at s2
      have c71 := k4 c hn
      rw [if_pos rfl] at c71
      have c72 := k5 (B j) y1
      have jB := j3 (B j) y1
      have cb := cmk_b (K := K) (A := A) (n := n) (m := m) P hl hA (B j) (k := c) (by omega)
      have xb := X1b (B j) j (by omega)
      refine ⟨(fl1 g2 c (B j) (g2 50 37) (fv (A c) n m (D j) (gw c)), (0, fv (A c) n m (D j) (gw c))), ⟨fun a h1 h2 h3 h4 h5 h6 => (t1 a h1 h2 h3 h4 h5 h6).trans (k1 a h1 h2 h3 h4 h5 h6), fun i hi => (t2 i hi).trans (k2 i hi), ?_, fun x hx => ?_, fun b hb => ?_, fun a b ha hb => ?_⟩, fun Q => ?_⟩
      · show 0 ≤ fl1 g2 c (B j) (g2 50 37) (fv (A c) n m (D j) (gw c)) 50 37 ∧ fl1 g2 c (B j) (g2 50 37) (fv (A c) n m (D j) (gw c)) 50 37 ≤ g 50 37 + ((j + 1 : Nat) : Int)
        rw [t3, w32_of (by omega) (by omega)]
        omega
      · show fl1 g2 c (B j) (g2 50 37) (fv (A c) n m (D j) (gw c)) 71 x = _
        rw [t7]
        by_cases w : x = c
        · rw [w, up_s, if_pos rfl, c71, u1, w32_of (by omega) (by omega)]
        · rw [up_n _ _ w, if_neg w, k4 x hx, if_neg w]
      · show fl1 g2 c (B j) (g2 50 37) (fv (A c) n m (D j) (gw c)) 72 b = _
        rw [t8, u2]
        by_cases w : b = B j
        · rw [w, up_s, if_pos ⟨z.1, rfl⟩, c72, w32_of (by omega) (by omega), Int.add_assoc]
        · rw [up_n _ _ w, if_neg (fun q => w q.2.symm), Int.add_zero]
          exact k5 b hb
      · show fl (fl1 g2 c (B j) (g2 50 37) (fv (A c) n m (D j) (gw c)) 68) (fl1 g2 c (B j) (g2 50 37) (fv (A c) n m (D j) (gw c)) 69) (fl1 g2 c (B j) (g2 50 37) (fv (A c) n m (D j) (gw c)) 70) a b (fl1 g2 c (B j) (g2 50 37) (fv (A c) n m (D j) (gw c)) 50 37).toNat = _
        rw [t3, t4, t5, t6, w32_of (x := g2 50 37 + 1) (by omega) (by omega), fl_app _ _ _ _ _ _ _ _ m37.1, k6 a b ha hb, u2]
        by_cases w1 : a = c
        · rw [if_pos w1]
          by_cases w2 : B j = b
          · have none : sm (fun j => if flw K (B j) ∧ B j = b then fv (A c) n m (D j) (gw c) else 0) j = 0 := sm_0 (fun i hi => if_neg (fun q => by
              have := q2'.2.1 i j (by omega) (by omega) (by omega) (by omega) (by rw [q.2, w2])
              omega))
            rw [if_pos ⟨w1.symm, w2⟩, if_pos w1, if_pos ⟨z.1, w2⟩, none, Int.zero_add]
          · rw [if_neg (fun q => w2 q.2), if_pos w1, if_neg (fun q => w2 q.2), Int.add_zero]
        · rw [if_neg w1, if_neg (fun q => w1 q.1.symm), if_neg w1]
      · exact (st Q).trans (by rw [if_pos z.1, ents, if_pos z.2])
    · have v0 : (if flw K (B j) then fv (A c) n m (D j) (gw c) else 0) = 0 := by
        by_cases w : flw K (B j)
        · rw [if_pos w]
          have : ¬ 0 < fv (A c) n m (D j) (gw c) := fun q => z ⟨w, q⟩
          omega
        · rw [if_neg w]
      have v1 : ∀ b, (if flw K (B j) ∧ B j = b then fv (A c) n m (D j) (gw c) else 0) = 0 := fun b => by
        by_cases w : flw K (B j) ∧ B j = b
        · rw [if_pos w]
          rw [if_pos w.1] at v0
          exact v0
        · rw [if_neg w]
      refine ⟨(g2, (0, 0)), ⟨k1, k2, ?_, fun x hx => ?_, fun b hb => ?_, fun a b ha hb => ?_⟩, fun Q => ?_⟩
      · show 0 ≤ g2 50 37 ∧ g2 50 37 ≤ g 50 37 + ((j + 1 : Nat) : Int)
        omega
      · show g2 71 x = _
        rw [u1, v0, Int.add_zero]
        exact k4 x hx
      · show g2 72 b = _
        rw [u2, v1, Int.add_zero]
        exact k5 b hb
      · show fl (g2 68) (g2 69) (g2 70) a b (g2 50 37).toNat = _
        rw [u2, v1, Int.add_zero]
        exact k6 a b ha hb
      · exact (st Q).trans (by rw [v0, ents, if_neg (by decide)]))
  simp only at k1 k2 k3 k4 k5 k6
  have c71 := k4 c hn
  rw [if_pos rfl, go] at c71
  have rbk := rmk_b (K := K) (A := A) (o := o) P hl hA (k := c) (by omega)
  refine ⟨hst g2 71 c (gT1 K A O n m c + frm A n m o c), ((0, frm A n m o c), v5'), ⟨⟨fun a h1 h2 h3 h4 h5 h6 h7 h8 => ?_, fun i h1 h2 h3 => ?_⟩, ?_, fun x hx => ?_, fun b hb => ?_, fun a b ha hb => ?_⟩, fun Q => ?_⟩
  · rw [hst_off _ h7, k1 a h1 h4 h5 h6 h7 h8, r1 a h1 h2 h3]
    exact F.1 a h1 h2 h3 h4 h5 h6 h7 h8
  · rw [hst_off _ (by decide), k2 i h3, r2 i h1 h2]
    exact F.2 i h1 h2 h3
  · rw [hst_off _ (by decide)]
    omega
  · by_cases w : x = c
    · rw [w, hst_s, if_pos (by omega)]
      unfold gnC gon
      rw [if_pos y]
    · rw [hst_o _ _ _ w, k4 x hx, if_neg w, j2 x hx]
      by_cases u : x < (c : Int)
      · rw [if_pos u, if_pos (by omega)]
      · rw [if_neg u, if_neg (by omega)]
  · rw [hst_off _ (by decide), k5 b hb, j3 b hb, to b]
    show _ = cmk K A O n m c b + (if flw K c ∧ flw K b then fb A O n m c b else 0)
    by_cases w : flw K b
    · rw [if_pos w, if_pos ⟨y, w⟩]
    · rw [if_neg w, if_neg (fun q => w q.2)]
  · rw [hst_off _ (by decide), hst_off _ (by decide), hst_off _ (by decide), hst_off _ (by decide), k6 a b ha hb, to b, j4 a b ha hb]
    by_cases w1 : a = c
    · rw [if_pos w1, w1]
      by_cases w : flw K b
      · rw [if_pos w, if_pos ⟨by omega, y, w⟩]
      · rw [if_neg w, if_neg (fun q => w q.2.2)]
    · rw [if_neg w1]
      by_cases w : a < (c : Int) ∧ flw K a ∧ flw K b
      · rw [if_pos w, if_pos ⟨by omega, w.2⟩]
      · rw [if_neg w, if_neg (fun q => w ⟨by omega, q.2⟩)]
  · have mT := (Mg.1.2.1 c hn)
    have p58 : g2 58 c = A c := by rw [k1 58 (by decide) (by decide) (by decide) (by decide) (by decide) (by decide), r1 58 (by decide) (by decide) (by decide)]; exact Mg.2 c hn y.2.1
    have p10 : g2 50 10 = n := by rw [k2 10 (by decide), r2 10 (by decide) (by decide)]; exact Mg.1.2.2.2.1
    have p11 : g2 50 11 = m := by rw [k2 11 (by decide), r2 11 (by decide) (by decide)]; exact Mg.1.2.2.2.2.1
    have p12 : g2 50 12 = o := by rw [k2 12 (by decide), r2 12 (by decide) (by decide)]; exact Mg.1.2.2.2.2.2
    have p29 : g2 50 29 = L := by rw [k2 29 (by decide)]; exact r29
    have p32 : g2 50 32 = rm c := by rw [k2 32 (by decide)]; exact r32
    have fo := fun Q => e_m_flowOf (d := d + 2) (Q := Q) (h := g2) (c := (c : Int)) (s := rm c) hE hn (by rw [p58, p10, p11]; exact ⟨ac, hl.1, hl.2, rb, bw⟩)
    rw [p58, p10, p11] at fo
    have ur : rmk K A n m o (c + 1) = rmk K A n m o c + frm A n m o c := by
      show rmk K A n m o c + (if flw K c then frm A n m o c else 0) = _
      rw [if_pos y]
    have r232 : ∀ x : Int, x = frm A n m o c → Ws E (d + 4) mX10_setFlows Q 232 [(2, 50), (1, rmk K A n m o c), (9, 0), (0, (c : Int)), (0, ((L.toNat : Nat) : Int)), v5'] [(0, x)] g2 = Ws E (d + 4) mX10_setFlows Q 38 [(2, 50), (1, rmk K A n m o (c + 1)), (9, 0), (0, ((c + 1 : Nat) : Int)), (0, frm A n m o c), v5'] [] (hst g2 71 c (gT1 K A O n m c + frm A n m o c)) := fun x hx => by
      rw [hx, b_X10_setFlows_232 hE, and_tl hc', and_tl hc', c71, w64_of (by omega) (by omega), w32_of (x := gT1 K A O n m c + frm A n m o c) (by omega) (by omega), w32_n1 (by omega), ur]
    rw [b_X10_setFlows_38 hE, if_pos (by omega), and_tl hc', if_neg (fun q => y.2.1 (mT.1.mp q)), and_tl hc', if_neg (by rw [mT.2 y.2.1]; exact y.2.2), q3]
    refine (e2 Q).trans ?_
    show Ws E (d + 4) mX10_setFlows Q 75 [(2, 50), (1, rmk K A n m o c), (9, 0), (0, (c : Int)), (0, ((L.toNat : Nat) : Int)), v5'] [] g2 = _
    rw [b_X10_setFlows_75 hE, p29, if_neg (by omega), p12, p32, fo, b_X10_setFlows_231 hE]
    by_cases w1 : o = 1
    · rw [if_pos w1]
      by_cases w2 : 0 < rm c
      · rw [if_pos w2]
        exact r232 _ (by unfold frm; rw [if_pos w1])
      · rw [if_neg w2]
        exact r232 _ (by unfold frm; rw [if_pos w1, show rm c = 0 by omega, fv_0])
    · rw [if_neg w1]
      exact r232 _ (by unfold frm; rw [if_neg w1])
end MFL
