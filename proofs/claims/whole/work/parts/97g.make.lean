/-! constructors: what one of them makes -/
def HM (E : PvEnv) (Lx : Nat) : Prop := HpMode E Lx ∧ E (-3) 0 = -7
theorem sl_h {E : PvEnv} {Lx : Nat} {M : MRec} {h : Hp} (hM : mMc M ≠ 0) (hE : HM E Lx) : HM (setLim E M h) Lx ∧ setLim E M h (-3) 1 = h (-3) 0 + mMc M ∧ setLim E M h (-3) 2 = h (-3) 1 + mMs M := by
  obtain ⟨⟨e1, e2⟩, e3⟩ := hE
  obtain ⟨s1, s2, s3, s4⟩ := sl_e (M := M) (h := h) hM e2 e3
  refine ⟨⟨⟨?_, s1⟩, s2⟩, s3, s4⟩
  unfold setLim
  rw [if_neg hM]
  show (if (-2 : Int) = -3 ∧ (0 : Int) = 1 then _ else if (-2 : Int) = -3 ∧ (0 : Int) = 2 then _ else E (-2) 0) = _
  rw [if_neg (fun q => absurd q.1 (by decide)), if_neg (fun q => absurd q.1 (by decide))]
  exact e1
/-- from h to g: the object o was filled, the cells from c up to m were made, b slots booked; all else stands -/
def Mk (h g : Hp) (o c m b : Int) (F : Int → Int) (R : Hp) : Prop := (h (-3) 0 = c ∧ g (-3) 0 = m ∧ g (-3) 1 = h (-3) 1 + b) ∧ (0 ≤ o ∧ o < c ∧ c ≤ m) ∧ (∀ a : Int, c ≤ a → a < m → g a = R a) ∧ g o = F ∧ ∀ a : Int, a ≠ -3 → a ≠ o → (a < c ∨ m ≤ a) → g a = h a
theorem Mk.rf {h : Hp} {o c : Int} (h1 : h (-3) 0 = c) (h2 : 0 ≤ o) (h3 : o < c) (R : Hp) : Mk h h o c c 0 (h o) R := ⟨⟨h1, h1, by omega⟩, ⟨h2, h3, Int.le_refl _⟩, fun a q1 q2 => by omega, rfl, fun _ _ _ _ => rfl⟩
theorem Mk.row {h g : Hp} {o c m b : Int} {F : Int → Int} {R : Hp} (K : Mk h g o c m b F R) (hR : R m = fun _ => 0) (f n : Int) : Mk h (mkr g o f m n) o c (m + 1) (b + n) (up F f m) R := by
  obtain ⟨⟨k1, k2, k3⟩, ⟨k4, k5, k6⟩, k7, k8, k9⟩ := K
  refine ⟨⟨k1, mkr_0 k4 k2, by rw [mkr_1 k4 k3]; omega⟩, ⟨k4, k5, by omega⟩, fun a q1 q2 => ?_, ?_, fun a q1 q2 q3 => ?_⟩
  · by_cases z : a = m
    · subst z
      rw [mkr_a k2 (by omega) (by omega), hR]
    · rw [mkr_n k2 (by omega) (by omega) z]
      exact k7 a q1 (by omega)
  · rw [mkr_o k2 k4 (by omega), k8]
  · rw [mkr_n k2 q1 q2 (by omega)]
    exact k9 a q1 q2 (by omega)
theorem Mk.set {h g : Hp} {o c m b : Int} {F : Int → Int} {R : Hp} (K : Mk h g o c m b F R) (f v : Int) : Mk h (hst g o f v) o c m b (up F f v) R := by
  obtain ⟨⟨k1, k2, k3⟩, ⟨k4, k5, k6⟩, k7, k8, k9⟩ := K
  refine ⟨⟨k1, by rw [hst_off _ (by omega)]; exact k2, by rw [hst_off _ (by omega)]; exact k3⟩, ⟨k4, k5, by omega⟩, fun a q1 q2 => ?_, ?_, fun a q1 q2 q3 => ?_⟩
  · rw [hst_off _ (by omega)]
    exact k7 a q1 q2
  · rw [hst_row, hrow_s, k8]
  · rw [hst_off _ q2]
    exact k9 a q1 q2 q3
/-- a row that was made is written anew -/
theorem Mk.re {h g : Hp} {o c m b : Int} {F : Int → Int} {R : Hp} (K : Mk h g o c m b F R) {r : Int} (h1 : c ≤ r) (h2 : r < m) (f : Int → Int) : Mk h (hrow g r f) o c m b F (hrow R r f) := by
  obtain ⟨⟨k1, k2, k3⟩, ⟨k4, k5, k6⟩, k7, k8, k9⟩ := K
  refine ⟨⟨k1, by rw [hrow_at, if_neg (by omega)]; exact k2, by rw [hrow_at, if_neg (by omega)]; exact k3⟩, ⟨k4, k5, k6⟩, fun a q1 q2 => ?_, ?_, fun a q1 q2 q3 => ?_⟩
  · rw [hrow_at, hrow_at, k7 a q1 q2]
  · rw [hrow_at, if_neg (by omega)]; exact k8
  · rw [hrow_at, if_neg (by omega)]
    exact k9 a q1 q2 q3
theorem Mk.obj {h g : Hp} {o c m b : Int} {F F' : Int → Int} {R : Hp} (K : Mk h g o c m b F R) : Mk h (hrow g o F') o c m b F' R := by
  obtain ⟨⟨k1, k2, k3⟩, ⟨k4, k5, k6⟩, k7, k8, k9⟩ := K
  refine ⟨⟨k1, by rw [hrow_at, if_neg (by omega)]; exact k2, by rw [hrow_at, if_neg (by omega)]; exact k3⟩, ⟨k4, k5, k6⟩, fun a q1 q2 => ?_, hrow_s _ _ _, fun a q1 q2 q3 => ?_⟩
  · rw [hrow_at, if_neg (by omega)]
    exact k7 a q1 q2
  · rw [hrow_at, if_neg q2]
    exact k9 a q1 q2 q3
section YY
variable {E : PvEnv} {d : Nat} {M : MRec} {cal : PCal} {Q : Int → Hp → Prop} {pc : Nat} {L : List PV} {h g : Hp} {o c m b : Int} {F : Int → Int} {R : Hp} {Lx : Nat}
theorem y_row (hc : MonoC cal) (K : Mk h g o c m b F R) {i1 : Instr} {w : Nat} {ty : ArrayType} {idx ci f fin pc' : Nat} {n m' b' : Int} (d0 : decode (mC M) pc = .ok (.aload_n 0, 1)) (d1 : decode (mC M) (pc + 1) = .ok (i1, w)) (l1 : lenOK i1 w = true) (e1 : ∀ (S : List PV) (h : Hp) (k : PKont), k (pc + 1 + w) ((2, o) :: L) ((0, n) :: S) h → ex1 E d M cal Q i1 w (pc + 1) ((2, o) :: L) S h k) (d2 : decode (mC M) (pc + 1 + w) = .ok (.newarray ty, 2)) (d3 : decode (mC M) (pc + 1 + w + 2) = .ok (.putfield idx, 3)) (hp : pc + 1 + w + 2 + 3 = pc') (hs : shK m = atyK ty) (h13 : atyK ty ≤ 13) (hn : shN m = n) (hn0 : 0 ≤ n) (hE : HM E Lx) (hM : mMc M ≠ 0) (h1 : m + 1 ≤ E (-3) 1) (h2 : h (-3) 1 + b + n ≤ E (-3) 2) (hf : fldT (mO M) idx = some (0, ci, f, 2, fin)) (ho : shK o = ci) (hfin : fin = 0 ∨ (fin = 1 ∧ (mY M).name = "<init>" ∧ ci = mO M)) (hR : R m = fun _ => 0) (hm : m + 1 = m') (hb : b + n = b') (hx : ∀ g' : Hp, Mk h g' o c m' b' (up F f m) R → WpC E d M cal Q pc' ((2, o) :: L) [] g') : WpC E d M cal Q pc ((2, o) :: L) [] g := by
  have K' := K.row hR f n
  rw [hm, hb] at K'
  have hx' := hx _ K'
  obtain ⟨⟨k1, k2, k3⟩, ⟨k4, k5, k6⟩, k7, k8, k9⟩ := K
  subst hp
  refine z_gen hc d0 rfl ?_
  show WpC E d M cal Q (pc + 1) ((2, o) :: L) [(2, o)] g
  refine z_gen hc d1 l1 (e1 _ _ _ ?_)
  refine z_newa hc (ty := ty) d2 k2 hs h13 hn hn0 hE.2 hM h1 (by omega) ?_
  exact z_putR hc d3 hf ho (hE.1.2 o _ k4) hfin (by omega) hx'
theorem y_set (hc : MonoC cal) (K : Mk h g o c m b F R) {i1 : Instr} {w t : Nat} {idx ci f pc' : Nat} {v : Int} (d0 : decode (mC M) pc = .ok (.aload_n 0, 1)) (d1 : decode (mC M) (pc + 1) = .ok (i1, w)) (l1 : lenOK i1 w = true) (e1 : ∀ (S : List PV) (h : Hp) (k : PKont), k (pc + 1 + w) ((2, o) :: L) ((t, v) :: S) h → ex1 E d M cal Q i1 w (pc + 1) ((2, o) :: L) S h k) (d2 : decode (mC M) (pc + 1 + w) = .ok (.putfield idx, 3)) (hp : pc + 1 + w + 3 = pc') (hE : HM E Lx) (hf : fldT (mO M) idx = some (0, ci, f, t, 0)) (hy : t ≤ 1) (ho : shK o = ci) (hx : ∀ g' : Hp, Mk h g' o c m b (up F f v) R → WpC E d M cal Q pc' ((2, o) :: L) [] g') : WpC E d M cal Q pc ((2, o) :: L) [] g := by
  have hx' := hx _ (K.set f v)
  obtain ⟨⟨k1, k2, k3⟩, ⟨k4, k5, k6⟩, k7, k8, k9⟩ := K
  subst hp
  refine z_gen hc d0 rfl ?_
  show WpC E d M cal Q (pc + 1) ((2, o) :: L) [(2, o)] g
  refine z_gen hc d1 l1 (e1 _ _ _ ?_)
  exact z_put hc d2 hf hy ho (hE.1.2 o _ k4) hx'
theorem y_obj (hc : MonoC cal) {idx : Nat} {M' : MRec} (d0 : decode (mC M) 0 = .ok (.aload_n 0, 1)) (d1 : decode (mC M) 1 = .ok (.invokespecial idx, 3)) (ht : calT (mO M) idx = some (6, M')) (hw : 12 ≤ mRl M) (h0 : d ≠ 0) (ha : o ≠ -1) (hx : WpC E d M cal Q 4 ((2, o) :: L) [] h) : WpC E d M cal Q 0 ((2, o) :: L) [] h := by
  refine z_gen hc d0 rfl ?_
  show WpC E d M cal Q 1 ((2, o) :: L) [(2, o)] h
  exact z_obj hc d1 ht (by rw [show wgt [] = 0 from rfl]; omega) h0 ha hx
theorem hst_same {h : Hp} {a i v : Int} (e : h a i = v) : hst h a i v = h := by
  funext a' i'
  unfold hst
  split
  · rename_i z
    rw [z.1, z.2, e]
  · rfl
theorem y_post (hM : mMc M ≠ 0) (K : Mk h g o c m b F R) (hm : c + mMc M = m) (hb : (mMs M : Int) = b) (hq : Q 0 g) : postM M h Q 0 g := by
  obtain ⟨⟨k1, k2, k3⟩, ⟨k4, k5, k6⟩, k7, k8, k9⟩ := K
  unfold postM
  rw [if_neg hM]
  refine ⟨⟨by omega, by omega⟩, ?_⟩
  rw [hst_same (by omega)]
  exact hq
end YY
/-- one object's references are known -/
def EP (n o : Int) : PvEnv := fun a k => if a = -2 then n else if a = -3 then 0 else if a = o then refT o k else -7
theorem EP_o {n o : Int} (h1 : 0 ≤ o) : ∀ k, EP n o o k = refT o k := fun k => by
  unfold EP
  rw [if_neg (by omega), if_neg (by omega), if_pos rfl]
theorem EP_still {n o : Int} (h1 : shK o ≤ 10) : StillE (EP n o) := ⟨by show (0 : Int) ≠ -7; decide, Int.le_refl _, fun a f h0 hn => by
  unfold EP at hn
  rw [if_neg (by omega), if_neg (by omega)] at hn
  by_cases z : a = o
  · rw [z]; exact h1
  · rw [if_neg z] at hn
    exact absurd rfl hn⟩
theorem ref_mem {a f : Int} (h : refT a f ≠ -7) : (a, f, refT a f) ∈ refL := by
  unfold refT at *
  split at h
  · rename_i q e
    have h1 := List.mem_of_find?_eq_some e
    have h2 := List.find?_some e
    simp only [Bool.and_eq_true, beq_iff_eq] at h2
    obtain ⟨x, y, v⟩ := q
    obtain ⟨e1, e2⟩ := h2
    simp only at e1 e2
    subst e1
    subst e2
    exact h1
  · exact absurd rfl h
theorem EP_refs {n o : Int} {g : Hp} {F : Int → Int} (hg : g o = F) (l : List (Int × Int × Int)) (hl : refL.filter (fun q => q.1 == o) = l) (hh : ∀ q ∈ l, F q.2.1 = q.2.2) : RefsOK (EP n o) g := by
  intro a f h0 hn
  unfold EP at *
  rw [if_neg (by omega), if_neg (by omega)] at *
  by_cases z : a = o
  · rw [if_pos z] at *
    subst z
    rw [hg]
    have := ref_mem hn
    exact hh _ (by rw [← hl, List.mem_filter]; exact ⟨this, by simp⟩)
  · rw [if_neg z] at hn
    exact absurd rfl hn
