/-! the heap's picture -/
def ftg (ty : Nat) : Nat := if ty = 3 then 0 else ty
def celE (B sb : Nat) (cI cJ cZ : ClassId) (i : Nat) (f : Int → Int) : va_E :=
  if shK i = 11 then .inl (cI, (shN i).toNat, .inl (fun k => Int32.ofInt (f k)))
  else if shK i = 12 then .inl (cJ, (shN i).toNat, .inr (.inl (fun k => Int64.ofInt (f k))))
  else if shK i = 13 then .inl (cZ, (shN i).toNat, .inl (fun k => Int32.ofInt (f k)))
  else .inr (shK i, (List.range (shN i).toNat).map (fun k => vl B sb (ftg (ftT (shK i) k), f k)))
def wsH (B sb : Nat) (cI cJ cZ : ClassId) (n : Nat) (h : Hp) : va_W := (List.range n).map (fun i => (B + i, celE B sb cI cJ cZ i (h i)))
theorem wsH_at (B sb : Nat) (cI cJ cZ : ClassId) {n i : Nat} (h : Hp) (hi : i < n) : (wsH B sb cI cJ cZ n h)[i]? = some (B + i, celE B sb cI cJ cZ i (h i)) := by
  unfold wsH
  rw [List.getElem?_map, List.getElem?_range hi]
  rfl
theorem wsH_len (B sb : Nat) (cI cJ cZ : ClassId) (n : Nat) (h : Hp) : (wsH B sb cI cJ cZ n h).length = n := by simp [wsH]
theorem wsH_get {B sb : Nat} {cI cJ cZ : ClassId} {n k : Nat} {h : Hp} {q : Nat × va_E} (hk : (wsH B sb cI cJ cZ n h)[k]? = some q) : k < n ∧ q = (B + k, celE B sb cI cJ cZ k (h k)) := by
  have hl : k < n := by
    have := (List.getElem?_eq_some_iff.mp hk).1
    rwa [wsH_len] at this
  rw [wsH_at B sb cI cJ cZ h hl] at hk
  exact ⟨hl, (Option.some.inj hk).symm⟩
theorem wsH_D (B sb : Nat) (cI cJ cZ : ClassId) (n : Nat) (h : Hp) : va_D (fun q => B ≤ q) (wsH B sb cI cJ cZ n h) := by
  refine ⟨fun i j x y hi hj hxy => ?_, fun k q hk => ?_⟩
  · have h1 := (wsH_get hi).2
    have h2 := (wsH_get hj).2
    rw [h1, h2] at hxy
    dsimp only at hxy
    omega
  · rw [(wsH_get hk).2]
    exact Nat.le_add_right _ _
/-- one cell changes -/
theorem wsH_set (B sb : Nat) (cI cJ cZ : ClassId) {n q : Nat} {h h' : Hp} (hq : q < n) (ho : ∀ i : Nat, i ≠ q → h' i = h i) : (wsH B sb cI cJ cZ n h).set q (B + q, celE B sb cI cJ cZ q (h' q)) = wsH B sb cI cJ cZ n h' := by
  apply List.ext_getElem?
  intro k
  by_cases hk : k = q
  · subst hk
    rw [List.getElem?_set_self (by rw [wsH_len]; exact hq), wsH_at B sb cI cJ cZ h' hq]
  · rw [List.getElem?_set_ne (Ne.symm hk)]
    by_cases hl : k < n
    · rw [wsH_at B sb cI cJ cZ h hl, wsH_at B sb cI cJ cZ h' hl, ho k hk]
    · rw [List.getElem?_eq_none (by rw [wsH_len]; omega), List.getElem?_eq_none (by rw [wsH_len]; omega)]
theorem wsH_push (B sb : Nat) (cI cJ cZ : ClassId) {n : Nat} {h h' : Hp} (ho : ∀ i : Nat, i < n → h' i = h i) : wsH B sb cI cJ cZ (n + 1) h' = wsH B sb cI cJ cZ n h ++ [(B + n, celE B sb cI cJ cZ n (h' n))] := by
  unfold wsH
  rw [List.range_succ, List.map_append]
  congr 1
  apply List.map_congr_left
  intro i hi
  rw [ho i (List.mem_range.mp hi)]
theorem wsH_same (B sb : Nat) (cI cJ cZ : ClassId) {n : Nat} {h h' : Hp} (ho : ∀ i : Nat, i < n → h' i = h i) : wsH B sb cI cJ cZ n h' = wsH B sb cI cJ cZ n h := by
  unfold wsH
  apply List.map_congr_left
  intro i hi
  rw [ho i (List.mem_range.mp hi)]
/-- what a place of a cell may hold -/
def okc (n : Int) (kd : Nat) (k : Int) (v : Int) : Prop :=
  if kd = 11 then in32 v else if kd = 12 then in64 v else if kd = 13 then isBit v else
  if ftT kd k.toNat = 3 then isBit v else if ftT kd k.toNat = 2 then (v = -1 ∨ (0 ≤ v ∧ v < n)) else if ftT kd k.toNat = 1 then in64 v else in32 v
theorem okc_mono {n n' : Int} (hn : n ≤ n') {kd : Nat} {k v : Int} (h : okc n kd k v) : okc n' kd k v := by
  unfold okc at *
  split
  · rename_i e; rw [if_pos e] at h; exact h
  · rename_i e1; rw [if_neg e1] at h
    split
    · rename_i e; rw [if_pos e] at h; exact h
    · rename_i e2; rw [if_neg e2] at h
      split
      · rename_i e; rw [if_pos e] at h; exact h
      · rename_i e3; rw [if_neg e3] at h
        split
        · rename_i e; rw [if_pos e] at h; exact h
        · rename_i e4; rw [if_neg e4] at h
          split
          · rename_i e; rw [if_pos e] at h; omega
          · rename_i e5; rw [if_neg e5] at h
            split
            · rename_i e; rw [if_pos e] at h; exact h
            · rename_i e; rw [if_neg e] at h; exact h
def okH (h : Hp) : Prop := ∀ i k : Int, 0 ≤ i → i < h (-3) 0 → 0 ≤ k → k < shN i → okc (h (-3) 0) (shK i) k (h i k)
def HRel (B sb : Nat) (D : va_G) (cI cJ cZ : ClassId) (h : Hp) (H : Heap) : Prop := 0 ≤ h (-3) 0 ∧ va_P D vwCl (wsH B sb cI cJ cZ (h (-3) 0).toNat h) H ∧ H.size = B + (h (-3) 0).toNat ∧ okH h
theorem shK_nn {r : Int} {k : Nat} (h : shK r = k) (hk : k ≤ 13) : r = -2 ∧ k = 11 ∨ 0 ≤ r := by
  unfold shK at h
  split at h
  · exact Or.inl ⟨by assumption, h.symm⟩
  · split at h
    · omega
    · exact Or.inr (by omega)
/-- a written place -/
theorem okH_st {h : Hp} (ho : okH h) {a i v : Int} (ha : 0 ≤ a) (hv : okc (h (-3) 0) (shK a) i v) : okH (hst h a i v) := by
  intro j k h1 h2 h3 h4
  have e3 : hst h a i v (-3) 0 = h (-3) 0 := by unfold hst; rw [if_neg (by omega)]
  rw [e3] at h2 ⊢
  unfold hst
  by_cases e : j = a ∧ k = i
  · rw [if_pos e, e.1, e.2]; exact hv
  · rw [if_neg e]; exact ho j k h1 h2 h3 h4
theorem hst_m3 (h : Hp) {a i v k : Int} (ha : 0 ≤ a) : hst h a i v (-3) k = h (-3) k := by unfold hst; rw [if_neg (by omega)]
theorem hst_m2 (h : Hp) {a i v k : Int} (ha : 0 ≤ a) : hst h a i v (-2) k = h (-2) k := by unfold hst; rw [if_neg (by omega)]
theorem hst_off (h : Hp) {a i v j : Int} (hj : j ≠ a) : hst h a i v j = h j := by funext k; unfold hst; rw [if_neg (by omega)]
/-- the picture of a cell of each kind -/
theorem celE_i {B sb : Nat} {cI cJ cZ : ClassId} {i : Nat} {f : Int → Int} (h : shK i = 11) : celE B sb cI cJ cZ i f = .inl (cI, (shN i).toNat, .inl (fun k => Int32.ofInt (f k))) := by unfold celE; rw [if_pos h]
theorem celE_l {B sb : Nat} {cI cJ cZ : ClassId} {i : Nat} {f : Int → Int} (h : shK i = 12) : celE B sb cI cJ cZ i f = .inl (cJ, (shN i).toNat, .inr (.inl (fun k => Int64.ofInt (f k)))) := by unfold celE; rw [if_neg (by omega), if_pos h]
theorem celE_z {B sb : Nat} {cI cJ cZ : ClassId} {i : Nat} {f : Int → Int} (h : shK i = 13) : celE B sb cI cJ cZ i f = .inl (cZ, (shN i).toNat, .inl (fun k => Int32.ofInt (f k))) := by unfold celE; rw [if_neg (by omega), if_neg (by omega), if_pos h]
theorem celE_o {B sb : Nat} {cI cJ cZ : ClassId} {i : Nat} {f : Int → Int} {ci : Nat} (h : shK i = ci) (hc : ci ≤ 10) : celE B sb cI cJ cZ i f = .inr (ci, (List.range (shN i).toNat).map (fun k => vl B sb (ftg (ftT ci k), f k))) := by unfold celE; rw [if_neg (by omega), if_neg (by omega), if_neg (by omega), h]
theorem vw_at : ∀ ci, ci ≤ 10 → vwCl[ci]? = some (RC ci, TC ci, NC ci) := fun ci h => by
  rcases (show ci = 0 ∨ ci = 1 ∨ ci = 2 ∨ ci = 3 ∨ ci = 4 ∨ ci = 5 ∨ ci = 6 ∨ ci = 7 ∨ ci = 8 ∨ ci = 9 ∨ ci = 10 by omega) with rfl | rfl | rfl | rfl | rfl | rfl | rfl | rfl | rfl | rfl | rfl <;> rfl
theorem in_TC : ∀ ci, ci ≤ 10 → ∀ w ∈ u_ws (RC ci) (TC ci) (NC ci), w ∈ lw_tbl := fun ci h => by
  rcases (show ci = 0 ∨ ci = 1 ∨ ci = 2 ∨ ci = 3 ∨ ci = 4 ∨ ci = 5 ∨ ci = 6 ∨ ci = 7 ∨ ci = 8 ∨ ci = 9 ∨ ci = 10 by omega) with rfl | rfl | rfl | rfl | rfl | rfl | rfl | rfl | rfl | rfl | rfl
  · exact inX0
  · exact inX1
  · exact inX2
  · exact inX3
  · exact inX4
  · exact inX5
  · exact inX6
  · exact inX7
  · exact inX8
  · exact inX9
  · exact inX10
theorem lay_good (C : String) (T : u_T) (N : Nat) : ∀ w ∈ u_ws C T N, goodWord w = true := by
  intro w hw
  obtain ⟨k, -, rfl⟩ := List.mem_map.mp hw
  unfold u_lay
  split <;> rfl
theorem in_TCg {ci : Nat} (h : ci ≤ 10) : ∀ w ∈ u_ws (RC ci) (TC ci) (NC ci), w ∈ gtbl := fun w hw => gtm (in_TC ci h w hw) (lay_good _ _ _ w hw)
theorem ty_TC : ∀ ci, ci ≤ 10 → ∀ k, k < NC ci → parseFieldDescriptor (TC ci k).2.2.1 = some (tyC ci k) := fun ci h => by
  rcases (show ci = 0 ∨ ci = 1 ∨ ci = 2 ∨ ci = 3 ∨ ci = 4 ∨ ci = 5 ∨ ci = 6 ∨ ci = 7 ∨ ci = 8 ∨ ci = 9 ∨ ci = 10 by omega) with rfl | rfl | rfl | rfl | rfl | rfl | rfl | rfl | rfl | rfl | rfl
  · exact tyX0_ok
  · exact tyX1_ok
  · exact tyX2_ok
  · exact tyX3_ok
  · exact tyX4_ok
  · exact tyX5_ok
  · exact tyX6_ok
  · exact tyX7_ok
  · exact tyX8_ok
  · exact tyX9_ok
  · exact tyX10_ok
theorem nm_TC : ∀ ci, ci ≤ 10 → ∀ a, a < NC ci → ∀ b, b < NC ci → a ≠ b → (TC ci a).2.1 ≠ (TC ci b).2.1 := fun ci h => by
  rcases (show ci = 0 ∨ ci = 1 ∨ ci = 2 ∨ ci = 3 ∨ ci = 4 ∨ ci = 5 ∨ ci = 6 ∨ ci = 7 ∨ ci = 8 ∨ ci = 9 ∨ ci = 10 by omega) with rfl | rfl | rfl | rfl | rfl | rfl | rfl | rfl | rfl | rfl | rfl
  · exact nmX0
  · exact nmX1
  · exact nmX2
  · exact nmX3
  · exact nmX4
  · exact nmX5
  · exact nmX6
  · exact nmX7
  · exact nmX8
  · exact nmX9
  · exact nmX10
/-- cells of a kind have as many places as their class has fields -/
theorem sh_all : (List.range 89).all (fun i => decide ((shL.getD i (99, 0)).1 ≤ 10 → (shL.getD i (99, 0)).2 = (NC (shL.getD i (99, 0)).1 : Int)) && decide (0 ≤ (shL.getD i (99, 0)).2 ∧ (shL.getD i (99, 0)).2 ≤ 2000)) = true := by decide +kernel
theorem sh_len : shL.length = 89 := by decide +kernel
theorem shN_obj {r : Int} {ci : Nat} (h : shK r = ci) (hc : ci ≤ 10) : shN r = (NC ci : Int) := by
  have h0 := shK_nn h (by omega)
  have h1 : 0 ≤ r := by omega
  unfold shK at h
  rw [if_neg (by omega), if_neg (by omega)] at h
  unfold shN
  rw [if_neg (by omega)]
  by_cases hl : r.toNat < 89
  · have := List.all_eq_true.mp sh_all _ (List.mem_range.mpr hl)
    simp only [Bool.and_eq_true, decide_eq_true_eq] at this
    rw [this.1 (by rw [h]; exact hc), h]
  · rw [List.getD_eq_getElem?_getD, List.getElem?_eq_none (by rw [sh_len]; omega)] at h
    have h : 99 = ci := h
    omega
theorem shN_nn (r : Int) : 0 ≤ shN r ∧ shN r ≤ 2000 := by
  unfold shN
  split
  · omega
  · by_cases hl : r.toNat < 89
    · have := List.all_eq_true.mp sh_all _ (List.mem_range.mpr hl)
      simp only [Bool.and_eq_true, decide_eq_true_eq] at this
      exact this.2
    · rw [List.getD_eq_getElem?_getD, List.getElem?_eq_none (by rw [sh_len]; omega)]
      decide
