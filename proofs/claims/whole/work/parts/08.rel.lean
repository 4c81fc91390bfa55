/-! the picture of a machine's heap, locals and stack. B: the first cell that the law makes; sb: the script -/
def okv (n : Int) (v : PV) : Prop := match v.1 with
  | 0 => in32 v.2
  | 1 => in64 v.2
  | 2 => v.2 = -2 ∨ v.2 = -1 ∨ (0 ≤ v.2 ∧ v.2 < n)
  | _ => False
def adr (B sb : Nat) (r : Int) : Nat := if r = -2 then sb else B + r.toNat
def vl (B sb : Nat) (v : PV) : Value := match v.1 with
  | 0 => .int (Int32.ofInt v.2)
  | 1 => .long (Int64.ofInt v.2)
  | _ => if v.2 = -1 then .null else .ref (adr B sb v.2)
theorem vl0 (B sb : Nat) (x : Int) : vl B sb (0, x) = .int (Int32.ofInt x) := rfl
theorem vl1 (B sb : Nat) (x : Int) : vl B sb (1, x) = .long (Int64.ofInt x) := rfl
theorem vl2 (B sb : Nat) {x : Int} (h : x ≠ -1) : vl B sb (2, x) = .ref (adr B sb x) := by simp [vl, h]
theorem vl2n (B sb : Nat) : vl B sb (2, -1) = .null := rfl
theorem adr_nn (B sb : Nat) {r : Int} (h : 0 ≤ r) : adr B sb r = B + r.toNat := by unfold adr; rw [if_neg (by omega)]
theorem okv_tag {n : Int} {v : PV} (h : okv n v) : v.1 = 0 ∨ v.1 = 1 ∨ v.1 = 2 := by
  obtain ⟨t, x⟩ := v
  match t, h with
  | 0, _ => exact Or.inl rfl
  | 1, _ => exact Or.inr (Or.inl rfl)
  | 2, _ => exact Or.inr (Or.inr rfl)
theorem okv_mono {n n' : Int} (hn : n ≤ n') {v : PV} (h : okv n v) : okv n' v := by
  obtain ⟨t, x⟩ := v
  match t, h with
  | 0, h => exact h
  | 1, h => exact h
  | 2, h =>
    have h : x = -2 ∨ x = -1 ∨ (0 ≤ x ∧ x < n) := h
    show x = -2 ∨ x = -1 ∨ (0 ≤ x ∧ x < n')
    omega
theorem vl_cat {B sb : Nat} {n : Int} {v : PV} (h : okv n v) : (vl B sb v).category = if v.1 = 1 then 2 else 1 := by
  obtain ⟨t, x⟩ := v
  match t, h with
  | 0, _ => rfl
  | 1, _ => rfl
  | 2, _ =>
    show (if x = -1 then Value.null else .ref (adr B sb x)).category = 1
    split <;> rfl
theorem wgt_sum {B sb : Nat} {n : Int} : ∀ {S : List PV}, (∀ v ∈ S, okv n v) → ((S.map (vl B sb)).map fun v => v.category).sum = wgt S
  | [], _ => rfl
  | v :: S, h => by
    simp only [List.map_cons, List.sum_cons, wgt]
    rw [vl_cat (h v List.mem_cons_self), wgt_sum (fun u hu => h u (List.mem_cons_of_mem _ hu))]
/-! the locals -/
def lvL (B sb : Nat) : Nat → List PV → List (Nat × Value)
  | _, [] => []
  | i, v :: L => if v.1 ≤ 2 then (i, vl B sb v) :: lvL B sb (i + 1) L else lvL B sb (i + 1) L
theorem lvL_mem {B sb : Nat} : ∀ {L : List PV} {i j : Nat} {v : PV}, L[j]? = some v → v.1 ≤ 2 → (i + j, vl B sb v) ∈ lvL B sb i L
  | [], _, _, _, h, _ => by simp at h
  | u :: L, i, 0, v, h, hv => by
    have e : u = v := by simpa using h
    subst e
    simp [lvL, hv]
  | u :: L, i, j + 1, v, h, hv => by
    have h2 : L[j]? = some v := by simpa using h
    have h3 := lvL_mem (B := B) (sb := sb) (i := i + 1) h2 hv
    have e : i + 1 + j = i + (j + 1) := by omega
    rw [e] at h3
    simp only [lvL]
    split
    · exact List.mem_cons_of_mem _ h3
    · exact h3
theorem lvL_at {B sb : Nat} : ∀ {L : List PV} {i : Nat} {q : Nat × Value}, q ∈ lvL B sb i L → ∃ (j : Nat) (v : PV), q = (i + j, vl B sb v) ∧ L[j]? = some v ∧ v.1 ≤ 2
  | [], _, _, h => by simp [lvL] at h
  | u :: L, i, q, h => by
    simp only [lvL] at h
    have key : ∀ h2 : q ∈ lvL B sb (i + 1) L, ∃ (j : Nat) (v : PV), q = (i + j, vl B sb v) ∧ (u :: L)[j]? = some v ∧ v.1 ≤ 2 := fun h2 => by
      obtain ⟨j, v, e1, e2, e3⟩ := lvL_at h2
      exact ⟨j + 1, v, by rw [e1]; congr 1; omega, by simpa using e2, e3⟩
    split at h
    · rcases List.mem_cons.mp h with h2 | h2
      · exact ⟨0, u, h2, rfl, by assumption⟩
      · exact key h2
    · exact key h
theorem lv_mono {ls : Array Slot} {nL : Nat} {l l' : List (Nat × Value)} (h : lv_has ls nL l) (hs : ∀ q ∈ l', q ∈ l) : lv_has ls nL l' := ⟨h.1, h.2.1, fun q hq => h.2.2 q (hs q hq)⟩
def okL (n : Int) (L : List PV) : Prop := ∀ v ∈ L, v.1 = 9 ∨ okv n v
def LRel (B sb nL : Nat) (n : Int) (L : List PV) (ls : Array Slot) : Prop := L.length = nL ∧ okL n L ∧ lv_has ls nL (lvL B sb 0 L)
theorem LRel.get {B sb nL : Nat} {n : Int} {L : List PV} {ls : Array Slot} (h : LRel B sb nL n L ls) {i t : Nat} {x : Int} (hp : pld L i t = some x) (ht : t ≤ 2) : ls[i]? = some (.val (vl B sb (t, x))) ∧ okv n (t, x) := by
  unfold pld at hp
  cases hi : L[i]? with
  | none => rw [hi] at hp; cases hp
  | some v =>
    obtain ⟨t', y⟩ := v
    rw [hi] at hp
    dsimp only at hp
    by_cases e : t' = t
    · rw [if_pos e] at hp
      have hp : y = x := Option.some.inj hp
      subst hp
      subst e
      refine ⟨?_, ?_⟩
      · have h2 := h.2.2.2.2 (0 + i, vl B sb (t', y)) (lvL_mem hi ht)
        rw [Nat.zero_add] at h2
        exact h2
      · rcases h.2.1 _ (List.mem_of_getElem? hi) with h3 | h3
        · dsimp only at h3; omega
        · exact h3
    · rw [if_neg e] at hp; cases hp
theorem pkill_len (L : List PV) (i : Nat) : (pkill L i).length = L.length := by
  unfold pkill
  split
  · rfl
  · split <;> simp
theorem pkill_at {L : List PV} {i j : Nat} {v : PV} (h : (pkill L i)[j]? = some v) (hv : v.1 ≤ 2) : L[j]? = some v ∧ ¬ (j + 1 = i ∧ v.1 = 1) := by
  unfold pkill at h
  split at h
  · exact ⟨h, by omega⟩
  · rename_i k
    split at h
    · rename_i w hw
      by_cases hj : j = k
      · subst hj
        have hl : j < L.length := (List.getElem?_eq_some_iff.mp hw).1
        rw [List.getElem?_set_self hl] at h
        cases h
        exact absurd hv (by decide)
      · rw [List.getElem?_set_ne (Ne.symm hj)] at h
        exact ⟨h, by omega⟩
    · rename_i hw
      refine ⟨h, fun q => ?_⟩
      obtain ⟨q1, q2⟩ := q
      have e : j = k := by omega
      subst e
      obtain ⟨t, x⟩ := v
      dsimp only at q2
      subst q2
      exact hw x h
theorem LRel.set1 {B sb nL : Nat} {n : Int} {L L' : List PV} {ls ls' : Array Slot} (h : LRel B sb nL n L ls) {i : Nat} {v : PV} (hv : okv n v) (hc : v.1 ≠ 1) (hp : pst1 L i v = some L')
    (h' : lv_has ls' nL ((i, vl B sb v) :: (lvL B sb 0 L).filter (fun q => !(q.1 == i) && !(q.1 + 1 == i && q.2.category == 2)))) : LRel B sb nL n L' ls' := by
  unfold pst1 at hp
  split at hp
  · rename_i hi
    cases hp
    have key : ∀ (j : Nat) (u : PV), ((pkill L i).set i v)[j]? = some u → (j = i ∧ u = v) ∨ (j ≠ i ∧ (pkill L i)[j]? = some u) := fun j u hu => by
      by_cases hj : j = i
      · subst hj
        rw [List.getElem?_set_self (by rw [pkill_len]; exact hi)] at hu
        cases hu
        exact Or.inl ⟨rfl, rfl⟩
      · rw [List.getElem?_set_ne (Ne.symm hj)] at hu
        exact Or.inr ⟨hj, hu⟩
    refine ⟨by rw [List.length_set, pkill_len]; exact h.1, fun u hu => ?_, lv_mono h' fun q hq => ?_⟩
    · obtain ⟨j, hj⟩ := List.getElem?_of_mem hu
      rcases key j u hj with ⟨-, e⟩ | ⟨-, e⟩
      · rw [e]; exact Or.inr hv
      · by_cases ht : u.1 ≤ 2
        · exact h.2.1 u (List.mem_of_getElem? (pkill_at e ht).1)
        · have : u ∈ pkill L i := List.mem_of_getElem? e
          unfold pkill at this
          split at this
          · exact h.2.1 u this
          · split at this
            · rcases List.mem_or_eq_of_mem_set this with q | q
              · exact h.2.1 u q
              · rw [q]; exact Or.inl rfl
            · exact h.2.1 u this
    · obtain ⟨j, u, e1, e2, e3⟩ := lvL_at hq
      rw [Nat.zero_add] at e1
      rcases key j u e2 with ⟨q1, q2⟩ | ⟨q1, q2⟩
      · rw [e1, q1, q2]; exact List.mem_cons_self
      · obtain ⟨q3, q4⟩ := pkill_at q2 e3
        refine List.mem_cons_of_mem _ (List.mem_filter.mpr ⟨?_, ?_⟩)
        · rw [e1]
          have := lvL_mem (B := B) (sb := sb) (i := 0) q3 e3
          rwa [Nat.zero_add] at this
        · rw [e1]
          have hu : okv n u := by
            rcases h.2.1 u (List.mem_of_getElem? q3) with z | z
            · omega
            · exact z
          simp only [Bool.and_eq_true, Bool.not_eq_true', beq_eq_false_iff_ne, ne_eq, Bool.and_eq_false_iff]
          refine ⟨q1, ?_⟩
          rw [vl_cat hu]
          by_cases z : j + 1 = i
          · right
            have : ¬ u.1 = 1 := fun w => q4 ⟨z, w⟩
            rw [if_neg this]; decide
          · exact Or.inl z
  · cases hp
theorem LRel.set2 {B sb nL : Nat} {n : Int} {L L' : List PV} {ls ls' : Array Slot} (h : LRel B sb nL n L ls) {i : Nat} {v : PV} (hv : okv n v) (hp : pst2 L i v = some L')
    (h' : lv_has ls' nL ((i, vl B sb v) :: (lvL B sb 0 L).filter (fun q => !(q.1 == i) && (!(q.1 == i + 1) && !(q.1 + 1 == i && q.2.category == 2))))) : LRel B sb nL n L' ls' := by
  unfold pst2 at hp
  split at hp
  · rename_i hi
    cases hp
    have key : ∀ (j : Nat) (u : PV), (((pkill L i).set i v).set (i + 1) (9, 0))[j]? = some u → (j = i ∧ u = v) ∨ (j = i + 1 ∧ u = (9, 0)) ∨ (j ≠ i ∧ j ≠ i + 1 ∧ (pkill L i)[j]? = some u) := fun j u hu => by
      by_cases hj2 : j = i + 1
      · subst hj2
        rw [List.getElem?_set_self (by rw [List.length_set, pkill_len]; exact hi)] at hu
        cases hu
        exact Or.inr (Or.inl ⟨rfl, rfl⟩)
      · rw [List.getElem?_set_ne (Ne.symm hj2)] at hu
        by_cases hj : j = i
        · subst hj
          rw [List.getElem?_set_self (by rw [pkill_len]; omega)] at hu
          cases hu
          exact Or.inl ⟨rfl, rfl⟩
        · rw [List.getElem?_set_ne (Ne.symm hj)] at hu
          exact Or.inr (Or.inr ⟨hj, hj2, hu⟩)
    refine ⟨by rw [List.length_set, List.length_set, pkill_len]; exact h.1, fun u hu => ?_, lv_mono h' fun q hq => ?_⟩
    · obtain ⟨j, hj⟩ := List.getElem?_of_mem hu
      rcases key j u hj with ⟨-, e⟩ | ⟨-, e⟩ | ⟨-, -, e⟩
      · rw [e]; exact Or.inr hv
      · rw [e]; exact Or.inl rfl
      · by_cases ht : u.1 ≤ 2
        · exact h.2.1 u (List.mem_of_getElem? (pkill_at e ht).1)
        · have : u ∈ pkill L i := List.mem_of_getElem? e
          unfold pkill at this
          split at this
          · exact h.2.1 u this
          · split at this
            · rcases List.mem_or_eq_of_mem_set this with q | q
              · exact h.2.1 u q
              · rw [q]; exact Or.inl rfl
            · exact h.2.1 u this
    · obtain ⟨j, u, e1, e2, e3⟩ := lvL_at hq
      rw [Nat.zero_add] at e1
      rcases key j u e2 with ⟨q1, q2⟩ | ⟨q1, q2⟩ | ⟨q1, q5, q2⟩
      · rw [e1, q1, q2]; exact List.mem_cons_self
      · rw [q2] at e3; exact absurd e3 (by decide)
      · obtain ⟨q3, q4⟩ := pkill_at q2 e3
        refine List.mem_cons_of_mem _ (List.mem_filter.mpr ⟨?_, ?_⟩)
        · rw [e1]
          have := lvL_mem (B := B) (sb := sb) (i := 0) q3 e3
          rwa [Nat.zero_add] at this
        · rw [e1]
          have hu : okv n u := by
            rcases h.2.1 u (List.mem_of_getElem? q3) with z | z
            · omega
            · exact z
          simp only [Bool.and_eq_true, Bool.not_eq_true', beq_eq_false_iff_ne, ne_eq, Bool.and_eq_false_iff]
          refine ⟨q1, q5, ?_⟩
          rw [vl_cat hu]
          by_cases z : j + 1 = i
          · right
            have : ¬ u.1 = 1 := fun w => q4 ⟨z, w⟩
            rw [if_neg this]; decide
          · exact Or.inl z
  · cases hp
