/-! tick: the cuts, in any order -/
theorem kid_gone {K O : Int → Int} {c j : Int} (p : Prt K O) (hc : 0 ≤ c ∧ c < 80) (hk : K c ≠ -1) (hj : 16 + 4 * c ≤ j ∧ j < 16 + 4 * c + 4) : K j = -1 := by
  by_cases z : K j = -1
  · exact z
  · have hn : isN j := ⟨by omega, by omega⟩
    have b1 := gx_b hn
    have b2 := gy_b hn
    have b3 := gw_b j
    have i1 : inC j (16 * gy j + gx j) := by unfold inC; omega
    have i2 : inC c (16 * gy j + gx j) := (kid_in hc).mpr ⟨j - (16 + 4 * c), by omega, by rw [show 16 + 4 * c + (j - (16 + 4 * c)) = j by omega]; exact i1⟩
    have e1 := p.2 j _ hn z i1
    have e2 := p.2 c _ ⟨hc.1, by omega⟩ hk i2
    omega
def par (j : Int) : Int := (j - 16) / 4
def dK (D K : Int → Int) : Int → Int := fun j => if D j = 1 then -1 else if D (par j) = 1 then 1 else K j
def dK2 (D K : Int → Int) : Int → Int := fun j => if D (par j) = 1 then 1 else K j
def dT (D T : Int → Int) : Int → Int := fun j => if D j = 1 then 0 else if D (par j) = 1 then 1 else T j
def dA (D A : Int → Int) : Int → Int := fun j => if D (par j) = 1 then A (par j) / 4 + (if j - (16 + 4 * par j) < A (par j) % 4 then 1 else 0) else A j
def dG (D G : Int → Int) : Int → Int := fun j => if D (par j) = 1 then G (par j) else G j
def dX (D X : Int → Int) : Int → Int := fun j => if D (par j) = 1 then -9 else X j
noncomputable def dO (D O : Int → Int) : Int → Int := fun s => if D (O s) = 1 then cutO O (O s) 4 s else O s
theorem par_kid {c j : Int} : (16 + 4 * c ≤ j ∧ j < 16 + 4 * c + 4) ↔ par j = c := by
  unfold par
  omega
section DST
variable {D : Int → Int} {c : Int}
theorem dD (j : Int) (h : j ≠ c) : (up D c 1) j = D j := up_n _ _ h
theorem dK_step {K : Int → Int} (hc : 0 ≤ c) (hk : ∀ j : Int, par j = c → D j ≠ 1) : up (cutK (dK D K) c 4) c (-1) = dK (up D c 1) K := by
  funext j
  unfold dK
  by_cases z : j = c
  · subst z
    rw [up_s, up_s, if_pos rfl]
  · rw [up_n _ _ z, up_n _ _ z]
    unfold cutK
    by_cases z2 : par j = c
    · rw [if_pos (show 16 + 4 * c ≤ j ∧ j < 16 + 4 * c + ((4 : Nat) : Int) from par_kid.mpr z2), if_neg (hk j z2), z2, up_s, if_pos rfl]
    · rw [if_neg (show ¬ (16 + 4 * c ≤ j ∧ j < 16 + 4 * c + ((4 : Nat) : Int)) from fun q => z2 (par_kid.mp q)), up_n _ _ z2]
theorem dK2_step {K : Int → Int} : cutK (dK2 D K) c 4 = dK2 (up D c 1) K := by
  funext j
  unfold dK2 cutK
  by_cases z2 : par j = c
  · rw [if_pos (show 16 + 4 * c ≤ j ∧ j < 16 + 4 * c + ((4 : Nat) : Int) from par_kid.mpr z2), z2, up_s, if_pos rfl]
  · rw [if_neg (show ¬ (16 + 4 * c ≤ j ∧ j < 16 + 4 * c + ((4 : Nat) : Int)) from fun q => z2 (par_kid.mp q)), up_n _ _ z2]
theorem dX_step {K : Int → Int} : cutX (dX D K) c 4 = dX (up D c 1) K := by
  funext j
  unfold dX cutX
  by_cases z2 : par j = c
  · rw [if_pos (show 16 + 4 * c ≤ j ∧ j < 16 + 4 * c + ((4 : Nat) : Int) from par_kid.mpr z2), z2, up_s, if_pos rfl]
  · rw [if_neg (show ¬ (16 + 4 * c ≤ j ∧ j < 16 + 4 * c + ((4 : Nat) : Int)) from fun q => z2 (par_kid.mp q)), up_n _ _ z2]
theorem dG_step {K : Int → Int} (hp : D (par c) ≠ 1) : cutG (dG D K) c 4 = dG (up D c 1) K := by
  funext j
  unfold dG cutG
  by_cases z2 : par j = c
  · rw [if_pos (show 16 + 4 * c ≤ j ∧ j < 16 + 4 * c + ((4 : Nat) : Int) from par_kid.mpr z2), z2, up_s, if_pos rfl]
    exact if_neg hp
  · rw [if_neg (show ¬ (16 + 4 * c ≤ j ∧ j < 16 + 4 * c + ((4 : Nat) : Int)) from fun q => z2 (par_kid.mp q)), up_n _ _ z2]
theorem dA_step {K : Int → Int} (hp : D (par c) ≠ 1) : cutA (dA D K) c 4 = dA (up D c 1) K := by
  have e : dA D K c = K c := if_neg hp
  funext j
  unfold cutA
  rw [e]
  unfold dA
  by_cases z2 : par j = c
  · rw [if_pos (show 16 + 4 * c ≤ j ∧ j < 16 + 4 * c + ((4 : Nat) : Int) from par_kid.mpr z2), z2, up_s, if_pos rfl]
  · rw [if_neg (show ¬ (16 + 4 * c ≤ j ∧ j < 16 + 4 * c + ((4 : Nat) : Int)) from fun q => z2 (par_kid.mp q)), up_n _ _ z2]
theorem dT_step {T : Int → Int} (hc : 0 ≤ c) (hk : ∀ j : Int, par j = c → D j ≠ 1) : cutT (up (dT D T) c 0) c 4 = dT (up D c 1) T := by
  funext j
  unfold cutT
  by_cases z2 : par j = c
  · have z : j ≠ c := by
      have := par_kid.mpr z2
      omega
    rw [if_pos (show 16 + 4 * c ≤ j ∧ j < 16 + 4 * c + ((4 : Nat) : Int) from par_kid.mpr z2)]
    unfold dT
    rw [up_n _ _ z, if_neg (hk j z2), z2, up_s, if_pos rfl]
  · rw [if_neg (show ¬ (16 + 4 * c ≤ j ∧ j < 16 + 4 * c + ((4 : Nat) : Int)) from fun q => z2 (par_kid.mp q))]
    by_cases z : j = c
    · subst z
      unfold dT
      rw [up_s, up_s, if_pos rfl]
    · rw [up_n _ _ z]
      unfold dT
      rw [up_n _ _ z, up_n _ _ z2]
theorem cutO_any {O O' : Int → Int} {s : Int} (hc : 0 ≤ c ∧ c < 80) (h : inC c s) : cutO O c 4 s = cutO O' c 4 s := by
  rcases cutO_4 (O := O) (s := s) hc with ⟨z, _⟩ | ⟨_, q, hq, hi, e⟩
  · exact absurd h z
  · rcases cutO_4 (O := O') (s := s) hc with ⟨z, _⟩ | ⟨_, q', hq', hi', e'⟩
    · exact absurd h z
    · rw [e, e', kid_one hc hq hq' hi hi']
theorem cutO_no {O : Int → Int} {s : Int} (hc : 0 ≤ c ∧ c < 80) (h : ¬ inC c s) : cutO O c 4 s = O s := by
  rcases cutO_4 (O := O) (s := s) hc with ⟨_, e⟩ | ⟨z, _⟩
  · exact e
  · exact absurd z h
theorem dO_step {O : Int → Int} (hc : 0 ≤ c ∧ c < 80) (ho : ∀ s : Int, inC c s → O s = c) : cutO (dO D O) c 4 = dO (up D c 1) O := by
  funext s
  by_cases z : inC c s
  · rw [cutO_any (O' := O) hc z]
    unfold dO
    rw [ho s z, up_s, if_pos rfl]
  · rw [cutO_no hc z]
    unfold dO
    by_cases z2 : O s = c
    · rw [z2, up_s, if_pos rfl, cutO_no hc z, z2]
      split
      · rfl
      · rfl
    · rw [up_n _ _ z2]
end DST
theorem d_0 {D : Int → Int} (h : ∀ j, D j ≠ 1) (K : Int → Int) : dK D K = K ∧ dK2 D K = K ∧ dT D K = K ∧ dA D K = K ∧ dG D K = K ∧ dX D K = K ∧ dO D K = K := by
  refine ⟨?_, ?_, ?_, ?_, ?_, ?_, ?_⟩
  · funext j; unfold dK; rw [if_neg (h _), if_neg (h _)]
  · funext j; unfold dK2; rw [if_neg (h _)]
  · funext j; unfold dT; rw [if_neg (h _), if_neg (h _)]
  · funext j; unfold dA; rw [if_neg (h _)]
  · funext j; unfold dG; rw [if_neg (h _)]
  · funext j; unfold dX; rw [if_neg (h _)]
  · funext j; unfold dO; rw [if_neg (h _)]
theorem cnt_rev {p : Int → Prop} [DecidablePred p] : ∀ k : Nat, k ≤ 80 → cnt (fun i => p (79 - i)) k + cnt p (80 - k) = cnt p 80
  | 0, _ => by
    show 0 + cnt p 80 = _
    omega
  | k + 1, hk => by
    have ih := cnt_rev (p := p) k (by omega)
    have e : 80 - k = (80 - (k + 1)) + 1 := by omega
    have e2 : (79 : Int) - (k : Int) = ((80 - (k + 1) : Nat) : Int) := by omega
    rw [e] at ih
    by_cases z : p (79 - (k : Int))
    · rw [cnt_t (p := fun i => p (79 - i)) z]
      rw [e2] at z
      rw [cnt_t (p := p) z] at ih
      omega
    · rw [cnt_f (p := fun i => p (79 - i)) z]
      rw [e2] at z
      rw [cnt_f (p := p) z] at ih
      omega
