/-! there are never more than 960 links -/
/-- in numbers without sign, for the kernel -/
def nw (c : Nat) : Nat := if c < 16 then 4 else if c < 80 then 2 else 1
def np (c : Nat) : Nat := (c - 16) / 4
def nx (c : Nat) : Nat := if c < 16 then 4 * (c % 4) else if c < 80 then 4 * (np c % 4) + 2 * (c % 2) else 4 * (np (np c) % 4) + 2 * (np c % 2) + c % 2
def ny (c : Nat) : Nat := if c < 16 then 4 * (c / 4) else if c < 80 then 4 * (np c / 4) + 2 * (c / 2 % 2) else 4 * (np (np c) / 4) + 2 * (np c / 2 % 2) + c / 2 % 2
theorem nw_e (c : Nat) : gw (c : Int) = (nw c : Int) := by
  unfold gw nw
  by_cases h1 : c < 16
  · rw [if_pos (by omega), if_pos h1]; rfl
  · rw [if_neg (by omega), if_neg h1]
    by_cases h2 : c < 80
    · rw [if_pos (by omega), if_pos h2]; rfl
    · rw [if_neg (by omega), if_neg h2]; rfl
theorem np_e {c : Nat} (h : 16 ≤ c) : gp (c : Int) = (np c : Int) := by
  unfold gp np
  omega
theorem nx_e (c : Nat) : gx (c : Int) = (nx c : Int) := by
  unfold gx nx
  by_cases h1 : c < 16
  · rw [if_pos (by omega), if_pos h1]; omega
  · rw [if_neg (by omega), if_neg h1]
    by_cases h2 : c < 80
    · rw [if_pos (by omega), if_pos h2, np_e (by omega)]; omega
    · have h3 : 16 ≤ np c := by unfold np; omega
      rw [if_neg (by omega), if_neg h2, np_e (by omega), np_e h3]; omega
theorem ny_e (c : Nat) : gy (c : Int) = (ny c : Int) := by
  unfold gy ny
  by_cases h1 : c < 16
  · rw [if_pos (by omega), if_pos h1]; omega
  · rw [if_neg (by omega), if_neg h1]
    by_cases h2 : c < 80
    · rw [if_pos (by omega), if_pos h2, np_e (by omega)]; omega
    · have h3 : 16 ≤ np c := by unfold np; omega
      rw [if_neg (by omega), if_neg h2, np_e (by omega), np_e h3]; omega
/-- sides of a square that lie between squares -/
def nq (s : Nat) : Nat := (if s % 16 = 0 then 0 else 1) + (if s % 16 = 15 then 0 else 1) + (if s / 16 = 0 then 0 else 1) + (if s / 16 = 15 then 0 else 1)
def nsm (f : Nat → Nat) : Nat → Nat
  | 0 => 0
  | k + 1 => nsm f k + f k
/-- a cell's own sides between squares -/
def nf (c : Nat) : Nat := (if nx c = 0 then 0 else nw c) + (if nx c + nw c = 16 then 0 else nw c) + (if ny c = 0 then 0 else nw c) + (if ny c + nw c = 16 then 0 else nw c)
/-- of the squares of a cell -/
def nrow (x y w : Nat) : Nat := nsm (fun i => nq (16 * y + x + i)) w
def nG (c : Nat) : Nat := nsm (fun j => nrow (nx c) (ny c + j) (nw c)) (nw c)
theorem nf_le : ∀ c : Fin 336, nf c.val ≤ nG c.val := by decide +kernel
theorem nq_all : nsm nq 256 = 960 := by decide +kernel
