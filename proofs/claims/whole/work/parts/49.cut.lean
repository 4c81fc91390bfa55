/-! World's rows as one: 11 (its own), 12 kinds, 13 amounts, 14 given, 19 owners -/
theorem hst_hn (h : Hp) {a b : Int} (i v : Int) (f : Int → Int) (hn : a ≠ b) : hst (hrow h b f) a i v = hrow (hst h a i v) b f := by
  rw [hst_row, hrow_n h f hn, hrow_swap h f _ (fun z => hn z.symm), ← hst_row]
def wv (h : Hp) (R K A G O : Int → Int) : Hp := hrow (hrow (hrow (hrow (hrow h 11 R) 12 K) 13 A) 14 G) 19 O
section WV
variable {h : Hp} {R K A G O : Int → Int}
theorem wv_id : wv h (h 11) (h 12) (h 13) (h 14) (h 19) = h := by
  unfold wv
  have e1 : hrow h 11 (h 11) = h := hrow_self h 11
  have e2 : hrow h 12 (h 12) = h := hrow_self h 12
  have e3 : hrow h 13 (h 13) = h := hrow_self h 13
  have e4 : hrow h 14 (h 14) = h := hrow_self h 14
  have e5 : hrow h 19 (h 19) = h := hrow_self h 19
  rw [e1, e2, e3, e4, e5]
theorem wv_r11 : wv h R K A G O 11 = R := by simp [wv, hrow_at]
theorem wv_r12 : wv h R K A G O 12 = K := by simp [wv, hrow_at]
theorem wv_r13 : wv h R K A G O 13 = A := by simp [wv, hrow_at]
theorem wv_r14 : wv h R K A G O 14 = G := by simp [wv, hrow_at]
theorem wv_r19 : wv h R K A G O 19 = O := by simp [wv, hrow_at]
theorem wv_off {a : Int} (h1 : a ≠ 11) (h2 : a ≠ 12) (h3 : a ≠ 13) (h4 : a ≠ 14) (h5 : a ≠ 19) : wv h R K A G O a = h a := by simp [wv, hrow_at, h1, h2, h3, h4, h5]
theorem wv_s11 (i v : Int) : hst (wv h R K A G O) 11 i v = wv h (up R i v) K A G O := by
  unfold wv
  rw [hst_hn _ _ _ _ (by decide), hst_hn _ _ _ _ (by decide), hst_hn _ _ _ _ (by decide), hst_hn _ _ _ _ (by decide), hst_rr]
theorem wv_s12 (i v : Int) : hst (wv h R K A G O) 12 i v = wv h R (up K i v) A G O := by
  unfold wv
  rw [hst_hn _ _ _ _ (by decide), hst_hn _ _ _ _ (by decide), hst_hn _ _ _ _ (by decide), hst_rr]
theorem wv_s13 (i v : Int) : hst (wv h R K A G O) 13 i v = wv h R K (up A i v) G O := by
  unfold wv
  rw [hst_hn _ _ _ _ (by decide), hst_hn _ _ _ _ (by decide), hst_rr]
theorem wv_s14 (i v : Int) : hst (wv h R K A G O) 14 i v = wv h R K A (up G i v) O := by
  unfold wv
  rw [hst_hn _ _ _ _ (by decide), hst_rr]
theorem wv_o19 (f : Int → Int) : hrow (wv h R K A G O) 19 f = wv h R K A G f := by
  unfold wv
  rw [hrow_row]
theorem wv_geo (hg : GeoOK h) : GeoOK (wv h R K A G O) := by
  intro c h1 h2
  have e16 : wv h R K A G O 16 = h 16 := wv_off (by decide) (by decide) (by decide) (by decide) (by decide)
  have e17 : wv h R K A G O 17 = h 17 := wv_off (by decide) (by decide) (by decide) (by decide) (by decide)
  have e18 : wv h R K A G O 18 = h 18 := wv_off (by decide) (by decide) (by decide) (by decide) (by decide)
  rw [e16, e17, e18]
  exact hg c h1 h2
end WV
theorem e_paint_wv {E : PvEnv} (hE : ∀ k, E 11 k = refT 11 k) {d : Nat} {Q : Int → Hp → Prop} {h : Hp} {R K A G O : Int → Int} {c : Int} (hc : isN c) (hg : GeoOK h) : wpS E (d + 2) mX8_paint [(2, 11), (0, c)] (wv h R K A G O) Q = Q 0 (wv h (up R 9 1) K A G (pnt O c)) := by
  rw [e_paint hE hc (wv_geo hg), wv_s11, wv_o19, wv_r19]
/-- the kids' kinds, amounts, machines, squares, the first k of them -/
def cutK (K : Int → Int) (c : Int) (k : Nat) : Int → Int := fun j => if 16 + 4 * c ≤ j ∧ j < 16 + 4 * c + k then 1 else K j
def cutA (A : Int → Int) (c : Int) (k : Nat) : Int → Int := fun j => if 16 + 4 * c ≤ j ∧ j < 16 + 4 * c + k then A c / 4 + (if j - (16 + 4 * c) < A c % 4 then 1 else 0) else A j
def cutG (G : Int → Int) (c : Int) (k : Nat) : Int → Int := fun j => if 16 + 4 * c ≤ j ∧ j < 16 + 4 * c + k then G c else G j
noncomputable def cutO (O : Int → Int) (c : Int) : Nat → Int → Int
  | 0 => O
  | k + 1 => pnt (cutO O c k) (16 + 4 * c + k)
set_option maxHeartbeats 1000000 in
theorem e_cutInFour {E : PvEnv} (hE : ∀ k, E 11 k = refT 11 k) {d : Nat} {Q : Int → Hp → Prop} {h : Hp} {R K A G O : Int → Int} {c : Int} (hc : 0 ≤ c ∧ c < 80) (hk : K c = 0 ∨ K c = 1) (ha : 0 ≤ A c ∧ A c ≤ 1000000) (hg : GeoOK h) : wpS E (d + 3) mX8_cutInFour [(2, 11), (0, c)] (wv h R K A G O) Q = Q 0 (wv h (up R 9 1) (up (cutK K c 4) c (-1)) (cutA A c 4) (cutG G c 4) (cutO O c 4)) := by
  rw [u_X8_cutInFour hE, e_canPart hE, b2_if, wv_r12, if_pos ⟨hc, hk⟩, e_firstChildOf (by omega), and_tl (by omega), wv_r13, tm ha.1]
  have step : ∀ k : Nat, k < 4 → ∀ R' : Int → Int, Ws E (d + 2) mX8_cutInFour Q 26 [(2, 11), (0, c), (0, 16 + 4 * c), (0, A c % 4), (0, (k : Int))] [] (wv h R' (cutK K c k) (cutA A c k) (cutG G c k) (cutO O c k)) = Ws E (d + 2) mX8_cutInFour Q 26 [(2, 11), (0, c), (0, 16 + 4 * c), (0, A c % 4), (0, ((k + 1 : Nat) : Int))] [] (wv h (up R' 9 1) (cutK K c (k + 1)) (cutA A c (k + 1)) (cutG G c (k + 1)) (cutO O c (k + 1))) := by
    intro k hk4 R'
    have eA : cutA A c k c = A c := by unfold cutA; rw [if_neg (by omega)]
    have eG : cutG G c k c = G c := by unfold cutG; rw [if_neg (by omega)]
    rw [b_X8_cutInFour_26 hE, if_pos (by omega), w32_of (x := 16 + 4 * c + (k : Int)) (by omega) (by omega), and_tl (by omega), and_tl (by omega), wv_s12, wv_r13, eA, td ha.1, w32_of (x := A c / 4) (by omega) (by omega), b_X8_cutInFour_69 hE, b_X8_cutInFour_69 hE]
    simp only [w32_of (x := 16 + 4 * c + (k : Int)) (by omega) (by omega), wv_s13, wv_s14, wv_r14, eG]
    rw [w32_of (x := A c / 4 + 1) (by omega) (by omega), w32_of (x := A c / 4 + 0) (by omega) (by omega)]
    simp only [e_paint_wv hE (show isN (16 + 4 * c + (k : Int)) by omega) hg]
    rw [w32_n1 (by omega)]
    have e1 : up (cutK K c k) (16 + 4 * c + (k : Int)) 1 = cutK K c (k + 1) := by
      funext j
      unfold up cutK
      repeat' split
      all_goals first | rfl | (exfalso; omega)
    have e3 : up (cutG G c k) (16 + 4 * c + (k : Int)) (G c) = cutG G c (k + 1) := by
      funext j
      unfold up cutG
      repeat' split
      all_goals first | rfl | (exfalso; omega)
    have e4 : pnt (cutO O c k) (16 + 4 * c + (k : Int)) = cutO O c (k + 1) := rfl
    have hb : (0 ≤ 16 + 4 * c + (k : Int) ∧ 16 + 4 * c + (k : Int) < 336) ∧ 0 ≤ c ∧ c < 336 := by omega
    rw [e1, e3, e4]
    by_cases z : (k : Int) < A c % 4
    · rw [if_pos z, and_tl hb.1, and_tl hb.2, and_tl hb.1]
      have e2 : up (cutA A c k) (16 + 4 * c + (k : Int)) (A c / 4 + 1) = cutA A c (k + 1) := by
        funext j
        unfold up cutA
        by_cases w : j = 16 + 4 * c + (k : Int)
        · rw [if_pos w, if_pos (by omega), if_pos (by omega)]
        · rw [if_neg w]
          by_cases w2 : 16 + 4 * c ≤ j ∧ j < 16 + 4 * c + (k : Int)
          · rw [if_pos w2]
            exact (if_pos (by omega)).symm
          · rw [if_neg w2, if_neg (by omega)]
      rw [e2]
    · rw [if_neg z, and_tl hb.1, and_tl hb.2, and_tl hb.1]
      have e2 : up (cutA A c k) (16 + 4 * c + (k : Int)) (A c / 4 + 0) = cutA A c (k + 1) := by
        funext j
        unfold up cutA
        by_cases w : j = 16 + 4 * c + (k : Int)
        · rw [if_pos w, if_pos (by omega), if_neg (by omega)]
        · rw [if_neg w]
          by_cases w2 : 16 + 4 * c ≤ j ∧ j < 16 + 4 * c + (k : Int)
          · rw [if_pos w2]
            exact (if_pos (by omega)).symm
          · rw [if_neg w2, if_neg (by omega)]
      rw [e2]
  have c0 : cutK K c 0 = K := by funext j; unfold cutK; rw [if_neg (by omega)]
  have c1 : cutA A c 0 = A := by funext j; unfold cutA; rw [if_neg (by omega)]
  have c2 : cutG G c 0 = G := by funext j; unfold cutG; rw [if_neg (by omega)]
  have s0 := step 0 (by omega) R
  rw [c0, c1, c2] at s0
  have s1 := step 1 (by omega) (up R 9 1)
  have s2 := step 2 (by omega) (up (up R 9 1) 9 1)
  have s3 := step 3 (by omega) (up (up (up R 9 1) 9 1) 9 1)
  have uu : ∀ (f : Int → Int), up (up f 9 1) 9 1 = up f 9 1 := fun f => by funext j; unfold up; split <;> rfl
  rw [uu] at s1
  rw [uu, uu] at s2
  rw [uu, uu, uu] at s3
  refine s0.trans (s1.trans (s2.trans (s3.trans ?_)))
  rw [b_X8_cutInFour_26 hE, if_neg (by decide), and_tl (by omega), wv_s12]
/-- four are one again -/
def joiK (K : Int → Int) (c : Int) : Int → Int := fun j => if 16 + 4 * c ≤ j ∧ j < 16 + 4 * c + 4 then -1 else if j = c then (if c < 16 then 0 else 1) else K j
set_option maxHeartbeats 1000000 in
theorem e_makeOne {E : PvEnv} (hE : ∀ k, E 11 k = refT 11 k) {d : Nat} {Q : Int → Hp → Prop} {h : Hp} {R K A G O : Int → Int} {c : Int} (hc : 0 ≤ c ∧ c < 80) (hf : K (16 + 4 * c) ≠ -1 ∧ K (16 + 4 * c + 1) ≠ -1 ∧ K (16 + 4 * c + 2) ≠ -1 ∧ K (16 + 4 * c + 3) ≠ -1) (ha : ∀ k : Int, 0 ≤ k → k < 336 → 0 ≤ A k ∧ A k ≤ 1000000) (hg : GeoOK h) : wpS E (d + 5) mX8_makeOneOfFour [(2, 11), (0, c)] (wv h R K A G O) Q = Q 0 (wv h (up R 9 1) (joiK K c) (up A c (sum4 A c)) (up G c (G (16 + 4 * c))) (pnt O c)) := by
  have key : ∀ v : Int, v = (if c < 16 then 0 else 1) → Ws E (d + 4) mX8_makeOneOfFour Q 30 [(2, 11), (0, c), (0, 16 + 4 * c), (9, 0)] [(0, v), (0, c), (2, 12)] (wv h R K A G O) = Q 0 (wv h (up R 9 1) (joiK K c) (up A c (sum4 A c)) (up G c (G (16 + 4 * c))) (pnt O c)) := by
    intro v hv
    rw [b_X8_makeOneOfFour_30 hE, and_tl (by omega), wv_s12]
    have hn : ∀ q : Int, 0 ≤ q → up K c v (16 + 4 * c + q) = K (16 + 4 * c + q) := fun q hq => up_n K v (by omega)
    have hn0 : up K c v (16 + 4 * c) = K (16 + 4 * c) := up_n K v (by omega)
    rw [e_sumOfFour hE hc (by rw [wv_r12, hn0, hn 1 (by omega), hn 2 (by omega), hn 3 (by omega)]; exact hf) (by rw [wv_r13]; exact ha), and_tl (by omega), and_tl (by omega), and_tl (by omega), wv_r13, wv_s13, wv_r14, wv_s14]
    have step : ∀ k : Nat, k < 4 → Ws E (d + 4) mX8_makeOneOfFour Q 56 [(2, 11), (0, c), (0, 16 + 4 * c), (0, (k : Int))] [] (wv h R (fun j => if 16 + 4 * c ≤ j ∧ j < 16 + 4 * c + k then -1 else up K c v j) (up A c (sum4 A c)) (up G c (G (16 + 4 * c))) O) = Ws E (d + 4) mX8_makeOneOfFour Q 56 [(2, 11), (0, c), (0, 16 + 4 * c), (0, ((k + 1 : Nat) : Int))] [] (wv h R (fun j => if 16 + 4 * c ≤ j ∧ j < 16 + 4 * c + ((k + 1 : Nat) : Int) then -1 else up K c v j) (up A c (sum4 A c)) (up G c (G (16 + 4 * c))) O) := by
      intro k hk
      rw [b_X8_makeOneOfFour_56 hE, if_pos (by omega), w32_of (x := 16 + 4 * c + (k : Int)) (by omega) (by omega), and_tl (by omega), w32_n1 (by omega), wv_s12]
      congr 2
      funext j
      unfold up
      by_cases w : j = 16 + 4 * c + (k : Int)
      · rw [if_pos w, if_pos (by omega)]
      · rw [if_neg w]
        dsimp only
        by_cases w2 : 16 + 4 * c ≤ j ∧ j < 16 + 4 * c + (k : Int)
        · rw [if_pos w2]
          exact (if_pos (by omega)).symm
        · rw [if_neg w2]
          exact (if_neg (by omega)).symm
    have l := loop_n (P := fun k => Ws E (d + 4) mX8_makeOneOfFour Q 56 [(2, 11), (0, c), (0, 16 + 4 * c), (0, (k : Int))] [] (wv h R (fun j => if 16 + 4 * c ≤ j ∧ j < 16 + 4 * c + k then -1 else up K c v j) (up A c (sum4 A c)) (up G c (G (16 + 4 * c))) O)) 4 step
    have e0 : (fun j : Int => if 16 + 4 * c ≤ j ∧ j < 16 + 4 * c + ((0 : Nat) : Int) then -1 else up K c v j) = up K c v := by
      funext j
      rw [if_neg (by omega)]
    rw [e0] at l
    refine l.trans ?_
    rw [b_X8_makeOneOfFour_56 hE, if_neg (by decide), e_paint_wv hE (show isN c by omega) hg]
    congr 2
    funext j
    unfold joiK up
    rw [← hv]
    rfl
  rw [u_X8_makeOneOfFour hE, e_hasFour hE hc, wv_r12, if_pos hf, if_neg (by decide), e_firstChildOf (by omega)]
  by_cases z : c < 16
  · rw [if_pos z]; exact key 0 (by rw [if_pos z])
  · rw [if_neg z]; exact key 1 (by rw [if_neg z])
