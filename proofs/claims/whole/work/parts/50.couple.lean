/-! what class and reference have in common -/
theorem hst_at (h : Hp) (a i v b : Int) : hst h a i v b = if b = a then up (h a) i v else h b := by
  rw [hst_row, hrow_at]
def CFnd (a b : Int) (F G : Int → Int) : Prop := a = b ∧ ∀ f : Int, 1 ≤ f → f ≤ 5 → F f = G f
def CSh (N lo hi : Int) (s p S P : Int → Int) : Prop := SzOK N s ∧ (∀ r : Int, 0 ≤ r → r < N → (S r = s r ∨ (s r = -1 ∧ S r = -9))) ∧ ∀ r i : Int, 0 ≤ r → r < N → 0 ≤ i → i < s r → P (40 * r + i) = p (40 * r + i) ∧ lo ≤ p (40 * r + i) ∧ p (40 * r + i) ≤ hi
def CLaw (n m o p j a b c e g : Int) : Prop := (a = n ∧ b = m ∧ c = o) ∧ (0 ≤ n ∧ n ≤ m ∧ 1 ≤ m ∧ m ≤ 99 ∧ (o = 0 ∨ o = 1)) ∧ ((p = -1 ∧ e = -9) ∨ (e = p ∧ 1 ≤ p ∧ p ≤ 999999)) ∧ ((j = -1 ∧ g = -9) ∨ (g = j ∧ 0 ≤ j ∧ j ≤ 999999))
def CGeo (L H W : Int → Int) : Prop := ∀ c : Int, 0 ≤ c → c < 336 → L c = gx c ∧ H c = gy c ∧ W c = gw c
/-- the cells that are there lie side by side and cover the world; O tells whose each square is -/
def Prt (K O : Int → Int) : Prop := (∀ s : Int, 0 ≤ s → s < 256 → isN (O s) ∧ K (O s) ≠ -1 ∧ inC (O s) s) ∧ ∀ c s : Int, isN c → K c ≠ -1 → inC c s → O s = c
def rAm (a : Int) : Prop := 0 ≤ a ∧ a ≤ 1000000
def rMa (a : Int) : Prop := 0 ≤ a ∧ a < 6
def rKi (a : Int) : Prop := -1 ≤ a ∧ a ≤ 4
def CCel (k a g t a' k' g' : Int) : Prop := rKi k ∧ t = (if k = -1 then 0 else 1) ∧ (rAm a ∧ rAm a' ∧ rMa g ∧ rMa g') ∧ (k ≠ -1 → k' = k ∧ a' = a ∧ g' = g)
def CMrk (k x x' : Int) : Prop := (k = 2 → (x' = x ∧ 0 ≤ x) ∨ (x < 0 ∧ x' < 0)) ∧ (k = 3 ∨ k = 4 → x' = x)
def CWld (t t' : Int) (K A G X O T A' K' G' X' S : Int → Int) : Prop := t' = t ∧ (∀ c : Int, 0 ≤ c → c < 336 → CCel (K c) (A c) (G c) (T c) (A' c) (K' c) (G' c) ∧ CMrk (K c) (X c) (X' c)) ∧ Prt K O ∧ ∀ s : Int, 0 ≤ s → s < 256 → S s = O s
/-- the squares around c, in the order left, right, above, below -/
def px (c i : Int) : Int := if i < gw c then gx c - 1 else if i < 2 * gw c then gx c + gw c else if i < 3 * gw c then gx c + (i - 2 * gw c) else gx c + (i - 3 * gw c)
def py (c i : Int) : Int := if i < gw c then gy c + i else if i < 2 * gw c then gy c + (i - gw c) else if i < 3 * gw c then gy c - 1 else gy c + gw c
abbrev onW (x y : Int) : Prop := (0 ≤ x ∧ x < 16) ∧ 0 ≤ y ∧ y < 16
def nb (O : Int → Int) (c b : Int) : Int := cnt (fun i => onW (px c i) (py c i) ∧ O (16 * py c i + px c i) = b) (4 * gw c).toNat
def rm (c : Int) : Int := cnt (fun i => ¬ onW (px c i) (py c i)) (4 * gw c).toNat
/-- B and D from lo up to hi: each that lies beside c once, with how many sides -/
def NearOK (O : Int → Int) (c lo hi : Int) (B D : Int → Int) : Prop := (∀ k : Int, lo ≤ k → k < hi → isN (B k) ∧ D k = nb O c (B k) ∧ 1 ≤ D k) ∧ (∀ k k' : Int, lo ≤ k → k < hi → lo ≤ k' → k' < hi → B k = B k' → k = k') ∧ ∀ b : Int, 1 ≤ nb O c b → ∃ k : Int, lo ≤ k ∧ k < hi ∧ B k = b
/-- the square at a place of the curve -/
def zx (p : Int) : Int := p % 2 + 2 * (p / 4 % 2) + 4 * (p / 16 % 2) + 8 * (p / 64 % 2)
def zy (p : Int) : Int := p / 2 % 2 + 2 * (p / 8 % 2) + 4 * (p / 32 % 2) + 8 * (p / 128 % 2)
abbrev crn (O : Int → Int) (p : Int) : Prop := gx (O (16 * zy p + zx p)) = zx p ∧ gy (O (16 * zy p + zx p)) = zy p
def OrdOK (O : Int → Int) (many : Int) (V : Int → Int) : Prop := many = cnt (crn O) 256 ∧ ∀ p : Nat, p < 256 → crn O p → V (cnt (crn O) p) = O (16 * zy p + zx p)
def CLay (b cells : Int) (F B D R V K O : Int → Int) : Prop := (b = 0 ∨ b = 1) ∧ (b = 0 → (∀ c : Int, 0 ≤ c → c < 336 → K c ≠ -1 → R c = rm c ∧ (0 ≤ F c ∧ F c ≤ F (c + 1) ∧ F (c + 1) ≤ 960) ∧ NearOK O c (F c) (F (c + 1)) B D) ∧ OrdOK O cells V)
/-- what goes -/
def fv (a n m s w : Int) : Int := a * n * s / (4 * m * w)
def ovl (f l g k : Int) : Int := max 0 (min (f + l) (g + k) - max f g)
def sb (a b : Int) : Int := if gx a + gw a = gx b ∨ gx b + gw b = gx a then ovl (gy a) (gw a) (gy b) (gw b) else if gy a + gw a = gy b ∨ gy b + gw b = gy a then ovl (gx a) (gw a) (gx b) (gw b) else 0
def fl (F T A : Int → Int) (a b : Int) : Nat → Int
  | 0 => 0
  | k + 1 => if F k = a ∧ T k = b then A k else fl F T A a b k
def CFlo (n m : Int) (Bg : Int → Int) (many : Int) (F T A : Int → Int) : Prop := (0 ≤ n ∧ n ≤ m ∧ 1 ≤ m ∧ m ≤ 99) ∧ (0 ≤ many ∧ many ≤ 1024) ∧ (∀ c : Int, 0 ≤ c → c < 336 → -1 ≤ Bg c ∧ Bg c ≤ 1000000) ∧ ∀ a b : Int, isN a → isN b → fl F T A a b many.toNat = if Bg a < 0 ∨ Bg b < 0 then 0 else fv (Bg a) n m (sb a b) (gw a)
def CCrw (K E W S L W' : Int → Int) : Prop := ∀ m : Int, 0 ≤ m → m < 6 → S m = K m ∧ (0 ≤ K m ∧ K m ≤ 4) ∧ L m = E m ∧ W' m = W m
def sAm (K A : Int → Int) : Int := sm (fun c => if K c = -1 then 0 else A c) 336
def sNm (K A : Int → Int) : Int := sm (fun c => if K c = -1 then 0 else A c * (c + 1)) 336
def CKep (o kept tick sa sn : Int) (K A G : Int → Int) (kept' tick' : Int) (T A' K' G' : Int → Int) : Prop := (kept = 0 ∨ kept = 1) ∧ kept' = kept ∧ (kept = 1 → tick' = tick ∧ (sa = sAm K A ∧ sn = sNm K A) ∧ (∃ O, Prt K O) ∧ ∀ c : Int, 0 ≤ c → c < 336 → CCel (K c) (A c) (G c) (T (o + c)) (A' (o + c)) (K' (o + c)) (G' (o + c)))
def CSha (a b : Int) : Prop := (a = 46 ∧ b = 47) ∨ (a = 47 ∧ b = 46)
def Cpl (h : Hp) : Prop :=
  CFnd (h 0 13) (h 50 0) (h 49) (h 51) ∧ h 50 2 = h 0 14 ∧
  CSh 6 (-2147483648) 2147483647 (h 2) (h 3) (h 52) (h 53) ∧ CSh 4 (-128) 127 (h 5) (h 6) (h 55) (h 56) ∧
  CLaw (h 7 0) (h 7 1) (h 7 2) (h 7 3) (h 7 4) (h 50 10) (h 50 11) (h 50 12) (h 50 13) (h 50 14) ∧
  CGeo (h 16) (h 17) (h 18) ∧
  CWld (h 11 8) (h 50 28) (h 12) (h 13) (h 14) (h 15) (h 19) (h 57) (h 58) (h 59) (h 60) (h 61) (h 62) ∧
  CLay (h 11 9) (h 20 6) (h 21) (h 22) (h 23) (h 24) (h 25) (h 12) (h 19) ∧
  CFlo (h 26 4) (h 26 5) (h 27) (h 50 33) (h 65) (h 66) (h 67) ∧
  (h 50 43 = h 26 6 ∧ h 50 44 = h 26 7) ∧
  CCrw (h 31) (h 32) (h 33) (h 74) (h 79) (h 78) ∧
  CKep 0 (h 37 6) (h 37 3) (h 37 4) (h 37 5) (h 38) (h 39) (h 40) (h 81 0) (h 86 0) (h 82) (h 83) (h 84) (h 85) ∧
  CKep 336 (h 41 6) (h 41 3) (h 41 4) (h 41 5) (h 42) (h 43) (h 44) (h 81 1) (h 86 1) (h 82) (h 83) (h 84) (h 85) ∧
  CSha (h 45 0) (h 45 1) ∧ (h 50 3 = h 48 0 ∧ h 50 4 = h 48 1)
/-- a call on either side: the same answer, and all stays in common -/
def Pr (n : Int) (Mx Mm : MRec) (as : List PV) : Prop := ∀ h : Hp, Cpl h → ∃ a h1 h2, (∀ Q : Int → Hp → Prop, wpS (EF n) 9 Mx ((2, 0) :: as) h Q = Q a h1) ∧ (∀ Q : Int → Hp → Prop, wpS (EF n) 9 Mm ((2, 50) :: as) h1 Q = Q a h2) ∧ Cpl h2
theorem Cpl_fnd {h : Hp} {f : Int} (hC : Cpl h) (h1 : 1 ≤ f) (h2 : f ≤ 5) : Cpl (mfnd (fnd h f) f) := by
  obtain ⟨c1, c2, c3, c4, c5, c6, c7, c8, c9, c10, c11, c12, c13, c14, c15⟩ := hC
  unfold Cpl mfnd fnd
  simp only [hst_at, hrow_at, up_at, Int.reduceEq, if_true, if_false, reduceIte]
  refine ⟨?_, c2, c3, c4, c5, c6, c7, c8, c9, c10, c11, c12, c13, c14, c15⟩
  obtain ⟨e, g⟩ := c1
  refine ⟨rfl, fun k k1 k2 => ?_⟩
  simp only [up_at]
  rw [g f h1 h2]
  split
  · rfl
  · exact g k k1 k2
