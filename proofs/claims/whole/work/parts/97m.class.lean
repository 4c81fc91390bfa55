/-! constructors: the class -/
def nwo (ci : Nat) : Int → Int := fun i => if ftT ci i.toNat = 2 then -1 else 0
def rj (R : Hp) (m : Int) (f : Int → Int) (R2 : Hp) : Hp := fun a => if a < m then R a else if a = m then f else R2 a
theorem Mk.sub {h g g2 : Hp} {o c m b n m2 b2 : Int} {F N0 F2 : Int → Int} {R R2 : Hp} (K : Mk h g o c m b F R) (K2 : Mk (hnew g N0 n) g2 m (m + 1) m2 b2 F2 R2) (f : Int) : Mk h (hst g2 o f m) o c m2 (b + n + b2) (up F f m) (rj R m F2 R2) := by
  obtain ⟨⟨k1, k2, k3⟩, ⟨k4, k5, k6⟩, k7, k8, k9⟩ := K
  obtain ⟨⟨j1, j2, j3⟩, ⟨j4, j5, j6⟩, j7, j8, j9⟩ := K2
  rw [hw_1] at j3
  have e : ∀ a : Int, a ≠ -3 → a ≠ m → (a < m + 1 ∨ m2 ≤ a) → g2 a = g a := fun a q1 q2 q3 => by
    rw [j9 a q1 q2 q3, hw_n k2 q2 q1]
  refine ⟨⟨k1, by rw [hst_off _ (by omega)]; exact j2, by rw [hst_off _ (by omega)]; omega⟩, ⟨k4, k5, by omega⟩, fun a q1 q2 => ?_, ?_, fun a q1 q2 q3 => ?_⟩
  · rw [hst_off _ (by omega)]
    unfold rj
    by_cases z : a < m
    · rw [if_pos z, e a (by omega) (by omega) (by omega)]
      exact k7 a q1 z
    · rw [if_neg z]
      by_cases y : a = m
      · rw [if_pos y, y, j8]
      · rw [if_neg y]
        exact j7 a (by omega) q2
  · rw [hst_row, hrow_s, e o (by omega) (by omega) (by omega), k8]
  · rw [hst_off _ q2, e a q1 (by omega) (by omega)]
    exact k9 a q1 q2 (by omega)
theorem Mk.book {h g : Hp} {o c m b : Int} {F : Int → Int} {R : Hp} (K : Mk h g o c m b F R) (b' : Int) : Mk h (hst g (-3) 1 (h (-3) 1 + b')) o c m b' F R := by
  obtain ⟨⟨k1, k2, k3⟩, ⟨k4, k5, k6⟩, k7, k8, k9⟩ := K
  refine ⟨⟨k1, by rw [hst_o _ _ _ (by decide)]; exact k2, hst_s _ _ _ _⟩, ⟨k4, k5, k6⟩, fun a q1 q2 => ?_, ?_, fun a q1 q2 q3 => ?_⟩
  · rw [hst_off _ (by omega)]; exact k7 a q1 q2
  · rw [hst_off _ (by omega)]; exact k8
  · rw [hst_off _ q1]; exact k9 a q1 q2 q3
theorem z_call {E : PvEnv} {d : Nat} {M : MRec} {cal : PCal} {Q : Int → Hp → Prop} {pc : Nat} {L S As rest : List PV} {h : Hp} (hc : MonoC cal) {idx kd : Nat} {M' : MRec} (hd : decode (mC M) pc = .ok (.invokespecial idx, 3)) (ht : calT (mO M) idx = some (kd, M')) (hk : kd = 4 ∨ kd = 5) (h1 : (S.take (mA M').length).reverse = As) (h2 : S.drop (mA M').length = rest) (hA : exArgs E M M' kd 4 As rest h) (hr : rtg (mT M') = 9) (hx : cal M' As h (fun _ h' => WpC E d M cal Q (pc + 3) L rest h')) : WpC E d M cal Q pc L S h := z_gen hc hd rfl (by
  show exCall E d M cal 4 idx pc L S h (WpC E d M cal Q)
  unfold exCall
  rw [ht]
  dsimp only
  rw [if_neg (by omega), if_neg (by omega), if_neg (by omega), if_neg (by omega), h1, h2, hr]
  exact ⟨hA, hx⟩)
theorem y_sub {E : PvEnv} {d : Nat} {M : MRec} {cal : PCal} {Q : Int → Hp → Prop} {pc : Nat} {L : List PV} {h g : Hp} {o c m b : Int} {F : Int → Int} {R : Hp} {Lx : Nat} (hc : MonoC cal) (K : Mk h g o c m b F R) {idx ci idx2 kd p2 idx3 co f fin pc' : Nat} {n m2 b2 b' : Int} {M' : MRec} {R2 : Hp} (Ff : (Int → Int) → Int → Int) (args : List PV) (d0 : decode (mC M) pc = .ok (.aload_n 0, 1)) (d1 : decode (mC M) (pc + 1) = .ok (.new idx, 3)) (d2 : decode (mC M) (pc + 4) = .ok (.dup, 1)) (e1 : ∀ (g : Hp), WpC E d M cal Q p2 ((2, o) :: L) (args.reverse ++ [(2, m), (2, m), (2, o)]) g → WpC E d M cal Q (pc + 5) ((2, o) :: L) [(2, m), (2, m), (2, o)] g) (d3 : decode (mC M) p2 = .ok (.invokespecial idx2, 3)) (d4 : decode (mC M) (p2 + 3) = .ok (.putfield idx3, 3)) (hp : p2 + 3 + 3 = pc') (hnew' : newT (mO M) idx = some ci) (hs : shK m = ci) (h10 : ci ≤ 10) (hn : shN m = n) (hE : HM E Lx) (hM : mMc M ≠ 0) (ht : calT (mO M) idx2 = some (kd, M')) (hk : kd = 4 ∨ kd = 5) (h1 : ((args.reverse ++ [(2, m), (2, m), (2, o)]).take (mA M').length).reverse = (2, m) :: args) (h2 : (args.reverse ++ [(2, m), (2, m), (2, o)]).drop (mA M').length = [(2, m), (2, o)]) (hA : ((2, m) :: args).map (fun v => v.1) = mA M') (hroom : mRl M' + mX M' + 19 ≤ mRl M ∧ awd (mA M') ≤ mX M') (hz : mMc M' = 0 → mMs M' = 0) (hl1 : m + 1 + mMc M' ≤ E (-3) 1) (hl2 : h (-3) 1 + b + n + mMs M' ≤ E (-3) 2) (hO : ci = mO M') (hr : rtg (mT M') = 9) (hf : fldT (mO M) idx3 = some (0, co, f, 2, fin)) (ho : shK o = co) (hfin : fin = 0 ∨ (fin = 1 ∧ (mY M).name = "<init>" ∧ co = mO M)) (hcal : ∀ Q' : Int → Hp → Prop, hnew g (nwo ci) n (-3) 0 = m + 1 → (∀ g2 : Hp, Mk (hnew g (nwo ci) n) g2 m (m + 1) m2 b2 (Ff (hnew g (nwo ci) n m)) R2 → Q' 0 g2) → cal M' ((2, m) :: args) (hnew g (nwo ci) n) Q') (hb : b + n + b2 = b') (hx : ∀ g' : Hp, Mk h g' o c m2 b' (up F f m) (rj R m (Ff (nwo ci)) R2) → WpC E d M cal Q pc' ((2, o) :: L) [] g') : WpC E d M cal Q pc ((2, o) :: L) [] g := by
  have K0 := K
  obtain ⟨⟨k1, k2, k3⟩, ⟨k4, k5, k6⟩, k7, k8, k9⟩ := K
  refine z_gen hc d0 rfl ?_
  show WpC E d M cal Q (pc + 1) ((2, o) :: L) [(2, o)] g
  refine z_gen hc d1 rfl ?_
  show exNew E M idx (pc + 1) ((2, o) :: L) [(2, o)] g (WpC E d M cal Q)
  unfold exNew
  rw [hnew']
  dsimp only
  rw [k2, hn]
  refine ⟨⟨hs, h10, hE.2, hM, by omega, by omega⟩, ?_⟩
  refine z_gen hc d2 rfl ?_
  show WpC E d M cal Q (pc + 5) ((2, o) :: L) [(2, m), (2, m), (2, o)] (hnew g (nwo ci) n)
  refine e1 _ ?_
  have c0 : hnew g (nwo ci) n (-3) 0 = m + 1 := by rw [hw_0, k2]
  refine z_call hc d3 ht hk h1 h2 ⟨hk, hA, Nat.le_of_ble_eq_true rfl, hroom, hz, fun _ => ⟨hM, by omega, by rw [hw_1]; omega⟩, Or.inr (by rw [hs, hO])⟩ hr ?_
  refine hcal _ c0 (fun g2 K2 => ?_)
  rw [hw_s k2 (by omega)] at K2
  have K' := K0.sub K2 f
  rw [hb] at K'
  have hx' := hx _ K'
  subst hp
  exact z_putR hc d4 hf ho (hE.1.2 o _ k4) hfin (by omega) hx'
theorem j_X2 {E : PvEnv} {Lx dd : Nat} {h : Hp} {Q : Int → Hp → Prop} (hE : HM E Lx) (hn : h (-3) 0 = 49) (hq : ∀ g : Hp, Mk h g 48 49 49 0 (up (h 48) 1 1) (fun _ _ => 0) → Q 0 g) : wpM E (dd + 2) mX2_init [(2, 48)] h Q := i_X2 hE.1.2 (hq _ ((Mk.rf hn (by decide) (by decide) _).set 1 1))
theorem dX9_init_0 : decode cX9_init 0 = .ok (.aload_n 0, 1) := by decide +kernel
theorem dX9_init_1 : decode cX9_init 1 = .ok (.invokespecial 1, 3) := by decide +kernel
theorem dX9_init_4 : decode cX9_init 4 = .ok (.aload_n 0, 1) := by decide +kernel
theorem dX9_init_5 : decode cX9_init 5 = .ok (.new 7, 3) := by decide +kernel
theorem dX9_init_8 : decode cX9_init 8 = .ok (.dup, 1) := by decide +kernel
theorem dX9_init_9 : decode cX9_init 9 = .ok (.bipush 6, 2) := by decide +kernel
theorem dX9_init_11 : decode cX9_init 11 = .ok (.invokespecial 11, 3) := by decide +kernel
theorem dX9_init_14 : decode cX9_init 14 = .ok (.putfield 14, 3) := by decide +kernel
theorem dX9_init_17 : decode cX9_init 17 = .ok (.aload_n 0, 1) := by decide +kernel
theorem dX9_init_18 : decode cX9_init 18 = .ok (.new 7, 3) := by decide +kernel
theorem dX9_init_21 : decode cX9_init 21 = .ok (.dup, 1) := by decide +kernel
theorem dX9_init_22 : decode cX9_init 22 = .ok (.iconst 4, 1) := by decide +kernel
theorem dX9_init_23 : decode cX9_init 23 = .ok (.invokespecial 11, 3) := by decide +kernel
theorem dX9_init_26 : decode cX9_init 26 = .ok (.putfield 18, 3) := by decide +kernel
theorem dX9_init_29 : decode cX9_init 29 = .ok (.aload_n 0, 1) := by decide +kernel
theorem dX9_init_30 : decode cX9_init 30 = .ok (.new 21, 3) := by decide +kernel
theorem dX9_init_33 : decode cX9_init 33 = .ok (.dup, 1) := by decide +kernel
theorem dX9_init_34 : decode cX9_init 34 = .ok (.invokespecial 23, 3) := by decide +kernel
theorem dX9_init_37 : decode cX9_init 37 = .ok (.putfield 24, 3) := by decide +kernel
theorem dX9_init_40 : decode cX9_init 40 = .ok (.aload_n 0, 1) := by decide +kernel
theorem dX9_init_41 : decode cX9_init 41 = .ok (.new 21, 3) := by decide +kernel
theorem dX9_init_44 : decode cX9_init 44 = .ok (.dup, 1) := by decide +kernel
theorem dX9_init_45 : decode cX9_init 45 = .ok (.invokespecial 23, 3) := by decide +kernel
theorem dX9_init_48 : decode cX9_init 48 = .ok (.putfield 28, 3) := by decide +kernel
theorem dX9_init_51 : decode cX9_init 51 = .ok (.aload_n 0, 1) := by decide +kernel
theorem dX9_init_52 : decode cX9_init 52 = .ok (.new 31, 3) := by decide +kernel
theorem dX9_init_55 : decode cX9_init 55 = .ok (.dup, 1) := by decide +kernel
theorem dX9_init_56 : decode cX9_init 56 = .ok (.invokespecial 33, 3) := by decide +kernel
theorem dX9_init_59 : decode cX9_init 59 = .ok (.putfield 34, 3) := by decide +kernel
theorem dX9_init_62 : decode cX9_init 62 = .ok (.aload_n 0, 1) := by decide +kernel
theorem dX9_init_63 : decode cX9_init 63 = .ok (.new 38, 3) := by decide +kernel
theorem dX9_init_66 : decode cX9_init 66 = .ok (.dup, 1) := by decide +kernel
theorem dX9_init_67 : decode cX9_init 67 = .ok (.invokespecial 40, 3) := by decide +kernel
theorem dX9_init_70 : decode cX9_init 70 = .ok (.putfield 41, 3) := by decide +kernel
theorem dX9_init_73 : decode cX9_init 73 = .ok (.aload_n 0, 1) := by decide +kernel
theorem dX9_init_74 : decode cX9_init 74 = .ok (.new 45, 3) := by decide +kernel
theorem dX9_init_77 : decode cX9_init 77 = .ok (.dup, 1) := by decide +kernel
theorem dX9_init_78 : decode cX9_init 78 = .ok (.invokespecial 47, 3) := by decide +kernel
theorem dX9_init_81 : decode cX9_init 81 = .ok (.putfield 48, 3) := by decide +kernel
theorem dX9_init_84 : decode cX9_init 84 = .ok (.aload_n 0, 1) := by decide +kernel
theorem dX9_init_85 : decode cX9_init 85 = .ok (.new 52, 3) := by decide +kernel
theorem dX9_init_88 : decode cX9_init 88 = .ok (.dup, 1) := by decide +kernel
theorem dX9_init_89 : decode cX9_init 89 = .ok (.invokespecial 54, 3) := by decide +kernel
theorem dX9_init_92 : decode cX9_init 92 = .ok (.putfield 55, 3) := by decide +kernel
theorem dX9_init_95 : decode cX9_init 95 = .ok (.aload_n 0, 1) := by decide +kernel
theorem dX9_init_96 : decode cX9_init 96 = .ok (.new 59, 3) := by decide +kernel
theorem dX9_init_99 : decode cX9_init 99 = .ok (.dup, 1) := by decide +kernel
theorem dX9_init_100 : decode cX9_init 100 = .ok (.invokespecial 61, 3) := by decide +kernel
theorem dX9_init_103 : decode cX9_init 103 = .ok (.putfield 62, 3) := by decide +kernel
theorem dX9_init_106 : decode cX9_init 106 = .ok (.aload_n 0, 1) := by decide +kernel
theorem dX9_init_107 : decode cX9_init 107 = .ok (.new 59, 3) := by decide +kernel
theorem dX9_init_110 : decode cX9_init 110 = .ok (.dup, 1) := by decide +kernel
theorem dX9_init_111 : decode cX9_init 111 = .ok (.invokespecial 61, 3) := by decide +kernel
theorem dX9_init_114 : decode cX9_init 114 = .ok (.putfield 66, 3) := by decide +kernel
theorem dX9_init_117 : decode cX9_init 117 = .ok (.aload_n 0, 1) := by decide +kernel
theorem dX9_init_118 : decode cX9_init 118 = .ok (.new 69, 3) := by decide +kernel
theorem dX9_init_121 : decode cX9_init 121 = .ok (.dup, 1) := by decide +kernel
theorem dX9_init_122 : decode cX9_init 122 = .ok (.invokespecial 71, 3) := by decide +kernel
theorem dX9_init_125 : decode cX9_init 125 = .ok (.putfield 72, 3) := by decide +kernel
theorem dX9_init_128 : decode cX9_init 128 = .ok (.aload_n 0, 1) := by decide +kernel
theorem dX9_init_129 : decode cX9_init 129 = .ok (.new 76, 3) := by decide +kernel
theorem dX9_init_132 : decode cX9_init 132 = .ok (.dup, 1) := by decide +kernel
theorem dX9_init_133 : decode cX9_init 133 = .ok (.invokespecial 78, 3) := by decide +kernel
theorem dX9_init_136 : decode cX9_init 136 = .ok (.putfield 79, 3) := by decide +kernel
theorem dX9_init_139 : decode cX9_init 139 = .ok (.aload_n 0, 1) := by decide +kernel
theorem dX9_init_140 : decode cX9_init 140 = .ok (.bipush 6, 2) := by decide +kernel
theorem dX9_init_142 : decode cX9_init 142 = .ok (.newarray .int, 2) := by decide +kernel
theorem dX9_init_144 : decode cX9_init 144 = .ok (.putfield 83, 3) := by decide +kernel
theorem dX9_init_147 : decode cX9_init 147 = .ok (.return_, 1) := by decide +kernel
set_option maxHeartbeats 4000000 in
set_option maxRecDepth 10000 in
theorem j_X9 {E : PvEnv} {Lx dd : Nat} {h : Hp} {Q : Int → Hp → Prop} (hE : HM E Lx) (hn : h (-3) 0 = 1) (hq : ∀ g : Hp, Mk h g 0 1 50 9839 (up (up (up (up (up (up (up (up (up (up (up (up (up (h 0) 0 1) 1 4) 2 7) 3 9) 4 11) 5 20) 6 26) 7 30) 8 37) 9 41) 10 45) 11 48) 12 49) (rj (rj (rj (rj (rj (rj (rj (rj (rj (rj (rj (rj (fun _ _ => 0) 1 ((fun x => (up (up x 0 2) 1 3)) (nwo 7)) (hrow (fun _ _ => 0) 2 (flr (fun _ => 0) 6 (-1)))) 4 ((fun x => (up (up x 0 5) 1 6)) (nwo 7)) (hrow (fun _ _ => 0) 5 (flr (fun _ => 0) 4 (-1)))) 7 ((fun x => (up (up (up (up (up (up x 5 8) 0 0) 1 1) 2 0) 3 (-1)) 4 (-1))) (nwo 4)) (fun _ _ => 0)) 9 ((fun x => (up (up (up (up (up (up x 5 10) 0 0) 1 1) 2 0) 3 (-1)) 4 (-1))) (nwo 4)) (fun _ _ => 0)) 11 ((fun x => (up (up (up (up (up (up (up (up (up x 0 12) 1 13) 2 14) 3 15) 4 16) 5 17) 6 18) 7 19) 9 1)) (nwo 8)) (hrow (hrow (hrow (hrow (hrow (fun _ _ => 0) 12 (lK 336)) 16 (lX 336)) 17 (lY 336)) 18 (lW 336)) 19 (ow (fun _ => 0) 16))) 20 ((fun x => (up (up (up (up (up x 0 21) 1 22) 2 23) 3 24) 4 25)) (nwo 5)) (fun _ _ => 0)) 26 ((fun x => (up (up (up (up x 0 27) 1 28) 2 29) 5 1)) (nwo 1)) (hrow (fun _ _ => 0) 27 (flr (fun _ => 0) 336 (-1)))) 30 ((fun x => (up (up (up (up (up (up x 0 31) 1 32) 2 33) 3 34) 4 35) 5 36)) (nwo 0)) (hrow (fun _ _ => 0) 33 (flr (fun _ => 0) 6 (-9)))) 37 ((fun x => (up (up (up x 0 38) 1 39) 2 40)) (nwo 3)) (fun _ _ => 0)) 41 ((fun x => (up (up (up x 0 42) 1 43) 2 44)) (nwo 3)) (fun _ _ => 0)) 45 ((fun x => (up (up (up x 0 46) 1 47) 2 1)) (nwo 6)) (fun _ _ => 0)) 48 ((fun x => (up x 1 1)) (nwo 2)) (fun _ _ => 0)) → Q 0 g) : wpM E (dd + 5) mX9_init [(2, 0)] h Q := by
  have hc := wpM_mono E (dd + 4)
  obtain ⟨s, s3, s4⟩ := sl_h (M := mX9_init) (h := h) (by decide) hE
  have m1 : mMc mX9_init = 49 := rfl
  have m2 : mMs mX9_init = 9839 := rfl
  show WpC (setLim E mX9_init h) (dd + 4) mX9_init (wpM E (dd + 4)) (postM mX9_init h Q) 0 [(2, 0)] [] h
  rw [m1, hn] at s3
  rw [m2] at s4
  generalize setLim E mX9_init h = F at *
  refine y_obj hc dX9_init_0 dX9_init_1 (M' := mX9_init) rfl (by decide) (by omega) (by decide) ?_
  have K := Mk.rf hn (by decide : (0 : Int) ≤ 0) (by decide) (fun _ _ => 0)
  refine y_sub (Lx := Lx) hc K (ci := 7) (kd := 4) (n := 2) (m2 := 4) (b2 := 246) (b' := 248) (M' := mX7_init) (R2 := (hrow (fun _ _ => 0) 2 (flr (fun _ => 0) 6 (-1)))) (fun x => (up (up x 0 2) 1 3)) [(0, 6)] dX9_init_4 dX9_init_5 dX9_init_8 (p2 := 11) (fun g q => z_gen hc dX9_init_9 rfl q) dX9_init_11 dX9_init_14 (pc' := 17) rfl (by decide +kernel) sk_1 (by decide) sn_1 s (by decide) rfl (by decide) rfl rfl rfl ⟨by decide, by decide⟩ (by decide) (by rw [show (mMc mX7_init : Int) = 2 from rfl]; omega) (by rw [show (mMs mX7_init : Int) = 246 from rfl]; omega) rfl rfl fl_9_14 sk_0 (Or.inr ⟨rfl, rfl, rfl⟩) (fun Q' e q => j_X7_1 hE (by omega) e (fun g2 K2 => q _ (K2.book _))) rfl ?_
  clear K
  intro g1 K
  refine y_sub (Lx := Lx) hc K (ci := 7) (kd := 4) (n := 2) (m2 := 7) (b2 := 246) (b' := 496) (M' := mX7_init) (R2 := (hrow (fun _ _ => 0) 5 (flr (fun _ => 0) 4 (-1)))) (fun x => (up (up x 0 5) 1 6)) [(0, 4)] dX9_init_17 dX9_init_18 dX9_init_21 (p2 := 23) (fun g q => z_gen hc dX9_init_22 rfl q) dX9_init_23 dX9_init_26 (pc' := 29) rfl (by decide +kernel) sk_4 (by decide) sn_4 s (by decide) rfl (by decide) rfl rfl rfl ⟨by decide, by decide⟩ (by decide) (by rw [show (mMc mX7_init : Int) = 2 from rfl]; omega) (by rw [show (mMs mX7_init : Int) = 246 from rfl]; omega) rfl rfl fl_9_18 sk_0 (Or.inr ⟨rfl, rfl, rfl⟩) (fun Q' e q => j_X7_4 hE (by omega) e (fun g2 K2 => q _ (K2.book _))) rfl ?_
  clear K
  intro g2 K
  refine y_sub (Lx := Lx) hc K (ci := 4) (kd := 4) (n := 9) (m2 := 9) (b2 := 40) (b' := 545) (M' := mX4_init) (R2 := (fun _ _ => 0)) (fun x => (up (up (up (up (up (up x 5 8) 0 0) 1 1) 2 0) 3 (-1)) 4 (-1))) [] dX9_init_29 dX9_init_30 dX9_init_33 (p2 := 34) (fun g q => q) dX9_init_34 dX9_init_37 (pc' := 40) rfl (by decide +kernel) sk_7 (by decide) sn_7 s (by decide) rfl (by decide) rfl rfl rfl ⟨by decide, by decide⟩ (by decide) (by rw [show (mMc mX4_init : Int) = 1 from rfl]; omega) (by rw [show (mMs mX4_init : Int) = 40 from rfl]; omega) rfl rfl fl_9_24 sk_0 (Or.inr ⟨rfl, rfl, rfl⟩) (fun Q' e q => j_X4_7 hE e q) rfl ?_
  clear K
  intro g3 K
  refine y_sub (Lx := Lx) hc K (ci := 4) (kd := 4) (n := 9) (m2 := 11) (b2 := 40) (b' := 594) (M' := mX4_init) (R2 := (fun _ _ => 0)) (fun x => (up (up (up (up (up (up x 5 10) 0 0) 1 1) 2 0) 3 (-1)) 4 (-1))) [] dX9_init_40 dX9_init_41 dX9_init_44 (p2 := 45) (fun g q => q) dX9_init_45 dX9_init_48 (pc' := 51) rfl (by decide +kernel) sk_9 (by decide) sn_9 s (by decide) rfl (by decide) rfl rfl rfl ⟨by decide, by decide⟩ (by decide) (by rw [show (mMc mX4_init : Int) = 1 from rfl]; omega) (by rw [show (mMs mX4_init : Int) = 40 from rfl]; omega) rfl rfl fl_9_28 sk_0 (Or.inr ⟨rfl, rfl, rfl⟩) (fun Q' e q => j_X4_9 hE e q) rfl ?_
  clear K
  intro g4 K
  refine y_sub (Lx := Lx) hc K (ci := 8) (kd := 4) (n := 10) (m2 := 20) (b2 := 2608) (b' := 3212) (M' := mX8_init) (R2 := (hrow (hrow (hrow (hrow (hrow (fun _ _ => 0) 12 (lK 336)) 16 (lX 336)) 17 (lY 336)) 18 (lW 336)) 19 (ow (fun _ => 0) 16))) (fun x => (up (up (up (up (up (up (up (up (up x 0 12) 1 13) 2 14) 3 15) 4 16) 5 17) 6 18) 7 19) 9 1)) [] dX9_init_51 dX9_init_52 dX9_init_55 (p2 := 56) (fun g q => q) dX9_init_56 dX9_init_59 (pc' := 62) rfl (by decide +kernel) sk_11 (by decide) sn_11 s (by decide) rfl (by decide) rfl rfl rfl ⟨by decide, by decide⟩ (by decide) (by rw [show (mMc mX8_init : Int) = 8 from rfl]; omega) (by rw [show (mMs mX8_init : Int) = 2608 from rfl]; omega) rfl rfl fl_9_34 sk_0 (Or.inr ⟨rfl, rfl, rfl⟩) (fun Q' e q => j_X8 hE e q) rfl ?_
  clear K
  intro g5 K
  refine y_sub (Lx := Lx) hc K (ci := 5) (kd := 4) (n := 7) (m2 := 26) (b2 := 2849) (b' := 6068) (M' := mX5_init) (R2 := (fun _ _ => 0)) (fun x => (up (up (up (up (up x 0 21) 1 22) 2 23) 3 24) 4 25)) [] dX9_init_62 dX9_init_63 dX9_init_66 (p2 := 67) (fun g q => q) dX9_init_67 dX9_init_70 (pc' := 73) rfl (by decide +kernel) sk_20 (by decide) sn_20 s (by decide) rfl (by decide) rfl rfl rfl ⟨by decide, by decide⟩ (by decide) (by rw [show (mMc mX5_init : Int) = 5 from rfl]; omega) (by rw [show (mMs mX5_init : Int) = 2849 from rfl]; omega) rfl rfl fl_9_41 sk_0 (Or.inr ⟨rfl, rfl, rfl⟩) (fun Q' e q => j_X5 hE (by omega) e q) rfl ?_
  clear K
  intro g6 K
  refine y_sub (Lx := Lx) hc K (ci := 1) (kd := 4) (n := 8) (m2 := 30) (b2 := 1008) (b' := 7084) (M' := mX1_init) (R2 := (hrow (fun _ _ => 0) 27 (flr (fun _ => 0) 336 (-1)))) (fun x => (up (up (up (up x 0 27) 1 28) 2 29) 5 1)) [] dX9_init_73 dX9_init_74 dX9_init_77 (p2 := 78) (fun g q => q) dX9_init_78 dX9_init_81 (pc' := 84) rfl (by decide +kernel) sk_26 (by decide) sn_26 s (by decide) rfl (by decide) rfl rfl rfl ⟨by decide, by decide⟩ (by decide) (by rw [show (mMc mX1_init : Int) = 3 from rfl]; omega) (by rw [show (mMs mX1_init : Int) = 1008 from rfl]; omega) rfl rfl fl_9_48 sk_0 (Or.inr ⟨rfl, rfl, rfl⟩) (fun Q' e q => j_X1 hE (by omega) e q) rfl ?_
  clear K
  intro g7 K
  refine y_sub (Lx := Lx) hc K (ci := 0) (kd := 4) (n := 6) (m2 := 37) (b2 := 36) (b' := 7126) (M' := mX0_init) (R2 := (hrow (fun _ _ => 0) 33 (flr (fun _ => 0) 6 (-9)))) (fun x => (up (up (up (up (up (up x 0 31) 1 32) 2 33) 3 34) 4 35) 5 36)) [] dX9_init_84 dX9_init_85 dX9_init_88 (p2 := 89) (fun g q => q) dX9_init_89 dX9_init_92 (pc' := 95) rfl (by decide +kernel) sk_30 (by decide) sn_30 s (by decide) rfl (by decide) rfl rfl rfl ⟨by decide, by decide⟩ (by decide) (by rw [show (mMc mX0_init : Int) = 6 from rfl]; omega) (by rw [show (mMs mX0_init : Int) = 36 from rfl]; omega) rfl rfl fl_9_55 sk_0 (Or.inr ⟨rfl, rfl, rfl⟩) (fun Q' e q => j_X0 hE (by omega) e q) rfl ?_
  clear K
  intro g8 K
  refine y_sub (Lx := Lx) hc K (ci := 3) (kd := 4) (n := 7) (m2 := 41) (b2 := 1008) (b' := 8141) (M' := mX3_init) (R2 := (fun _ _ => 0)) (fun x => (up (up (up x 0 38) 1 39) 2 40)) [] dX9_init_95 dX9_init_96 dX9_init_99 (p2 := 100) (fun g q => q) dX9_init_100 dX9_init_103 (pc' := 106) rfl (by decide +kernel) sk_37 (by decide) sn_37 s (by decide) rfl (by decide) rfl rfl rfl ⟨by decide, by decide⟩ (by decide) (by rw [show (mMc mX3_init : Int) = 3 from rfl]; omega) (by rw [show (mMs mX3_init : Int) = 1008 from rfl]; omega) rfl rfl fl_9_62 sk_0 (Or.inr ⟨rfl, rfl, rfl⟩) (fun Q' e q => j_X3_37 hE (by omega) e q) rfl ?_
  clear K
  intro g9 K
  refine y_sub (Lx := Lx) hc K (ci := 3) (kd := 4) (n := 7) (m2 := 45) (b2 := 1008) (b' := 9156) (M' := mX3_init) (R2 := (fun _ _ => 0)) (fun x => (up (up (up x 0 42) 1 43) 2 44)) [] dX9_init_106 dX9_init_107 dX9_init_110 (p2 := 111) (fun g q => q) dX9_init_111 dX9_init_114 (pc' := 117) rfl (by decide +kernel) sk_41 (by decide) sn_41 s (by decide) rfl (by decide) rfl rfl rfl ⟨by decide, by decide⟩ (by decide) (by rw [show (mMc mX3_init : Int) = 3 from rfl]; omega) (by rw [show (mMs mX3_init : Int) = 1008 from rfl]; omega) rfl rfl fl_9_66 sk_0 (Or.inr ⟨rfl, rfl, rfl⟩) (fun Q' e q => j_X3_41 hE (by omega) e q) rfl ?_
  clear K
  intro g10 K
  refine y_sub (Lx := Lx) hc K (ci := 6) (kd := 4) (n := 3) (m2 := 48) (b2 := 672) (b' := 9831) (M' := mX6_init) (R2 := (fun _ _ => 0)) (fun x => (up (up (up x 0 46) 1 47) 2 1)) [] dX9_init_117 dX9_init_118 dX9_init_121 (p2 := 122) (fun g q => q) dX9_init_122 dX9_init_125 (pc' := 128) rfl (by decide +kernel) sk_45 (by decide) sn_45 s (by decide) rfl (by decide) rfl rfl rfl ⟨by decide, by decide⟩ (by decide) (by rw [show (mMc mX6_init : Int) = 2 from rfl]; omega) (by rw [show (mMs mX6_init : Int) = 672 from rfl]; omega) rfl rfl fl_9_72 sk_0 (Or.inr ⟨rfl, rfl, rfl⟩) (fun Q' e q => j_X6 hE (by omega) e q) rfl ?_
  clear K
  intro g11 K
  refine y_sub (Lx := Lx) hc K (ci := 2) (kd := 4) (n := 2) (m2 := 49) (b2 := 0) (b' := 9833) (M' := mX2_init) (R2 := (fun _ _ => 0)) (fun x => (up x 1 1)) [] dX9_init_128 dX9_init_129 dX9_init_132 (p2 := 133) (fun g q => q) dX9_init_133 dX9_init_136 (pc' := 139) rfl (by decide +kernel) sk_48 (by decide) sn_48 s (by decide) rfl (by decide) rfl rfl rfl ⟨by decide, by decide⟩ (by decide) (by rw [show (mMc mX2_init : Int) = 0 from rfl]; omega) (by rw [show (mMs mX2_init : Int) = 0 from rfl]; omega) rfl rfl fl_9_79 sk_0 (Or.inr ⟨rfl, rfl, rfl⟩) (fun Q' e q => j_X2 hE e q) rfl ?_
  clear K
  intro g12 K
  refine y_row (Lx := Lx) hc K (ty := .int) (n := 6) dX9_init_139 dX9_init_140 rfl (fun _ _ _ q => q) dX9_init_142 dX9_init_144 (pc' := 147) rfl sk_49 (by decide) sn_49 (by decide) s (by decide) (by omega) (by omega) fl_9_83 sk_0 (Or.inr ⟨rfl, rfl, rfl⟩) rfl (m' := 50) rfl (b' := 9839) rfl ?_
  clear K
  intro g13 K
  refine z_gen hc dX9_init_147 rfl ⟨rfl, ?_⟩
  exact y_post (by decide) K (by rw [m1]; rfl) (by rw [m2]; rfl) (hq _ K)
