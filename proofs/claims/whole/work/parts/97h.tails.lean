/-! constructors: their loops, in still mode, pieces by program -/
theorem cl_8_36 : calT 8 36 = some (2, mX8_layOut) := rfl
theorem cl_8_40 : calT 8 40 = some (2, mX8_paintAll) := rfl
theorem dX7_init_0 : decode cX7_init 0 = .ok (.aload_n 0, 1) := by decide +kernel
theorem dX7_init_1 : decode cX7_init 1 = .ok (.invokespecial 3, 3) := by decide +kernel
theorem dX7_init_4 : decode cX7_init 4 = .ok (.aload_n 0, 1) := by decide +kernel
theorem dX7_init_5 : decode cX7_init 5 = .ok (.iload_n 1, 1) := by decide +kernel
theorem dX7_init_6 : decode cX7_init 6 = .ok (.newarray .int, 2) := by decide +kernel
theorem dX7_init_8 : decode cX7_init 8 = .ok (.putfield 9, 3) := by decide +kernel
theorem dX7_init_11 : decode cX7_init 11 = .ok (.aload_n 0, 1) := by decide +kernel
theorem dX7_init_12 : decode cX7_init 12 = .ok (.iload_n 1, 1) := by decide +kernel
theorem dX7_init_13 : decode cX7_init 13 = .ok (.bipush 40, 2) := by decide +kernel
theorem dX7_init_15 : decode cX7_init 15 = .ok (.imul, 1) := by decide +kernel
theorem dX7_init_16 : decode cX7_init 16 = .ok (.newarray .int, 2) := by decide +kernel
theorem dX7_init_18 : decode cX7_init 18 = .ok (.putfield 15, 3) := by decide +kernel
theorem dX7_init_21 : decode cX7_init 21 = .ok (.iconst 0, 1) := by decide +kernel
theorem dX7_init_22 : decode cX7_init 22 = .ok (.istore_n 2, 1) := by decide +kernel
theorem dX7_init_23 : decode cX7_init 23 = .ok (.iload_n 2, 1) := by decide +kernel
theorem dX7_init_24 : decode cX7_init 24 = .ok (.iload_n 1, 1) := by decide +kernel
theorem dX7_init_25 : decode cX7_init 25 = .ok (.if_icmp .ge 16, 3) := by decide +kernel
theorem dX7_init_28 : decode cX7_init 28 = .ok (.aload_n 0, 1) := by decide +kernel
theorem dX7_init_29 : decode cX7_init 29 = .ok (.getfield 9, 3) := by decide +kernel
theorem dX7_init_32 : decode cX7_init 32 = .ok (.iload_n 2, 1) := by decide +kernel
theorem dX7_init_33 : decode cX7_init 33 = .ok (.iconst (-1), 1) := by decide +kernel
theorem dX7_init_34 : decode cX7_init 34 = .ok (.iastore, 1) := by decide +kernel
theorem dX7_init_35 : decode cX7_init 35 = .ok (.iinc 2 1, 3) := by decide +kernel
theorem dX7_init_38 : decode cX7_init 38 = .ok (.goto (-15), 3) := by decide +kernel
theorem dX7_init_41 : decode cX7_init 41 = .ok (.return_, 1) := by decide +kernel
theorem s_X7_init_e1_21 {E : PvEnv} (hE : ∀ k, E 1 k = refT 1 k) {d : Nat} {Q : Int → Hp → Prop} {h : Hp} {a1 : Int} : Ws E d mX7_init Q 21 [(2, 1), (0, a1), (9, 0)] [] h = Ws E d mX7_init Q 22 [(2, 1), (0, a1), (9, 0)] [(0, 0)] h := x_iconst dX7_init_21 (by decide)
theorem s_X7_init_e1_22 {E : PvEnv} (hE : ∀ k, E 1 k = refT 1 k) {d : Nat} {Q : Int → Hp → Prop} {h : Hp} {a1 b0 : Int} : Ws E d mX7_init Q 22 [(2, 1), (0, a1), (9, 0)] [(0, b0)] h = Ws E d mX7_init Q 23 [(2, 1), (0, a1), (0, b0)] [] h := x_istore_n dX7_init_22 rfl
theorem s_X7_init_e1_23 {E : PvEnv} (hE : ∀ k, E 1 k = refT 1 k) {d : Nat} {Q : Int → Hp → Prop} {h : Hp} {a1 a2 : Int} : Ws E d mX7_init Q 23 [(2, 1), (0, a1), (0, a2)] [] h = Ws E d mX7_init Q 24 [(2, 1), (0, a1), (0, a2)] [(0, a2)] h := x_iload_n dX7_init_23 rfl
theorem s_X7_init_e1_24 {E : PvEnv} (hE : ∀ k, E 1 k = refT 1 k) {d : Nat} {Q : Int → Hp → Prop} {h : Hp} {a1 a2 b0 : Int} : Ws E d mX7_init Q 24 [(2, 1), (0, a1), (0, a2)] [(0, b0)] h = Ws E d mX7_init Q 25 [(2, 1), (0, a1), (0, a2)] [(0, a1), (0, b0)] h := x_iload_n dX7_init_24 rfl
theorem s_X7_init_e1_25 {E : PvEnv} (hE : ∀ k, E 1 k = refT 1 k) {d : Nat} {Q : Int → Hp → Prop} {h : Hp} {a1 a2 b0 b1 : Int} : Ws E d mX7_init Q 25 [(2, 1), (0, a1), (0, a2)] [(0, b0), (0, b1)] h = (if b1 < b0 then Ws E d mX7_init Q 28 [(2, 1), (0, a1), (0, a2)] [] h else Ws E d mX7_init Q 41 [(2, 1), (0, a1), (0, a2)] [] h) := x_icmp_ge dX7_init_25 (by decide) rfl
theorem s_X7_init_e1_28 {E : PvEnv} (hE : ∀ k, E 1 k = refT 1 k) {d : Nat} {Q : Int → Hp → Prop} {h : Hp} {a1 a2 : Int} : Ws E d mX7_init Q 28 [(2, 1), (0, a1), (0, a2)] [] h = Ws E d mX7_init Q 29 [(2, 1), (0, a1), (0, a2)] [(2, 1)] h := x_aload_n dX7_init_28 rfl
theorem s_X7_init_e1_29 {E : PvEnv} (hE : ∀ k, E 1 k = refT 1 k) {d : Nat} {Q : Int → Hp → Prop} {h : Hp} {a1 a2 : Int} : Ws E d mX7_init Q 29 [(2, 1), (0, a1), (0, a2)] [(2, 1)] h = Ws E d mX7_init Q 32 [(2, 1), (0, a1), (0, a2)] [(2, 2)] h := x_getR dX7_init_29 fl_7_9 sk_1 ((hE 0).trans rt_1_0) (by decide)
theorem s_X7_init_e1_32 {E : PvEnv} (hE : ∀ k, E 1 k = refT 1 k) {d : Nat} {Q : Int → Hp → Prop} {h : Hp} {a1 a2 : Int} : Ws E d mX7_init Q 32 [(2, 1), (0, a1), (0, a2)] [(2, 2)] h = Ws E d mX7_init Q 33 [(2, 1), (0, a1), (0, a2)] [(0, a2), (2, 2)] h := x_iload_n dX7_init_32 rfl
theorem s_X7_init_e1_33 {E : PvEnv} (hE : ∀ k, E 1 k = refT 1 k) {d : Nat} {Q : Int → Hp → Prop} {h : Hp} {a1 a2 b0 : Int} : Ws E d mX7_init Q 33 [(2, 1), (0, a1), (0, a2)] [(0, b0), (2, 2)] h = Ws E d mX7_init Q 34 [(2, 1), (0, a1), (0, a2)] [(0, (-1)), (0, b0), (2, 2)] h := x_iconst dX7_init_33 (by decide)
theorem s_X7_init_e1_34 {E : PvEnv} (hE : ∀ k, E 1 k = refT 1 k) {d : Nat} {Q : Int → Hp → Prop} {h : Hp} {a1 a2 b0 b1 : Int} : Ws E d mX7_init Q 34 [(2, 1), (0, a1), (0, a2)] [(0, b0), (0, b1), (2, 2)] h = ((0 ≤ b1 ∧ b1 < 6) ∧ Ws E d mX7_init Q 35 [(2, 1), (0, a1), (0, a2)] [] (hst h 2 b1 b0)) := x_iast dX7_init_34 sk_2 (by decide) (al_2 E)
theorem s_X7_init_e1_35 {E : PvEnv} (hE : ∀ k, E 1 k = refT 1 k) {d : Nat} {Q : Int → Hp → Prop} {h : Hp} {a1 a2 : Int} : Ws E d mX7_init Q 35 [(2, 1), (0, a1), (0, a2)] [] h = Ws E d mX7_init Q 38 [(2, 1), (0, a1), (0, w32 (a2 + 1))] [] h := x_iinc dX7_init_35 rfl rfl
theorem s_X7_init_e1_38 {E : PvEnv} (hE : ∀ k, E 1 k = refT 1 k) {d : Nat} {Q : Int → Hp → Prop} {h : Hp} {a1 a2 : Int} : Ws E d mX7_init Q 38 [(2, 1), (0, a1), (0, a2)] [] h = Ws E d mX7_init Q 23 [(2, 1), (0, a1), (0, a2)] [] h := x_goto dX7_init_38 (by decide) rfl
theorem s_X7_init_e1_41 {E : PvEnv} (hE : ∀ k, E 1 k = refT 1 k) {d : Nat} {Q : Int → Hp → Prop} {h : Hp} {a1 a2 : Int} : Ws E d mX7_init Q 41 [(2, 1), (0, a1), (0, a2)] [] h = Q 0 h := x_vret dX7_init_41 rfl
theorem b_X7_init_e1_21 {E : PvEnv} (hE : ∀ k, E 1 k = refT 1 k) {d : Nat} {Q : Int → Hp → Prop} {h : Hp} {a1 : Int} : Ws E d mX7_init Q 21 [(2, 1), (0, a1), (9, 0)] [] h = Ws E d mX7_init Q 23 [(2, 1), (0, a1), (0, 0)] [] h := (s_X7_init_e1_21 hE).trans (s_X7_init_e1_22 hE)
theorem b_X7_init_e1_23 {E : PvEnv} (hE : ∀ k, E 1 k = refT 1 k) {d : Nat} {Q : Int → Hp → Prop} {h : Hp} {a1 a2 : Int} : Ws E d mX7_init Q 23 [(2, 1), (0, a1), (0, a2)] [] h = (if a2 < a1 then ((0 ≤ a2 ∧ a2 < 6) ∧ Ws E d mX7_init Q 23 [(2, 1), (0, a1), (0, w32 (a2 + 1))] [] (hst h 2 a2 (-1))) else Q 0 h) := (s_X7_init_e1_23 hE).trans ((s_X7_init_e1_24 hE).trans ((s_X7_init_e1_25 hE).trans (ite_c ((s_X7_init_e1_28 hE).trans ((s_X7_init_e1_29 hE).trans ((s_X7_init_e1_32 hE).trans ((s_X7_init_e1_33 hE).trans ((s_X7_init_e1_34 hE).trans (and_c ((s_X7_init_e1_35 hE).trans (s_X7_init_e1_38 hE)))))))) (s_X7_init_e1_41 hE))))
theorem s_X7_init_e4_21 {E : PvEnv} (hE : ∀ k, E 4 k = refT 4 k) {d : Nat} {Q : Int → Hp → Prop} {h : Hp} {a1 : Int} : Ws E d mX7_init Q 21 [(2, 4), (0, a1), (9, 0)] [] h = Ws E d mX7_init Q 22 [(2, 4), (0, a1), (9, 0)] [(0, 0)] h := x_iconst dX7_init_21 (by decide)
theorem s_X7_init_e4_22 {E : PvEnv} (hE : ∀ k, E 4 k = refT 4 k) {d : Nat} {Q : Int → Hp → Prop} {h : Hp} {a1 b0 : Int} : Ws E d mX7_init Q 22 [(2, 4), (0, a1), (9, 0)] [(0, b0)] h = Ws E d mX7_init Q 23 [(2, 4), (0, a1), (0, b0)] [] h := x_istore_n dX7_init_22 rfl
theorem s_X7_init_e4_23 {E : PvEnv} (hE : ∀ k, E 4 k = refT 4 k) {d : Nat} {Q : Int → Hp → Prop} {h : Hp} {a1 a2 : Int} : Ws E d mX7_init Q 23 [(2, 4), (0, a1), (0, a2)] [] h = Ws E d mX7_init Q 24 [(2, 4), (0, a1), (0, a2)] [(0, a2)] h := x_iload_n dX7_init_23 rfl
theorem s_X7_init_e4_24 {E : PvEnv} (hE : ∀ k, E 4 k = refT 4 k) {d : Nat} {Q : Int → Hp → Prop} {h : Hp} {a1 a2 b0 : Int} : Ws E d mX7_init Q 24 [(2, 4), (0, a1), (0, a2)] [(0, b0)] h = Ws E d mX7_init Q 25 [(2, 4), (0, a1), (0, a2)] [(0, a1), (0, b0)] h := x_iload_n dX7_init_24 rfl
theorem s_X7_init_e4_25 {E : PvEnv} (hE : ∀ k, E 4 k = refT 4 k) {d : Nat} {Q : Int → Hp → Prop} {h : Hp} {a1 a2 b0 b1 : Int} : Ws E d mX7_init Q 25 [(2, 4), (0, a1), (0, a2)] [(0, b0), (0, b1)] h = (if b1 < b0 then Ws E d mX7_init Q 28 [(2, 4), (0, a1), (0, a2)] [] h else Ws E d mX7_init Q 41 [(2, 4), (0, a1), (0, a2)] [] h) := x_icmp_ge dX7_init_25 (by decide) rfl
theorem s_X7_init_e4_28 {E : PvEnv} (hE : ∀ k, E 4 k = refT 4 k) {d : Nat} {Q : Int → Hp → Prop} {h : Hp} {a1 a2 : Int} : Ws E d mX7_init Q 28 [(2, 4), (0, a1), (0, a2)] [] h = Ws E d mX7_init Q 29 [(2, 4), (0, a1), (0, a2)] [(2, 4)] h := x_aload_n dX7_init_28 rfl
theorem s_X7_init_e4_29 {E : PvEnv} (hE : ∀ k, E 4 k = refT 4 k) {d : Nat} {Q : Int → Hp → Prop} {h : Hp} {a1 a2 : Int} : Ws E d mX7_init Q 29 [(2, 4), (0, a1), (0, a2)] [(2, 4)] h = Ws E d mX7_init Q 32 [(2, 4), (0, a1), (0, a2)] [(2, 5)] h := x_getR dX7_init_29 fl_7_9 sk_4 ((hE 0).trans rt_4_0) (by decide)
theorem s_X7_init_e4_32 {E : PvEnv} (hE : ∀ k, E 4 k = refT 4 k) {d : Nat} {Q : Int → Hp → Prop} {h : Hp} {a1 a2 : Int} : Ws E d mX7_init Q 32 [(2, 4), (0, a1), (0, a2)] [(2, 5)] h = Ws E d mX7_init Q 33 [(2, 4), (0, a1), (0, a2)] [(0, a2), (2, 5)] h := x_iload_n dX7_init_32 rfl
theorem s_X7_init_e4_33 {E : PvEnv} (hE : ∀ k, E 4 k = refT 4 k) {d : Nat} {Q : Int → Hp → Prop} {h : Hp} {a1 a2 b0 : Int} : Ws E d mX7_init Q 33 [(2, 4), (0, a1), (0, a2)] [(0, b0), (2, 5)] h = Ws E d mX7_init Q 34 [(2, 4), (0, a1), (0, a2)] [(0, (-1)), (0, b0), (2, 5)] h := x_iconst dX7_init_33 (by decide)
theorem s_X7_init_e4_34 {E : PvEnv} (hE : ∀ k, E 4 k = refT 4 k) {d : Nat} {Q : Int → Hp → Prop} {h : Hp} {a1 a2 b0 b1 : Int} : Ws E d mX7_init Q 34 [(2, 4), (0, a1), (0, a2)] [(0, b0), (0, b1), (2, 5)] h = ((0 ≤ b1 ∧ b1 < 4) ∧ Ws E d mX7_init Q 35 [(2, 4), (0, a1), (0, a2)] [] (hst h 5 b1 b0)) := x_iast dX7_init_34 sk_5 (by decide) (al_5 E)
theorem s_X7_init_e4_35 {E : PvEnv} (hE : ∀ k, E 4 k = refT 4 k) {d : Nat} {Q : Int → Hp → Prop} {h : Hp} {a1 a2 : Int} : Ws E d mX7_init Q 35 [(2, 4), (0, a1), (0, a2)] [] h = Ws E d mX7_init Q 38 [(2, 4), (0, a1), (0, w32 (a2 + 1))] [] h := x_iinc dX7_init_35 rfl rfl
theorem s_X7_init_e4_38 {E : PvEnv} (hE : ∀ k, E 4 k = refT 4 k) {d : Nat} {Q : Int → Hp → Prop} {h : Hp} {a1 a2 : Int} : Ws E d mX7_init Q 38 [(2, 4), (0, a1), (0, a2)] [] h = Ws E d mX7_init Q 23 [(2, 4), (0, a1), (0, a2)] [] h := x_goto dX7_init_38 (by decide) rfl
theorem s_X7_init_e4_41 {E : PvEnv} (hE : ∀ k, E 4 k = refT 4 k) {d : Nat} {Q : Int → Hp → Prop} {h : Hp} {a1 a2 : Int} : Ws E d mX7_init Q 41 [(2, 4), (0, a1), (0, a2)] [] h = Q 0 h := x_vret dX7_init_41 rfl
theorem b_X7_init_e4_21 {E : PvEnv} (hE : ∀ k, E 4 k = refT 4 k) {d : Nat} {Q : Int → Hp → Prop} {h : Hp} {a1 : Int} : Ws E d mX7_init Q 21 [(2, 4), (0, a1), (9, 0)] [] h = Ws E d mX7_init Q 23 [(2, 4), (0, a1), (0, 0)] [] h := (s_X7_init_e4_21 hE).trans (s_X7_init_e4_22 hE)
theorem b_X7_init_e4_23 {E : PvEnv} (hE : ∀ k, E 4 k = refT 4 k) {d : Nat} {Q : Int → Hp → Prop} {h : Hp} {a1 a2 : Int} : Ws E d mX7_init Q 23 [(2, 4), (0, a1), (0, a2)] [] h = (if a2 < a1 then ((0 ≤ a2 ∧ a2 < 4) ∧ Ws E d mX7_init Q 23 [(2, 4), (0, a1), (0, w32 (a2 + 1))] [] (hst h 5 a2 (-1))) else Q 0 h) := (s_X7_init_e4_23 hE).trans ((s_X7_init_e4_24 hE).trans ((s_X7_init_e4_25 hE).trans (ite_c ((s_X7_init_e4_28 hE).trans ((s_X7_init_e4_29 hE).trans ((s_X7_init_e4_32 hE).trans ((s_X7_init_e4_33 hE).trans ((s_X7_init_e4_34 hE).trans (and_c ((s_X7_init_e4_35 hE).trans (s_X7_init_e4_38 hE)))))))) (s_X7_init_e4_41 hE))))
theorem dX1_init_0 : decode cX1_init 0 = .ok (.aload_n 0, 1) := by decide +kernel
theorem dX1_init_1 : decode cX1_init 1 = .ok (.invokespecial 3, 3) := by decide +kernel
theorem dX1_init_4 : decode cX1_init 4 = .ok (.aload_n 0, 1) := by decide +kernel
theorem dX1_init_5 : decode cX1_init 5 = .ok (.sipush 336, 3) := by decide +kernel
theorem dX1_init_8 : decode cX1_init 8 = .ok (.newarray .int, 2) := by decide +kernel
theorem dX1_init_10 : decode cX1_init 10 = .ok (.putfield 9, 3) := by decide +kernel
theorem dX1_init_13 : decode cX1_init 13 = .ok (.aload_n 0, 1) := by decide +kernel
theorem dX1_init_14 : decode cX1_init 14 = .ok (.sipush 336, 3) := by decide +kernel
theorem dX1_init_17 : decode cX1_init 17 = .ok (.newarray .int, 2) := by decide +kernel
theorem dX1_init_19 : decode cX1_init 19 = .ok (.putfield 15, 3) := by decide +kernel
theorem dX1_init_22 : decode cX1_init 22 = .ok (.aload_n 0, 1) := by decide +kernel
theorem dX1_init_23 : decode cX1_init 23 = .ok (.sipush 336, 3) := by decide +kernel
theorem dX1_init_26 : decode cX1_init 26 = .ok (.newarray .int, 2) := by decide +kernel
theorem dX1_init_28 : decode cX1_init 28 = .ok (.putfield 18, 3) := by decide +kernel
theorem dX1_init_31 : decode cX1_init 31 = .ok (.aload_n 0, 1) := by decide +kernel
theorem dX1_init_32 : decode cX1_init 32 = .ok (.iconst 1, 1) := by decide +kernel
theorem dX1_init_33 : decode cX1_init 33 = .ok (.putfield 21, 3) := by decide +kernel
theorem dX1_init_36 : decode cX1_init 36 = .ok (.iconst 0, 1) := by decide +kernel
theorem dX1_init_37 : decode cX1_init 37 = .ok (.istore_n 1, 1) := by decide +kernel
theorem dX1_init_38 : decode cX1_init 38 = .ok (.iload_n 1, 1) := by decide +kernel
theorem dX1_init_39 : decode cX1_init 39 = .ok (.sipush 336, 3) := by decide +kernel
theorem dX1_init_42 : decode cX1_init 42 = .ok (.if_icmp .ge 16, 3) := by decide +kernel
theorem dX1_init_45 : decode cX1_init 45 = .ok (.aload_n 0, 1) := by decide +kernel
theorem dX1_init_46 : decode cX1_init 46 = .ok (.getfield 9, 3) := by decide +kernel
theorem dX1_init_49 : decode cX1_init 49 = .ok (.iload_n 1, 1) := by decide +kernel
theorem dX1_init_50 : decode cX1_init 50 = .ok (.iconst (-1), 1) := by decide +kernel
theorem dX1_init_51 : decode cX1_init 51 = .ok (.iastore, 1) := by decide +kernel
theorem dX1_init_52 : decode cX1_init 52 = .ok (.iinc 1 1, 3) := by decide +kernel
theorem dX1_init_55 : decode cX1_init 55 = .ok (.goto (-17), 3) := by decide +kernel
theorem dX1_init_58 : decode cX1_init 58 = .ok (.return_, 1) := by decide +kernel
theorem s_X1_init_e_36 {E : PvEnv} (hE : ∀ k, E 26 k = refT 26 k) {d : Nat} {Q : Int → Hp → Prop} {h : Hp} : Ws E d mX1_init Q 36 [(2, 26), (9, 0)] [] h = Ws E d mX1_init Q 37 [(2, 26), (9, 0)] [(0, 0)] h := x_iconst dX1_init_36 (by decide)
theorem s_X1_init_e_37 {E : PvEnv} (hE : ∀ k, E 26 k = refT 26 k) {d : Nat} {Q : Int → Hp → Prop} {h : Hp} {b0 : Int} : Ws E d mX1_init Q 37 [(2, 26), (9, 0)] [(0, b0)] h = Ws E d mX1_init Q 38 [(2, 26), (0, b0)] [] h := x_istore_n dX1_init_37 rfl
theorem s_X1_init_e_38 {E : PvEnv} (hE : ∀ k, E 26 k = refT 26 k) {d : Nat} {Q : Int → Hp → Prop} {h : Hp} {a1 : Int} : Ws E d mX1_init Q 38 [(2, 26), (0, a1)] [] h = Ws E d mX1_init Q 39 [(2, 26), (0, a1)] [(0, a1)] h := x_iload_n dX1_init_38 rfl
theorem s_X1_init_e_39 {E : PvEnv} (hE : ∀ k, E 26 k = refT 26 k) {d : Nat} {Q : Int → Hp → Prop} {h : Hp} {a1 b0 : Int} : Ws E d mX1_init Q 39 [(2, 26), (0, a1)] [(0, b0)] h = Ws E d mX1_init Q 42 [(2, 26), (0, a1)] [(0, 336), (0, b0)] h := x_sipush dX1_init_39 (by decide)
theorem s_X1_init_e_42 {E : PvEnv} (hE : ∀ k, E 26 k = refT 26 k) {d : Nat} {Q : Int → Hp → Prop} {h : Hp} {a1 b0 b1 : Int} : Ws E d mX1_init Q 42 [(2, 26), (0, a1)] [(0, b0), (0, b1)] h = (if b1 < b0 then Ws E d mX1_init Q 45 [(2, 26), (0, a1)] [] h else Ws E d mX1_init Q 58 [(2, 26), (0, a1)] [] h) := x_icmp_ge dX1_init_42 (by decide) rfl
theorem s_X1_init_e_45 {E : PvEnv} (hE : ∀ k, E 26 k = refT 26 k) {d : Nat} {Q : Int → Hp → Prop} {h : Hp} {a1 : Int} : Ws E d mX1_init Q 45 [(2, 26), (0, a1)] [] h = Ws E d mX1_init Q 46 [(2, 26), (0, a1)] [(2, 26)] h := x_aload_n dX1_init_45 rfl
theorem s_X1_init_e_46 {E : PvEnv} (hE : ∀ k, E 26 k = refT 26 k) {d : Nat} {Q : Int → Hp → Prop} {h : Hp} {a1 : Int} : Ws E d mX1_init Q 46 [(2, 26), (0, a1)] [(2, 26)] h = Ws E d mX1_init Q 49 [(2, 26), (0, a1)] [(2, 27)] h := x_getR dX1_init_46 fl_1_9 sk_26 ((hE 0).trans rt_26_0) (by decide)
theorem s_X1_init_e_49 {E : PvEnv} (hE : ∀ k, E 26 k = refT 26 k) {d : Nat} {Q : Int → Hp → Prop} {h : Hp} {a1 : Int} : Ws E d mX1_init Q 49 [(2, 26), (0, a1)] [(2, 27)] h = Ws E d mX1_init Q 50 [(2, 26), (0, a1)] [(0, a1), (2, 27)] h := x_iload_n dX1_init_49 rfl
theorem s_X1_init_e_50 {E : PvEnv} (hE : ∀ k, E 26 k = refT 26 k) {d : Nat} {Q : Int → Hp → Prop} {h : Hp} {a1 b0 : Int} : Ws E d mX1_init Q 50 [(2, 26), (0, a1)] [(0, b0), (2, 27)] h = Ws E d mX1_init Q 51 [(2, 26), (0, a1)] [(0, (-1)), (0, b0), (2, 27)] h := x_iconst dX1_init_50 (by decide)
theorem s_X1_init_e_51 {E : PvEnv} (hE : ∀ k, E 26 k = refT 26 k) {d : Nat} {Q : Int → Hp → Prop} {h : Hp} {a1 b0 b1 : Int} : Ws E d mX1_init Q 51 [(2, 26), (0, a1)] [(0, b0), (0, b1), (2, 27)] h = ((0 ≤ b1 ∧ b1 < 336) ∧ Ws E d mX1_init Q 52 [(2, 26), (0, a1)] [] (hst h 27 b1 b0)) := x_iast dX1_init_51 sk_27 (by decide) (al_27 E)
theorem s_X1_init_e_52 {E : PvEnv} (hE : ∀ k, E 26 k = refT 26 k) {d : Nat} {Q : Int → Hp → Prop} {h : Hp} {a1 : Int} : Ws E d mX1_init Q 52 [(2, 26), (0, a1)] [] h = Ws E d mX1_init Q 55 [(2, 26), (0, w32 (a1 + 1))] [] h := x_iinc dX1_init_52 rfl rfl
theorem s_X1_init_e_55 {E : PvEnv} (hE : ∀ k, E 26 k = refT 26 k) {d : Nat} {Q : Int → Hp → Prop} {h : Hp} {a1 : Int} : Ws E d mX1_init Q 55 [(2, 26), (0, a1)] [] h = Ws E d mX1_init Q 38 [(2, 26), (0, a1)] [] h := x_goto dX1_init_55 (by decide) rfl
theorem s_X1_init_e_58 {E : PvEnv} (hE : ∀ k, E 26 k = refT 26 k) {d : Nat} {Q : Int → Hp → Prop} {h : Hp} {a1 : Int} : Ws E d mX1_init Q 58 [(2, 26), (0, a1)] [] h = Q 0 h := x_vret dX1_init_58 rfl
theorem b_X1_init_e_36 {E : PvEnv} (hE : ∀ k, E 26 k = refT 26 k) {d : Nat} {Q : Int → Hp → Prop} {h : Hp} : Ws E d mX1_init Q 36 [(2, 26), (9, 0)] [] h = Ws E d mX1_init Q 38 [(2, 26), (0, 0)] [] h := (s_X1_init_e_36 hE).trans (s_X1_init_e_37 hE)
theorem b_X1_init_e_38 {E : PvEnv} (hE : ∀ k, E 26 k = refT 26 k) {d : Nat} {Q : Int → Hp → Prop} {h : Hp} {a1 : Int} : Ws E d mX1_init Q 38 [(2, 26), (0, a1)] [] h = (if a1 < 336 then ((0 ≤ a1 ∧ a1 < 336) ∧ Ws E d mX1_init Q 38 [(2, 26), (0, w32 (a1 + 1))] [] (hst h 27 a1 (-1))) else Q 0 h) := (s_X1_init_e_38 hE).trans ((s_X1_init_e_39 hE).trans ((s_X1_init_e_42 hE).trans (ite_c ((s_X1_init_e_45 hE).trans ((s_X1_init_e_46 hE).trans ((s_X1_init_e_49 hE).trans ((s_X1_init_e_50 hE).trans ((s_X1_init_e_51 hE).trans (and_c ((s_X1_init_e_52 hE).trans (s_X1_init_e_55 hE)))))))) (s_X1_init_e_58 hE))))
theorem dX0_init_0 : decode cX0_init 0 = .ok (.aload_n 0, 1) := by decide +kernel
theorem dX0_init_1 : decode cX0_init 1 = .ok (.invokespecial 3, 3) := by decide +kernel
theorem dX0_init_4 : decode cX0_init 4 = .ok (.aload_n 0, 1) := by decide +kernel
theorem dX0_init_5 : decode cX0_init 5 = .ok (.bipush 6, 2) := by decide +kernel
theorem dX0_init_7 : decode cX0_init 7 = .ok (.newarray .int, 2) := by decide +kernel
theorem dX0_init_9 : decode cX0_init 9 = .ok (.putfield 9, 3) := by decide +kernel
theorem dX0_init_12 : decode cX0_init 12 = .ok (.aload_n 0, 1) := by decide +kernel
theorem dX0_init_13 : decode cX0_init 13 = .ok (.bipush 6, 2) := by decide +kernel
theorem dX0_init_15 : decode cX0_init 15 = .ok (.newarray .int, 2) := by decide +kernel
theorem dX0_init_17 : decode cX0_init 17 = .ok (.putfield 15, 3) := by decide +kernel
theorem dX0_init_20 : decode cX0_init 20 = .ok (.aload_n 0, 1) := by decide +kernel
theorem dX0_init_21 : decode cX0_init 21 = .ok (.bipush 6, 2) := by decide +kernel
theorem dX0_init_23 : decode cX0_init 23 = .ok (.newarray .int, 2) := by decide +kernel
theorem dX0_init_25 : decode cX0_init 25 = .ok (.putfield 18, 3) := by decide +kernel
theorem dX0_init_28 : decode cX0_init 28 = .ok (.aload_n 0, 1) := by decide +kernel
theorem dX0_init_29 : decode cX0_init 29 = .ok (.bipush 6, 2) := by decide +kernel
theorem dX0_init_31 : decode cX0_init 31 = .ok (.newarray .int, 2) := by decide +kernel
theorem dX0_init_33 : decode cX0_init 33 = .ok (.putfield 21, 3) := by decide +kernel
theorem dX0_init_36 : decode cX0_init 36 = .ok (.aload_n 0, 1) := by decide +kernel
theorem dX0_init_37 : decode cX0_init 37 = .ok (.bipush 6, 2) := by decide +kernel
theorem dX0_init_39 : decode cX0_init 39 = .ok (.newarray .int, 2) := by decide +kernel
theorem dX0_init_41 : decode cX0_init 41 = .ok (.putfield 24, 3) := by decide +kernel
theorem dX0_init_44 : decode cX0_init 44 = .ok (.aload_n 0, 1) := by decide +kernel
theorem dX0_init_45 : decode cX0_init 45 = .ok (.bipush 6, 2) := by decide +kernel
theorem dX0_init_47 : decode cX0_init 47 = .ok (.newarray .int, 2) := by decide +kernel
theorem dX0_init_49 : decode cX0_init 49 = .ok (.putfield 27, 3) := by decide +kernel
theorem dX0_init_52 : decode cX0_init 52 = .ok (.iconst 0, 1) := by decide +kernel
theorem dX0_init_53 : decode cX0_init 53 = .ok (.istore_n 1, 1) := by decide +kernel
theorem dX0_init_54 : decode cX0_init 54 = .ok (.iload_n 1, 1) := by decide +kernel
theorem dX0_init_55 : decode cX0_init 55 = .ok (.bipush 6, 2) := by decide +kernel
theorem dX0_init_57 : decode cX0_init 57 = .ok (.if_icmp .ge 17, 3) := by decide +kernel
theorem dX0_init_60 : decode cX0_init 60 = .ok (.aload_n 0, 1) := by decide +kernel
theorem dX0_init_61 : decode cX0_init 61 = .ok (.getfield 18, 3) := by decide +kernel
theorem dX0_init_64 : decode cX0_init 64 = .ok (.iload_n 1, 1) := by decide +kernel
theorem dX0_init_65 : decode cX0_init 65 = .ok (.bipush (-9), 2) := by decide +kernel
theorem dX0_init_67 : decode cX0_init 67 = .ok (.iastore, 1) := by decide +kernel
theorem dX0_init_68 : decode cX0_init 68 = .ok (.iinc 1 1, 3) := by decide +kernel
theorem dX0_init_71 : decode cX0_init 71 = .ok (.goto (-17), 3) := by decide +kernel
theorem dX0_init_74 : decode cX0_init 74 = .ok (.return_, 1) := by decide +kernel
theorem s_X0_init_e_52 {E : PvEnv} (hE : ∀ k, E 30 k = refT 30 k) {d : Nat} {Q : Int → Hp → Prop} {h : Hp} : Ws E d mX0_init Q 52 [(2, 30), (9, 0)] [] h = Ws E d mX0_init Q 53 [(2, 30), (9, 0)] [(0, 0)] h := x_iconst dX0_init_52 (by decide)
theorem s_X0_init_e_53 {E : PvEnv} (hE : ∀ k, E 30 k = refT 30 k) {d : Nat} {Q : Int → Hp → Prop} {h : Hp} {b0 : Int} : Ws E d mX0_init Q 53 [(2, 30), (9, 0)] [(0, b0)] h = Ws E d mX0_init Q 54 [(2, 30), (0, b0)] [] h := x_istore_n dX0_init_53 rfl
theorem s_X0_init_e_54 {E : PvEnv} (hE : ∀ k, E 30 k = refT 30 k) {d : Nat} {Q : Int → Hp → Prop} {h : Hp} {a1 : Int} : Ws E d mX0_init Q 54 [(2, 30), (0, a1)] [] h = Ws E d mX0_init Q 55 [(2, 30), (0, a1)] [(0, a1)] h := x_iload_n dX0_init_54 rfl
theorem s_X0_init_e_55 {E : PvEnv} (hE : ∀ k, E 30 k = refT 30 k) {d : Nat} {Q : Int → Hp → Prop} {h : Hp} {a1 b0 : Int} : Ws E d mX0_init Q 55 [(2, 30), (0, a1)] [(0, b0)] h = Ws E d mX0_init Q 57 [(2, 30), (0, a1)] [(0, 6), (0, b0)] h := x_bipush dX0_init_55 (by decide)
theorem s_X0_init_e_57 {E : PvEnv} (hE : ∀ k, E 30 k = refT 30 k) {d : Nat} {Q : Int → Hp → Prop} {h : Hp} {a1 b0 b1 : Int} : Ws E d mX0_init Q 57 [(2, 30), (0, a1)] [(0, b0), (0, b1)] h = (if b1 < b0 then Ws E d mX0_init Q 60 [(2, 30), (0, a1)] [] h else Ws E d mX0_init Q 74 [(2, 30), (0, a1)] [] h) := x_icmp_ge dX0_init_57 (by decide) rfl
theorem s_X0_init_e_60 {E : PvEnv} (hE : ∀ k, E 30 k = refT 30 k) {d : Nat} {Q : Int → Hp → Prop} {h : Hp} {a1 : Int} : Ws E d mX0_init Q 60 [(2, 30), (0, a1)] [] h = Ws E d mX0_init Q 61 [(2, 30), (0, a1)] [(2, 30)] h := x_aload_n dX0_init_60 rfl
theorem s_X0_init_e_61 {E : PvEnv} (hE : ∀ k, E 30 k = refT 30 k) {d : Nat} {Q : Int → Hp → Prop} {h : Hp} {a1 : Int} : Ws E d mX0_init Q 61 [(2, 30), (0, a1)] [(2, 30)] h = Ws E d mX0_init Q 64 [(2, 30), (0, a1)] [(2, 33)] h := x_getR dX0_init_61 fl_0_18 sk_30 ((hE 2).trans rt_30_2) (by decide)
theorem s_X0_init_e_64 {E : PvEnv} (hE : ∀ k, E 30 k = refT 30 k) {d : Nat} {Q : Int → Hp → Prop} {h : Hp} {a1 : Int} : Ws E d mX0_init Q 64 [(2, 30), (0, a1)] [(2, 33)] h = Ws E d mX0_init Q 65 [(2, 30), (0, a1)] [(0, a1), (2, 33)] h := x_iload_n dX0_init_64 rfl
theorem s_X0_init_e_65 {E : PvEnv} (hE : ∀ k, E 30 k = refT 30 k) {d : Nat} {Q : Int → Hp → Prop} {h : Hp} {a1 b0 : Int} : Ws E d mX0_init Q 65 [(2, 30), (0, a1)] [(0, b0), (2, 33)] h = Ws E d mX0_init Q 67 [(2, 30), (0, a1)] [(0, (-9)), (0, b0), (2, 33)] h := x_bipush dX0_init_65 (by decide)
theorem s_X0_init_e_67 {E : PvEnv} (hE : ∀ k, E 30 k = refT 30 k) {d : Nat} {Q : Int → Hp → Prop} {h : Hp} {a1 b0 b1 : Int} : Ws E d mX0_init Q 67 [(2, 30), (0, a1)] [(0, b0), (0, b1), (2, 33)] h = ((0 ≤ b1 ∧ b1 < 6) ∧ Ws E d mX0_init Q 68 [(2, 30), (0, a1)] [] (hst h 33 b1 b0)) := x_iast dX0_init_67 sk_33 (by decide) (al_33 E)
theorem s_X0_init_e_68 {E : PvEnv} (hE : ∀ k, E 30 k = refT 30 k) {d : Nat} {Q : Int → Hp → Prop} {h : Hp} {a1 : Int} : Ws E d mX0_init Q 68 [(2, 30), (0, a1)] [] h = Ws E d mX0_init Q 71 [(2, 30), (0, w32 (a1 + 1))] [] h := x_iinc dX0_init_68 rfl rfl
theorem s_X0_init_e_71 {E : PvEnv} (hE : ∀ k, E 30 k = refT 30 k) {d : Nat} {Q : Int → Hp → Prop} {h : Hp} {a1 : Int} : Ws E d mX0_init Q 71 [(2, 30), (0, a1)] [] h = Ws E d mX0_init Q 54 [(2, 30), (0, a1)] [] h := x_goto dX0_init_71 (by decide) rfl
theorem s_X0_init_e_74 {E : PvEnv} (hE : ∀ k, E 30 k = refT 30 k) {d : Nat} {Q : Int → Hp → Prop} {h : Hp} {a1 : Int} : Ws E d mX0_init Q 74 [(2, 30), (0, a1)] [] h = Q 0 h := x_vret dX0_init_74 rfl
theorem b_X0_init_e_52 {E : PvEnv} (hE : ∀ k, E 30 k = refT 30 k) {d : Nat} {Q : Int → Hp → Prop} {h : Hp} : Ws E d mX0_init Q 52 [(2, 30), (9, 0)] [] h = Ws E d mX0_init Q 54 [(2, 30), (0, 0)] [] h := (s_X0_init_e_52 hE).trans (s_X0_init_e_53 hE)
theorem b_X0_init_e_54 {E : PvEnv} (hE : ∀ k, E 30 k = refT 30 k) {d : Nat} {Q : Int → Hp → Prop} {h : Hp} {a1 : Int} : Ws E d mX0_init Q 54 [(2, 30), (0, a1)] [] h = (if a1 < 6 then ((0 ≤ a1 ∧ a1 < 6) ∧ Ws E d mX0_init Q 54 [(2, 30), (0, w32 (a1 + 1))] [] (hst h 33 a1 (-9))) else Q 0 h) := (s_X0_init_e_54 hE).trans ((s_X0_init_e_55 hE).trans ((s_X0_init_e_57 hE).trans (ite_c ((s_X0_init_e_60 hE).trans ((s_X0_init_e_61 hE).trans ((s_X0_init_e_64 hE).trans ((s_X0_init_e_65 hE).trans ((s_X0_init_e_67 hE).trans (and_c ((s_X0_init_e_68 hE).trans (s_X0_init_e_71 hE)))))))) (s_X0_init_e_74 hE))))
theorem s_X4_clear_e7_0 {E : PvEnv} (hE : ∀ k, E 7 k = refT 7 k) {d : Nat} {Q : Int → Hp → Prop} {h : Hp} : Ws E d mX4_clear Q 0 [(2, 7)] [] h = Ws E d mX4_clear Q 1 [(2, 7)] [(2, 7)] h := x_aload_n dX4_clear_0 rfl
theorem s_X4_clear_e7_1 {E : PvEnv} (hE : ∀ k, E 7 k = refT 7 k) {d : Nat} {Q : Int → Hp → Prop} {h : Hp} : Ws E d mX4_clear Q 1 [(2, 7)] [(2, 7)] h = Ws E d mX4_clear Q 2 [(2, 7)] [(0, 0), (2, 7)] h := x_iconst dX4_clear_1 (by decide)
theorem s_X4_clear_e7_2 {E : PvEnv} (hE : ∀ k, E 7 k = refT 7 k) {d : Nat} {Q : Int → Hp → Prop} {h : Hp} {b0 : Int} : Ws E d mX4_clear Q 2 [(2, 7)] [(0, b0), (2, 7)] h = Ws E d mX4_clear Q 5 [(2, 7)] [] (hst h 7 0 b0) := x_put dX4_clear_2 fl_4_18 sk_7 (by decide) ((hE 0).trans rt_7_0) rfl
theorem s_X4_clear_e7_5 {E : PvEnv} (hE : ∀ k, E 7 k = refT 7 k) {d : Nat} {Q : Int → Hp → Prop} {h : Hp} : Ws E d mX4_clear Q 5 [(2, 7)] [] h = Ws E d mX4_clear Q 6 [(2, 7)] [(2, 7)] h := x_aload_n dX4_clear_5 rfl
theorem s_X4_clear_e7_6 {E : PvEnv} (hE : ∀ k, E 7 k = refT 7 k) {d : Nat} {Q : Int → Hp → Prop} {h : Hp} : Ws E d mX4_clear Q 6 [(2, 7)] [(2, 7)] h = Ws E d mX4_clear Q 7 [(2, 7)] [(0, 1), (2, 7)] h := x_iconst dX4_clear_6 (by decide)
theorem s_X4_clear_e7_7 {E : PvEnv} (hE : ∀ k, E 7 k = refT 7 k) {d : Nat} {Q : Int → Hp → Prop} {h : Hp} {b0 : Int} : Ws E d mX4_clear Q 7 [(2, 7)] [(0, b0), (2, 7)] h = Ws E d mX4_clear Q 10 [(2, 7)] [] (hst h 7 1 b0) := x_put dX4_clear_7 fl_4_22 sk_7 (by decide) ((hE 1).trans rt_7_1) rfl
theorem s_X4_clear_e7_10 {E : PvEnv} (hE : ∀ k, E 7 k = refT 7 k) {d : Nat} {Q : Int → Hp → Prop} {h : Hp} : Ws E d mX4_clear Q 10 [(2, 7)] [] h = Ws E d mX4_clear Q 11 [(2, 7)] [(2, 7)] h := x_aload_n dX4_clear_10 rfl
theorem s_X4_clear_e7_11 {E : PvEnv} (hE : ∀ k, E 7 k = refT 7 k) {d : Nat} {Q : Int → Hp → Prop} {h : Hp} : Ws E d mX4_clear Q 11 [(2, 7)] [(2, 7)] h = Ws E d mX4_clear Q 12 [(2, 7)] [(0, 0), (2, 7)] h := x_iconst dX4_clear_11 (by decide)
theorem s_X4_clear_e7_12 {E : PvEnv} (hE : ∀ k, E 7 k = refT 7 k) {d : Nat} {Q : Int → Hp → Prop} {h : Hp} {b0 : Int} : Ws E d mX4_clear Q 12 [(2, 7)] [(0, b0), (2, 7)] h = Ws E d mX4_clear Q 15 [(2, 7)] [] (hst h 7 2 b0) := x_put dX4_clear_12 fl_4_25 sk_7 (by decide) ((hE 2).trans rt_7_2) rfl
theorem s_X4_clear_e7_15 {E : PvEnv} (hE : ∀ k, E 7 k = refT 7 k) {d : Nat} {Q : Int → Hp → Prop} {h : Hp} : Ws E d mX4_clear Q 15 [(2, 7)] [] h = Ws E d mX4_clear Q 16 [(2, 7)] [(2, 7)] h := x_aload_n dX4_clear_15 rfl
theorem s_X4_clear_e7_16 {E : PvEnv} (hE : ∀ k, E 7 k = refT 7 k) {d : Nat} {Q : Int → Hp → Prop} {h : Hp} : Ws E d mX4_clear Q 16 [(2, 7)] [(2, 7)] h = Ws E d mX4_clear Q 17 [(2, 7)] [(0, (-1)), (2, 7)] h := x_iconst dX4_clear_16 (by decide)
theorem s_X4_clear_e7_17 {E : PvEnv} (hE : ∀ k, E 7 k = refT 7 k) {d : Nat} {Q : Int → Hp → Prop} {h : Hp} {b0 : Int} : Ws E d mX4_clear Q 17 [(2, 7)] [(0, b0), (2, 7)] h = Ws E d mX4_clear Q 20 [(2, 7)] [] (hst h 7 3 b0) := x_put dX4_clear_17 fl_4_28 sk_7 (by decide) ((hE 3).trans rt_7_3) rfl
theorem s_X4_clear_e7_20 {E : PvEnv} (hE : ∀ k, E 7 k = refT 7 k) {d : Nat} {Q : Int → Hp → Prop} {h : Hp} : Ws E d mX4_clear Q 20 [(2, 7)] [] h = Ws E d mX4_clear Q 21 [(2, 7)] [(2, 7)] h := x_aload_n dX4_clear_20 rfl
theorem s_X4_clear_e7_21 {E : PvEnv} (hE : ∀ k, E 7 k = refT 7 k) {d : Nat} {Q : Int → Hp → Prop} {h : Hp} : Ws E d mX4_clear Q 21 [(2, 7)] [(2, 7)] h = Ws E d mX4_clear Q 22 [(2, 7)] [(0, (-1)), (2, 7)] h := x_iconst dX4_clear_21 (by decide)
theorem s_X4_clear_e7_22 {E : PvEnv} (hE : ∀ k, E 7 k = refT 7 k) {d : Nat} {Q : Int → Hp → Prop} {h : Hp} {b0 : Int} : Ws E d mX4_clear Q 22 [(2, 7)] [(0, b0), (2, 7)] h = Ws E d mX4_clear Q 25 [(2, 7)] [] (hst h 7 4 b0) := x_put dX4_clear_22 fl_4_31 sk_7 (by decide) ((hE 4).trans rt_7_4) rfl
theorem s_X4_clear_e7_25 {E : PvEnv} (hE : ∀ k, E 7 k = refT 7 k) {d : Nat} {Q : Int → Hp → Prop} {h : Hp} : Ws E d mX4_clear Q 25 [(2, 7)] [] h = Q 0 h := x_vret dX4_clear_25 rfl
theorem b_X4_clear_e7_0 {E : PvEnv} (hE : ∀ k, E 7 k = refT 7 k) {d : Nat} {Q : Int → Hp → Prop} {h : Hp} : Ws E d mX4_clear Q 0 [(2, 7)] [] h = Q 0 (hst (hst (hst (hst (hst h 7 0 0) 7 1 1) 7 2 0) 7 3 (-1)) 7 4 (-1)) := (s_X4_clear_e7_0 hE).trans ((s_X4_clear_e7_1 hE).trans ((s_X4_clear_e7_2 hE).trans ((s_X4_clear_e7_5 hE).trans ((s_X4_clear_e7_6 hE).trans ((s_X4_clear_e7_7 hE).trans ((s_X4_clear_e7_10 hE).trans ((s_X4_clear_e7_11 hE).trans ((s_X4_clear_e7_12 hE).trans ((s_X4_clear_e7_15 hE).trans ((s_X4_clear_e7_16 hE).trans ((s_X4_clear_e7_17 hE).trans ((s_X4_clear_e7_20 hE).trans ((s_X4_clear_e7_21 hE).trans ((s_X4_clear_e7_22 hE).trans (s_X4_clear_e7_25 hE)))))))))))))))
theorem s_X4_clear_e9_0 {E : PvEnv} (hE : ∀ k, E 9 k = refT 9 k) {d : Nat} {Q : Int → Hp → Prop} {h : Hp} : Ws E d mX4_clear Q 0 [(2, 9)] [] h = Ws E d mX4_clear Q 1 [(2, 9)] [(2, 9)] h := x_aload_n dX4_clear_0 rfl
theorem s_X4_clear_e9_1 {E : PvEnv} (hE : ∀ k, E 9 k = refT 9 k) {d : Nat} {Q : Int → Hp → Prop} {h : Hp} : Ws E d mX4_clear Q 1 [(2, 9)] [(2, 9)] h = Ws E d mX4_clear Q 2 [(2, 9)] [(0, 0), (2, 9)] h := x_iconst dX4_clear_1 (by decide)
theorem s_X4_clear_e9_2 {E : PvEnv} (hE : ∀ k, E 9 k = refT 9 k) {d : Nat} {Q : Int → Hp → Prop} {h : Hp} {b0 : Int} : Ws E d mX4_clear Q 2 [(2, 9)] [(0, b0), (2, 9)] h = Ws E d mX4_clear Q 5 [(2, 9)] [] (hst h 9 0 b0) := x_put dX4_clear_2 fl_4_18 sk_9 (by decide) ((hE 0).trans rt_9_0) rfl
theorem s_X4_clear_e9_5 {E : PvEnv} (hE : ∀ k, E 9 k = refT 9 k) {d : Nat} {Q : Int → Hp → Prop} {h : Hp} : Ws E d mX4_clear Q 5 [(2, 9)] [] h = Ws E d mX4_clear Q 6 [(2, 9)] [(2, 9)] h := x_aload_n dX4_clear_5 rfl
theorem s_X4_clear_e9_6 {E : PvEnv} (hE : ∀ k, E 9 k = refT 9 k) {d : Nat} {Q : Int → Hp → Prop} {h : Hp} : Ws E d mX4_clear Q 6 [(2, 9)] [(2, 9)] h = Ws E d mX4_clear Q 7 [(2, 9)] [(0, 1), (2, 9)] h := x_iconst dX4_clear_6 (by decide)
theorem s_X4_clear_e9_7 {E : PvEnv} (hE : ∀ k, E 9 k = refT 9 k) {d : Nat} {Q : Int → Hp → Prop} {h : Hp} {b0 : Int} : Ws E d mX4_clear Q 7 [(2, 9)] [(0, b0), (2, 9)] h = Ws E d mX4_clear Q 10 [(2, 9)] [] (hst h 9 1 b0) := x_put dX4_clear_7 fl_4_22 sk_9 (by decide) ((hE 1).trans rt_9_1) rfl
theorem s_X4_clear_e9_10 {E : PvEnv} (hE : ∀ k, E 9 k = refT 9 k) {d : Nat} {Q : Int → Hp → Prop} {h : Hp} : Ws E d mX4_clear Q 10 [(2, 9)] [] h = Ws E d mX4_clear Q 11 [(2, 9)] [(2, 9)] h := x_aload_n dX4_clear_10 rfl
theorem s_X4_clear_e9_11 {E : PvEnv} (hE : ∀ k, E 9 k = refT 9 k) {d : Nat} {Q : Int → Hp → Prop} {h : Hp} : Ws E d mX4_clear Q 11 [(2, 9)] [(2, 9)] h = Ws E d mX4_clear Q 12 [(2, 9)] [(0, 0), (2, 9)] h := x_iconst dX4_clear_11 (by decide)
theorem s_X4_clear_e9_12 {E : PvEnv} (hE : ∀ k, E 9 k = refT 9 k) {d : Nat} {Q : Int → Hp → Prop} {h : Hp} {b0 : Int} : Ws E d mX4_clear Q 12 [(2, 9)] [(0, b0), (2, 9)] h = Ws E d mX4_clear Q 15 [(2, 9)] [] (hst h 9 2 b0) := x_put dX4_clear_12 fl_4_25 sk_9 (by decide) ((hE 2).trans rt_9_2) rfl
theorem s_X4_clear_e9_15 {E : PvEnv} (hE : ∀ k, E 9 k = refT 9 k) {d : Nat} {Q : Int → Hp → Prop} {h : Hp} : Ws E d mX4_clear Q 15 [(2, 9)] [] h = Ws E d mX4_clear Q 16 [(2, 9)] [(2, 9)] h := x_aload_n dX4_clear_15 rfl
theorem s_X4_clear_e9_16 {E : PvEnv} (hE : ∀ k, E 9 k = refT 9 k) {d : Nat} {Q : Int → Hp → Prop} {h : Hp} : Ws E d mX4_clear Q 16 [(2, 9)] [(2, 9)] h = Ws E d mX4_clear Q 17 [(2, 9)] [(0, (-1)), (2, 9)] h := x_iconst dX4_clear_16 (by decide)
theorem s_X4_clear_e9_17 {E : PvEnv} (hE : ∀ k, E 9 k = refT 9 k) {d : Nat} {Q : Int → Hp → Prop} {h : Hp} {b0 : Int} : Ws E d mX4_clear Q 17 [(2, 9)] [(0, b0), (2, 9)] h = Ws E d mX4_clear Q 20 [(2, 9)] [] (hst h 9 3 b0) := x_put dX4_clear_17 fl_4_28 sk_9 (by decide) ((hE 3).trans rt_9_3) rfl
theorem s_X4_clear_e9_20 {E : PvEnv} (hE : ∀ k, E 9 k = refT 9 k) {d : Nat} {Q : Int → Hp → Prop} {h : Hp} : Ws E d mX4_clear Q 20 [(2, 9)] [] h = Ws E d mX4_clear Q 21 [(2, 9)] [(2, 9)] h := x_aload_n dX4_clear_20 rfl
theorem s_X4_clear_e9_21 {E : PvEnv} (hE : ∀ k, E 9 k = refT 9 k) {d : Nat} {Q : Int → Hp → Prop} {h : Hp} : Ws E d mX4_clear Q 21 [(2, 9)] [(2, 9)] h = Ws E d mX4_clear Q 22 [(2, 9)] [(0, (-1)), (2, 9)] h := x_iconst dX4_clear_21 (by decide)
theorem s_X4_clear_e9_22 {E : PvEnv} (hE : ∀ k, E 9 k = refT 9 k) {d : Nat} {Q : Int → Hp → Prop} {h : Hp} {b0 : Int} : Ws E d mX4_clear Q 22 [(2, 9)] [(0, b0), (2, 9)] h = Ws E d mX4_clear Q 25 [(2, 9)] [] (hst h 9 4 b0) := x_put dX4_clear_22 fl_4_31 sk_9 (by decide) ((hE 4).trans rt_9_4) rfl
theorem s_X4_clear_e9_25 {E : PvEnv} (hE : ∀ k, E 9 k = refT 9 k) {d : Nat} {Q : Int → Hp → Prop} {h : Hp} : Ws E d mX4_clear Q 25 [(2, 9)] [] h = Q 0 h := x_vret dX4_clear_25 rfl
theorem b_X4_clear_e9_0 {E : PvEnv} (hE : ∀ k, E 9 k = refT 9 k) {d : Nat} {Q : Int → Hp → Prop} {h : Hp} : Ws E d mX4_clear Q 0 [(2, 9)] [] h = Q 0 (hst (hst (hst (hst (hst h 9 0 0) 9 1 1) 9 2 0) 9 3 (-1)) 9 4 (-1)) := (s_X4_clear_e9_0 hE).trans ((s_X4_clear_e9_1 hE).trans ((s_X4_clear_e9_2 hE).trans ((s_X4_clear_e9_5 hE).trans ((s_X4_clear_e9_6 hE).trans ((s_X4_clear_e9_7 hE).trans ((s_X4_clear_e9_10 hE).trans ((s_X4_clear_e9_11 hE).trans ((s_X4_clear_e9_12 hE).trans ((s_X4_clear_e9_15 hE).trans ((s_X4_clear_e9_16 hE).trans ((s_X4_clear_e9_17 hE).trans ((s_X4_clear_e9_20 hE).trans ((s_X4_clear_e9_21 hE).trans ((s_X4_clear_e9_22 hE).trans (s_X4_clear_e9_25 hE)))))))))))))))
theorem dX4_init_0 : decode cX4_init 0 = .ok (.aload_n 0, 1) := by decide +kernel
theorem dX4_init_1 : decode cX4_init 1 = .ok (.invokespecial 3, 3) := by decide +kernel
theorem dX4_init_4 : decode cX4_init 4 = .ok (.aload_n 0, 1) := by decide +kernel
theorem dX4_init_5 : decode cX4_init 5 = .ok (.bipush 40, 2) := by decide +kernel
theorem dX4_init_7 : decode cX4_init 7 = .ok (.newarray .int, 2) := by decide +kernel
theorem dX4_init_9 : decode cX4_init 9 = .ok (.putfield 9, 3) := by decide +kernel
theorem dX4_init_12 : decode cX4_init 12 = .ok (.aload_n 0, 1) := by decide +kernel
theorem dX4_init_13 : decode cX4_init 13 = .ok (.invokevirtual 15, 3) := by decide +kernel
theorem dX4_init_16 : decode cX4_init 16 = .ok (.return_, 1) := by decide +kernel
theorem s_X4_init_e7_12 {E : PvEnv} (hE : ∀ k, E 7 k = refT 7 k) {d : Nat} {Q : Int → Hp → Prop} {h : Hp} : Ws E d mX4_init Q 12 [(2, 7)] [] h = Ws E d mX4_init Q 13 [(2, 7)] [(2, 7)] h := x_aload_n dX4_init_12 rfl
theorem s_X4_init_e7_13 {E : PvEnv} (hE : ∀ k, E 7 k = refT 7 k) {d : Nat} {Q : Int → Hp → Prop} {h : Hp} : Ws E d mX4_init Q 13 [(2, 7)] [(2, 7)] h = wpS E d mX4_clear [(2, 7)] h (fun r h' => Ws E d mX4_init Q 16 [(2, 7)] [] (h')) := x_cv dX4_init_13 cl_4_15 (by decide) rfl rfl rfl (Nat.le_of_ble_eq_true rfl) ⟨by decide, by decide⟩ rfl rfl sk_7
theorem s_X4_init_e7_16 {E : PvEnv} (hE : ∀ k, E 7 k = refT 7 k) {d : Nat} {Q : Int → Hp → Prop} {h : Hp} : Ws E d mX4_init Q 16 [(2, 7)] [] h = Q 0 h := x_vret dX4_init_16 rfl
theorem b_X4_init_e7_12 {E : PvEnv} (hE : ∀ k, E 7 k = refT 7 k) {d : Nat} {Q : Int → Hp → Prop} {h : Hp} : Ws E d mX4_init Q 12 [(2, 7)] [] h = wpS E d mX4_clear [(2, 7)] h (fun r1 h1 => Q 0 h1) := (s_X4_init_e7_12 hE).trans ((s_X4_init_e7_13 hE).trans (call_c (fun r1 h1 => s_X4_init_e7_16 hE)))
theorem s_X4_init_e9_12 {E : PvEnv} (hE : ∀ k, E 9 k = refT 9 k) {d : Nat} {Q : Int → Hp → Prop} {h : Hp} : Ws E d mX4_init Q 12 [(2, 9)] [] h = Ws E d mX4_init Q 13 [(2, 9)] [(2, 9)] h := x_aload_n dX4_init_12 rfl
theorem s_X4_init_e9_13 {E : PvEnv} (hE : ∀ k, E 9 k = refT 9 k) {d : Nat} {Q : Int → Hp → Prop} {h : Hp} : Ws E d mX4_init Q 13 [(2, 9)] [(2, 9)] h = wpS E d mX4_clear [(2, 9)] h (fun r h' => Ws E d mX4_init Q 16 [(2, 9)] [] (h')) := x_cv dX4_init_13 cl_4_15 (by decide) rfl rfl rfl (Nat.le_of_ble_eq_true rfl) ⟨by decide, by decide⟩ rfl rfl sk_9
theorem s_X4_init_e9_16 {E : PvEnv} (hE : ∀ k, E 9 k = refT 9 k) {d : Nat} {Q : Int → Hp → Prop} {h : Hp} : Ws E d mX4_init Q 16 [(2, 9)] [] h = Q 0 h := x_vret dX4_init_16 rfl
theorem b_X4_init_e9_12 {E : PvEnv} (hE : ∀ k, E 9 k = refT 9 k) {d : Nat} {Q : Int → Hp → Prop} {h : Hp} : Ws E d mX4_init Q 12 [(2, 9)] [] h = wpS E d mX4_clear [(2, 9)] h (fun r1 h1 => Q 0 h1) := (s_X4_init_e9_12 hE).trans ((s_X4_init_e9_13 hE).trans (call_c (fun r1 h1 => s_X4_init_e9_16 hE)))
theorem dX8_init_0 : decode cX8_init 0 = .ok (.aload_n 0, 1) := by decide +kernel
theorem dX8_init_1 : decode cX8_init 1 = .ok (.invokespecial 3, 3) := by decide +kernel
theorem dX8_init_4 : decode cX8_init 4 = .ok (.aload_n 0, 1) := by decide +kernel
theorem dX8_init_5 : decode cX8_init 5 = .ok (.sipush 336, 3) := by decide +kernel
theorem dX8_init_8 : decode cX8_init 8 = .ok (.newarray .int, 2) := by decide +kernel
theorem dX8_init_10 : decode cX8_init 10 = .ok (.putfield 9, 3) := by decide +kernel
theorem dX8_init_13 : decode cX8_init 13 = .ok (.aload_n 0, 1) := by decide +kernel
theorem dX8_init_14 : decode cX8_init 14 = .ok (.sipush 336, 3) := by decide +kernel
theorem dX8_init_17 : decode cX8_init 17 = .ok (.newarray .int, 2) := by decide +kernel
theorem dX8_init_19 : decode cX8_init 19 = .ok (.putfield 15, 3) := by decide +kernel
theorem dX8_init_22 : decode cX8_init 22 = .ok (.aload_n 0, 1) := by decide +kernel
theorem dX8_init_23 : decode cX8_init 23 = .ok (.sipush 336, 3) := by decide +kernel
theorem dX8_init_26 : decode cX8_init 26 = .ok (.newarray .int, 2) := by decide +kernel
theorem dX8_init_28 : decode cX8_init 28 = .ok (.putfield 18, 3) := by decide +kernel
theorem dX8_init_31 : decode cX8_init 31 = .ok (.aload_n 0, 1) := by decide +kernel
theorem dX8_init_32 : decode cX8_init 32 = .ok (.sipush 336, 3) := by decide +kernel
theorem dX8_init_35 : decode cX8_init 35 = .ok (.newarray .int, 2) := by decide +kernel
theorem dX8_init_37 : decode cX8_init 37 = .ok (.putfield 21, 3) := by decide +kernel
theorem dX8_init_40 : decode cX8_init 40 = .ok (.aload_n 0, 1) := by decide +kernel
theorem dX8_init_41 : decode cX8_init 41 = .ok (.sipush 336, 3) := by decide +kernel
theorem dX8_init_44 : decode cX8_init 44 = .ok (.newarray .int, 2) := by decide +kernel
theorem dX8_init_46 : decode cX8_init 46 = .ok (.putfield 24, 3) := by decide +kernel
theorem dX8_init_49 : decode cX8_init 49 = .ok (.aload_n 0, 1) := by decide +kernel
theorem dX8_init_50 : decode cX8_init 50 = .ok (.sipush 336, 3) := by decide +kernel
theorem dX8_init_53 : decode cX8_init 53 = .ok (.newarray .int, 2) := by decide +kernel
theorem dX8_init_55 : decode cX8_init 55 = .ok (.putfield 27, 3) := by decide +kernel
theorem dX8_init_58 : decode cX8_init 58 = .ok (.aload_n 0, 1) := by decide +kernel
theorem dX8_init_59 : decode cX8_init 59 = .ok (.sipush 336, 3) := by decide +kernel
theorem dX8_init_62 : decode cX8_init 62 = .ok (.newarray .int, 2) := by decide +kernel
theorem dX8_init_64 : decode cX8_init 64 = .ok (.putfield 30, 3) := by decide +kernel
theorem dX8_init_67 : decode cX8_init 67 = .ok (.aload_n 0, 1) := by decide +kernel
theorem dX8_init_68 : decode cX8_init 68 = .ok (.sipush 256, 3) := by decide +kernel
theorem dX8_init_71 : decode cX8_init 71 = .ok (.newarray .int, 2) := by decide +kernel
theorem dX8_init_73 : decode cX8_init 73 = .ok (.putfield 33, 3) := by decide +kernel
theorem dX8_init_76 : decode cX8_init 76 = .ok (.iconst 0, 1) := by decide +kernel
theorem dX8_init_77 : decode cX8_init 77 = .ok (.istore_n 1, 1) := by decide +kernel
theorem dX8_init_78 : decode cX8_init 78 = .ok (.iload_n 1, 1) := by decide +kernel
theorem dX8_init_79 : decode cX8_init 79 = .ok (.sipush 336, 3) := by decide +kernel
theorem dX8_init_82 : decode cX8_init 82 = .ok (.if_icmp .ge 31, 3) := by decide +kernel
theorem dX8_init_85 : decode cX8_init 85 = .ok (.aload_n 0, 1) := by decide +kernel
theorem dX8_init_86 : decode cX8_init 86 = .ok (.iload_n 1, 1) := by decide +kernel
theorem dX8_init_87 : decode cX8_init 87 = .ok (.invokevirtual 36, 3) := by decide +kernel
theorem dX8_init_90 : decode cX8_init 90 = .ok (.aload_n 0, 1) := by decide +kernel
theorem dX8_init_91 : decode cX8_init 91 = .ok (.getfield 9, 3) := by decide +kernel
theorem dX8_init_94 : decode cX8_init 94 = .ok (.iload_n 1, 1) := by decide +kernel
theorem dX8_init_95 : decode cX8_init 95 = .ok (.iload_n 1, 1) := by decide +kernel
theorem dX8_init_96 : decode cX8_init 96 = .ok (.bipush 16, 2) := by decide +kernel
theorem dX8_init_98 : decode cX8_init 98 = .ok (.if_icmp .ge 7, 3) := by decide +kernel
theorem dX8_init_101 : decode cX8_init 101 = .ok (.iconst 0, 1) := by decide +kernel
theorem dX8_init_102 : decode cX8_init 102 = .ok (.goto 4, 3) := by decide +kernel
theorem dX8_init_105 : decode cX8_init 105 = .ok (.iconst (-1), 1) := by decide +kernel
theorem dX8_init_106 : decode cX8_init 106 = .ok (.iastore, 1) := by decide +kernel
theorem dX8_init_107 : decode cX8_init 107 = .ok (.iinc 1 1, 3) := by decide +kernel
theorem dX8_init_110 : decode cX8_init 110 = .ok (.goto (-32), 3) := by decide +kernel
theorem dX8_init_113 : decode cX8_init 113 = .ok (.aload_n 0, 1) := by decide +kernel
theorem dX8_init_114 : decode cX8_init 114 = .ok (.invokevirtual 40, 3) := by decide +kernel
theorem dX8_init_117 : decode cX8_init 117 = .ok (.return_, 1) := by decide +kernel
theorem s_X8_init_e_76 {E : PvEnv} (hE : ∀ k, E 11 k = refT 11 k) {d : Nat} {Q : Int → Hp → Prop} {h : Hp} : Ws E d mX8_init Q 76 [(2, 11), (9, 0)] [] h = Ws E d mX8_init Q 77 [(2, 11), (9, 0)] [(0, 0)] h := x_iconst dX8_init_76 (by decide)
theorem s_X8_init_e_77 {E : PvEnv} (hE : ∀ k, E 11 k = refT 11 k) {d : Nat} {Q : Int → Hp → Prop} {h : Hp} {b0 : Int} : Ws E d mX8_init Q 77 [(2, 11), (9, 0)] [(0, b0)] h = Ws E d mX8_init Q 78 [(2, 11), (0, b0)] [] h := x_istore_n dX8_init_77 rfl
theorem s_X8_init_e_78 {E : PvEnv} (hE : ∀ k, E 11 k = refT 11 k) {d : Nat} {Q : Int → Hp → Prop} {h : Hp} {a1 : Int} : Ws E d mX8_init Q 78 [(2, 11), (0, a1)] [] h = Ws E d mX8_init Q 79 [(2, 11), (0, a1)] [(0, a1)] h := x_iload_n dX8_init_78 rfl
theorem s_X8_init_e_79 {E : PvEnv} (hE : ∀ k, E 11 k = refT 11 k) {d : Nat} {Q : Int → Hp → Prop} {h : Hp} {a1 b0 : Int} : Ws E d mX8_init Q 79 [(2, 11), (0, a1)] [(0, b0)] h = Ws E d mX8_init Q 82 [(2, 11), (0, a1)] [(0, 336), (0, b0)] h := x_sipush dX8_init_79 (by decide)
theorem s_X8_init_e_82 {E : PvEnv} (hE : ∀ k, E 11 k = refT 11 k) {d : Nat} {Q : Int → Hp → Prop} {h : Hp} {a1 b0 b1 : Int} : Ws E d mX8_init Q 82 [(2, 11), (0, a1)] [(0, b0), (0, b1)] h = (if b1 < b0 then Ws E d mX8_init Q 85 [(2, 11), (0, a1)] [] h else Ws E d mX8_init Q 113 [(2, 11), (0, a1)] [] h) := x_icmp_ge dX8_init_82 (by decide) rfl
theorem s_X8_init_e_85 {E : PvEnv} (hE : ∀ k, E 11 k = refT 11 k) {d : Nat} {Q : Int → Hp → Prop} {h : Hp} {a1 : Int} : Ws E d mX8_init Q 85 [(2, 11), (0, a1)] [] h = Ws E d mX8_init Q 86 [(2, 11), (0, a1)] [(2, 11)] h := x_aload_n dX8_init_85 rfl
theorem s_X8_init_e_86 {E : PvEnv} (hE : ∀ k, E 11 k = refT 11 k) {d : Nat} {Q : Int → Hp → Prop} {h : Hp} {a1 : Int} : Ws E d mX8_init Q 86 [(2, 11), (0, a1)] [(2, 11)] h = Ws E d mX8_init Q 87 [(2, 11), (0, a1)] [(0, a1), (2, 11)] h := x_iload_n dX8_init_86 rfl
theorem s_X8_init_e_87 {E : PvEnv} (hE : ∀ k, E 11 k = refT 11 k) {d : Nat} {Q : Int → Hp → Prop} {h : Hp} {a1 b0 : Int} : Ws E d mX8_init Q 87 [(2, 11), (0, a1)] [(0, b0), (2, 11)] h = wpS E d mX8_layOut [(2, 11), (0, b0)] h (fun r h' => Ws E d mX8_init Q 90 [(2, 11), (0, a1)] [] (h')) := x_cv dX8_init_87 cl_8_36 (by decide) rfl rfl rfl (Nat.le_of_ble_eq_true rfl) ⟨by decide, by decide⟩ rfl rfl sk_11
theorem s_X8_init_e_90 {E : PvEnv} (hE : ∀ k, E 11 k = refT 11 k) {d : Nat} {Q : Int → Hp → Prop} {h : Hp} {a1 : Int} : Ws E d mX8_init Q 90 [(2, 11), (0, a1)] [] h = Ws E d mX8_init Q 91 [(2, 11), (0, a1)] [(2, 11)] h := x_aload_n dX8_init_90 rfl
theorem s_X8_init_e_91 {E : PvEnv} (hE : ∀ k, E 11 k = refT 11 k) {d : Nat} {Q : Int → Hp → Prop} {h : Hp} {a1 : Int} : Ws E d mX8_init Q 91 [(2, 11), (0, a1)] [(2, 11)] h = Ws E d mX8_init Q 94 [(2, 11), (0, a1)] [(2, 12)] h := x_getR dX8_init_91 fl_8_9 sk_11 ((hE 0).trans rt_11_0) (by decide)
theorem s_X8_init_e_94 {E : PvEnv} (hE : ∀ k, E 11 k = refT 11 k) {d : Nat} {Q : Int → Hp → Prop} {h : Hp} {a1 : Int} : Ws E d mX8_init Q 94 [(2, 11), (0, a1)] [(2, 12)] h = Ws E d mX8_init Q 95 [(2, 11), (0, a1)] [(0, a1), (2, 12)] h := x_iload_n dX8_init_94 rfl
theorem s_X8_init_e_95 {E : PvEnv} (hE : ∀ k, E 11 k = refT 11 k) {d : Nat} {Q : Int → Hp → Prop} {h : Hp} {a1 b0 : Int} : Ws E d mX8_init Q 95 [(2, 11), (0, a1)] [(0, b0), (2, 12)] h = Ws E d mX8_init Q 96 [(2, 11), (0, a1)] [(0, a1), (0, b0), (2, 12)] h := x_iload_n dX8_init_95 rfl
theorem s_X8_init_e_96 {E : PvEnv} (hE : ∀ k, E 11 k = refT 11 k) {d : Nat} {Q : Int → Hp → Prop} {h : Hp} {a1 b0 b1 : Int} : Ws E d mX8_init Q 96 [(2, 11), (0, a1)] [(0, b0), (0, b1), (2, 12)] h = Ws E d mX8_init Q 98 [(2, 11), (0, a1)] [(0, 16), (0, b0), (0, b1), (2, 12)] h := x_bipush dX8_init_96 (by decide)
theorem s_X8_init_e_98 {E : PvEnv} (hE : ∀ k, E 11 k = refT 11 k) {d : Nat} {Q : Int → Hp → Prop} {h : Hp} {a1 b0 b1 b2 : Int} : Ws E d mX8_init Q 98 [(2, 11), (0, a1)] [(0, b0), (0, b1), (0, b2), (2, 12)] h = (if b1 < b0 then Ws E d mX8_init Q 101 [(2, 11), (0, a1)] [(0, b2), (2, 12)] h else Ws E d mX8_init Q 105 [(2, 11), (0, a1)] [(0, b2), (2, 12)] h) := x_icmp_ge dX8_init_98 (by decide) rfl
theorem s_X8_init_e_101 {E : PvEnv} (hE : ∀ k, E 11 k = refT 11 k) {d : Nat} {Q : Int → Hp → Prop} {h : Hp} {a1 b0 : Int} : Ws E d mX8_init Q 101 [(2, 11), (0, a1)] [(0, b0), (2, 12)] h = Ws E d mX8_init Q 102 [(2, 11), (0, a1)] [(0, 0), (0, b0), (2, 12)] h := x_iconst dX8_init_101 (by decide)
theorem s_X8_init_e_102 {E : PvEnv} (hE : ∀ k, E 11 k = refT 11 k) {d : Nat} {Q : Int → Hp → Prop} {h : Hp} {a1 b0 b1 : Int} : Ws E d mX8_init Q 102 [(2, 11), (0, a1)] [(0, b0), (0, b1), (2, 12)] h = Ws E d mX8_init Q 106 [(2, 11), (0, a1)] [(0, b0), (0, b1), (2, 12)] h := x_goto dX8_init_102 (by decide) rfl
theorem s_X8_init_e_106 {E : PvEnv} (hE : ∀ k, E 11 k = refT 11 k) {d : Nat} {Q : Int → Hp → Prop} {h : Hp} {a1 b0 b1 : Int} : Ws E d mX8_init Q 106 [(2, 11), (0, a1)] [(0, b0), (0, b1), (2, 12)] h = ((0 ≤ b1 ∧ b1 < 336) ∧ Ws E d mX8_init Q 107 [(2, 11), (0, a1)] [] (hst h 12 b1 b0)) := x_iast dX8_init_106 sk_12 (by decide) (al_12 E)
theorem s_X8_init_e_107 {E : PvEnv} (hE : ∀ k, E 11 k = refT 11 k) {d : Nat} {Q : Int → Hp → Prop} {h : Hp} {a1 : Int} : Ws E d mX8_init Q 107 [(2, 11), (0, a1)] [] h = Ws E d mX8_init Q 110 [(2, 11), (0, w32 (a1 + 1))] [] h := x_iinc dX8_init_107 rfl rfl
theorem s_X8_init_e_110 {E : PvEnv} (hE : ∀ k, E 11 k = refT 11 k) {d : Nat} {Q : Int → Hp → Prop} {h : Hp} {a1 : Int} : Ws E d mX8_init Q 110 [(2, 11), (0, a1)] [] h = Ws E d mX8_init Q 78 [(2, 11), (0, a1)] [] h := x_goto dX8_init_110 (by decide) rfl
theorem s_X8_init_e_105 {E : PvEnv} (hE : ∀ k, E 11 k = refT 11 k) {d : Nat} {Q : Int → Hp → Prop} {h : Hp} {a1 b0 : Int} : Ws E d mX8_init Q 105 [(2, 11), (0, a1)] [(0, b0), (2, 12)] h = Ws E d mX8_init Q 106 [(2, 11), (0, a1)] [(0, (-1)), (0, b0), (2, 12)] h := x_iconst dX8_init_105 (by decide)
theorem s_X8_init_e_113 {E : PvEnv} (hE : ∀ k, E 11 k = refT 11 k) {d : Nat} {Q : Int → Hp → Prop} {h : Hp} {a1 : Int} : Ws E d mX8_init Q 113 [(2, 11), (0, a1)] [] h = Ws E d mX8_init Q 114 [(2, 11), (0, a1)] [(2, 11)] h := x_aload_n dX8_init_113 rfl
theorem s_X8_init_e_114 {E : PvEnv} (hE : ∀ k, E 11 k = refT 11 k) {d : Nat} {Q : Int → Hp → Prop} {h : Hp} {a1 : Int} : Ws E d mX8_init Q 114 [(2, 11), (0, a1)] [(2, 11)] h = wpS E d mX8_paintAll [(2, 11)] h (fun r h' => Ws E d mX8_init Q 117 [(2, 11), (0, a1)] [] (h')) := x_cv dX8_init_114 cl_8_40 (by decide) rfl rfl rfl (Nat.le_of_ble_eq_true rfl) ⟨by decide, by decide⟩ rfl rfl sk_11
theorem s_X8_init_e_117 {E : PvEnv} (hE : ∀ k, E 11 k = refT 11 k) {d : Nat} {Q : Int → Hp → Prop} {h : Hp} {a1 : Int} : Ws E d mX8_init Q 117 [(2, 11), (0, a1)] [] h = Q 0 h := x_vret dX8_init_117 rfl
theorem b_X8_init_e_76 {E : PvEnv} (hE : ∀ k, E 11 k = refT 11 k) {d : Nat} {Q : Int → Hp → Prop} {h : Hp} : Ws E d mX8_init Q 76 [(2, 11), (9, 0)] [] h = Ws E d mX8_init Q 78 [(2, 11), (0, 0)] [] h := (s_X8_init_e_76 hE).trans (s_X8_init_e_77 hE)
theorem b_X8_init_e_78 {E : PvEnv} (hE : ∀ k, E 11 k = refT 11 k) {d : Nat} {Q : Int → Hp → Prop} {h : Hp} {a1 : Int} : Ws E d mX8_init Q 78 [(2, 11), (0, a1)] [] h = (if a1 < 336 then wpS E d mX8_layOut [(2, 11), (0, a1)] h (fun r1 h1 => (if a1 < 16 then ((0 ≤ a1 ∧ a1 < 336) ∧ Ws E d mX8_init Q 78 [(2, 11), (0, w32 (a1 + 1))] [] (hst h1 12 a1 0)) else ((0 ≤ a1 ∧ a1 < 336) ∧ Ws E d mX8_init Q 78 [(2, 11), (0, w32 (a1 + 1))] [] (hst h1 12 a1 (-1))))) else wpS E d mX8_paintAll [(2, 11)] h (fun r1 h1 => Q 0 h1)) := (s_X8_init_e_78 hE).trans ((s_X8_init_e_79 hE).trans ((s_X8_init_e_82 hE).trans (ite_c ((s_X8_init_e_85 hE).trans ((s_X8_init_e_86 hE).trans ((s_X8_init_e_87 hE).trans (call_c (fun r1 h1 => (s_X8_init_e_90 hE).trans ((s_X8_init_e_91 hE).trans ((s_X8_init_e_94 hE).trans ((s_X8_init_e_95 hE).trans ((s_X8_init_e_96 hE).trans ((s_X8_init_e_98 hE).trans (ite_c ((s_X8_init_e_101 hE).trans ((s_X8_init_e_102 hE).trans ((s_X8_init_e_106 hE).trans (and_c ((s_X8_init_e_107 hE).trans (s_X8_init_e_110 hE)))))) ((s_X8_init_e_105 hE).trans ((s_X8_init_e_106 hE).trans (and_c ((s_X8_init_e_107 hE).trans (s_X8_init_e_110 hE)))))))))))))))) ((s_X8_init_e_113 hE).trans ((s_X8_init_e_114 hE).trans (call_c (fun r1 h1 => s_X8_init_e_117 hE)))))))
theorem dX10_init_0 : decode cX10_init 0 = .ok (.aload_n 0, 1) := by decide +kernel
theorem dX10_init_1 : decode cX10_init 1 = .ok (.invokespecial 1, 3) := by decide +kernel
theorem dX10_init_4 : decode cX10_init 4 = .ok (.aload_n 0, 1) := by decide +kernel
theorem dX10_init_5 : decode cX10_init 5 = .ok (.bipush 6, 2) := by decide +kernel
theorem dX10_init_7 : decode cX10_init 7 = .ok (.newarray .int, 2) := by decide +kernel
theorem dX10_init_9 : decode cX10_init 9 = .ok (.putfield 7, 3) := by decide +kernel
theorem dX10_init_12 : decode cX10_init 12 = .ok (.aload_n 0, 1) := by decide +kernel
theorem dX10_init_13 : decode cX10_init 13 = .ok (.lconst 1, 1) := by decide +kernel
theorem dX10_init_14 : decode cX10_init 14 = .ok (.putfield 13, 3) := by decide +kernel
theorem dX10_init_17 : decode cX10_init 17 = .ok (.aload_n 0, 1) := by decide +kernel
theorem dX10_init_18 : decode cX10_init 18 = .ok (.bipush 6, 2) := by decide +kernel
theorem dX10_init_20 : decode cX10_init 20 = .ok (.newarray .int, 2) := by decide +kernel
theorem dX10_init_22 : decode cX10_init 22 = .ok (.putfield 17, 3) := by decide +kernel
theorem dX10_init_25 : decode cX10_init 25 = .ok (.aload_n 0, 1) := by decide +kernel
theorem dX10_init_26 : decode cX10_init 26 = .ok (.sipush 240, 3) := by decide +kernel
theorem dX10_init_29 : decode cX10_init 29 = .ok (.newarray .int, 2) := by decide +kernel
theorem dX10_init_31 : decode cX10_init 31 = .ok (.putfield 20, 3) := by decide +kernel
theorem dX10_init_34 : decode cX10_init 34 = .ok (.aload_n 0, 1) := by decide +kernel
theorem dX10_init_35 : decode cX10_init 35 = .ok (.bipush 40, 2) := by decide +kernel
theorem dX10_init_37 : decode cX10_init 37 = .ok (.newarray .int, 2) := by decide +kernel
theorem dX10_init_39 : decode cX10_init 39 = .ok (.putfield 23, 3) := by decide +kernel
theorem dX10_init_42 : decode cX10_init 42 = .ok (.aload_n 0, 1) := by decide +kernel
theorem dX10_init_43 : decode cX10_init 43 = .ok (.iconst 4, 1) := by decide +kernel
theorem dX10_init_44 : decode cX10_init 44 = .ok (.newarray .int, 2) := by decide +kernel
theorem dX10_init_46 : decode cX10_init 46 = .ok (.putfield 26, 3) := by decide +kernel
theorem dX10_init_49 : decode cX10_init 49 = .ok (.aload_n 0, 1) := by decide +kernel
theorem dX10_init_50 : decode cX10_init 50 = .ok (.sipush 160, 3) := by decide +kernel
theorem dX10_init_53 : decode cX10_init 53 = .ok (.newarray .int, 2) := by decide +kernel
theorem dX10_init_55 : decode cX10_init 55 = .ok (.putfield 29, 3) := by decide +kernel
theorem dX10_init_58 : decode cX10_init 58 = .ok (.aload_n 0, 1) := by decide +kernel
theorem dX10_init_59 : decode cX10_init 59 = .ok (.iconst 1, 1) := by decide +kernel
theorem dX10_init_60 : decode cX10_init 60 = .ok (.putfield 32, 3) := by decide +kernel
theorem dX10_init_63 : decode cX10_init 63 = .ok (.aload_n 0, 1) := by decide +kernel
theorem dX10_init_64 : decode cX10_init 64 = .ok (.bipush (-9), 2) := by decide +kernel
theorem dX10_init_66 : decode cX10_init 66 = .ok (.putfield 36, 3) := by decide +kernel
theorem dX10_init_69 : decode cX10_init 69 = .ok (.aload_n 0, 1) := by decide +kernel
theorem dX10_init_70 : decode cX10_init 70 = .ok (.bipush (-9), 2) := by decide +kernel
theorem dX10_init_72 : decode cX10_init 72 = .ok (.putfield 39, 3) := by decide +kernel
theorem dX10_init_75 : decode cX10_init 75 = .ok (.aload_n 0, 1) := by decide +kernel
theorem dX10_init_76 : decode cX10_init 76 = .ok (.sipush 336, 3) := by decide +kernel
theorem dX10_init_79 : decode cX10_init 79 = .ok (.newarray .boolean, 2) := by decide +kernel
theorem dX10_init_81 : decode cX10_init 81 = .ok (.putfield 42, 3) := by decide +kernel
theorem dX10_init_84 : decode cX10_init 84 = .ok (.aload_n 0, 1) := by decide +kernel
theorem dX10_init_85 : decode cX10_init 85 = .ok (.sipush 336, 3) := by decide +kernel
theorem dX10_init_88 : decode cX10_init 88 = .ok (.newarray .int, 2) := by decide +kernel
theorem dX10_init_90 : decode cX10_init 90 = .ok (.putfield 46, 3) := by decide +kernel
theorem dX10_init_93 : decode cX10_init 93 = .ok (.aload_n 0, 1) := by decide +kernel
theorem dX10_init_94 : decode cX10_init 94 = .ok (.sipush 336, 3) := by decide +kernel
theorem dX10_init_97 : decode cX10_init 97 = .ok (.newarray .int, 2) := by decide +kernel
theorem dX10_init_99 : decode cX10_init 99 = .ok (.putfield 49, 3) := by decide +kernel
theorem dX10_init_102 : decode cX10_init 102 = .ok (.aload_n 0, 1) := by decide +kernel
theorem dX10_init_103 : decode cX10_init 103 = .ok (.sipush 336, 3) := by decide +kernel
theorem dX10_init_106 : decode cX10_init 106 = .ok (.newarray .int, 2) := by decide +kernel
theorem dX10_init_108 : decode cX10_init 108 = .ok (.putfield 52, 3) := by decide +kernel
theorem dX10_init_111 : decode cX10_init 111 = .ok (.aload_n 0, 1) := by decide +kernel
theorem dX10_init_112 : decode cX10_init 112 = .ok (.sipush 336, 3) := by decide +kernel
theorem dX10_init_115 : decode cX10_init 115 = .ok (.newarray .int, 2) := by decide +kernel
theorem dX10_init_117 : decode cX10_init 117 = .ok (.putfield 55, 3) := by decide +kernel
theorem dX10_init_120 : decode cX10_init 120 = .ok (.aload_n 0, 1) := by decide +kernel
theorem dX10_init_121 : decode cX10_init 121 = .ok (.sipush 256, 3) := by decide +kernel
theorem dX10_init_124 : decode cX10_init 124 = .ok (.newarray .int, 2) := by decide +kernel
theorem dX10_init_126 : decode cX10_init 126 = .ok (.putfield 58, 3) := by decide +kernel
theorem dX10_init_129 : decode cX10_init 129 = .ok (.aload_n 0, 1) := by decide +kernel
theorem dX10_init_130 : decode cX10_init 130 = .ok (.bipush 16, 2) := by decide +kernel
theorem dX10_init_132 : decode cX10_init 132 = .ok (.newarray .int, 2) := by decide +kernel
theorem dX10_init_134 : decode cX10_init 134 = .ok (.putfield 61, 3) := by decide +kernel
theorem dX10_init_137 : decode cX10_init 137 = .ok (.aload_n 0, 1) := by decide +kernel
theorem dX10_init_138 : decode cX10_init 138 = .ok (.bipush 16, 2) := by decide +kernel
theorem dX10_init_140 : decode cX10_init 140 = .ok (.newarray .int, 2) := by decide +kernel
theorem dX10_init_142 : decode cX10_init 142 = .ok (.putfield 64, 3) := by decide +kernel
theorem dX10_init_145 : decode cX10_init 145 = .ok (.aload_n 0, 1) := by decide +kernel
theorem dX10_init_146 : decode cX10_init 146 = .ok (.sipush 1024, 3) := by decide +kernel
theorem dX10_init_149 : decode cX10_init 149 = .ok (.newarray .int, 2) := by decide +kernel
theorem dX10_init_151 : decode cX10_init 151 = .ok (.putfield 67, 3) := by decide +kernel
theorem dX10_init_154 : decode cX10_init 154 = .ok (.aload_n 0, 1) := by decide +kernel
theorem dX10_init_155 : decode cX10_init 155 = .ok (.sipush 1024, 3) := by decide +kernel
theorem dX10_init_158 : decode cX10_init 158 = .ok (.newarray .int, 2) := by decide +kernel
theorem dX10_init_160 : decode cX10_init 160 = .ok (.putfield 70, 3) := by decide +kernel
theorem dX10_init_163 : decode cX10_init 163 = .ok (.aload_n 0, 1) := by decide +kernel
theorem dX10_init_164 : decode cX10_init 164 = .ok (.sipush 1024, 3) := by decide +kernel
theorem dX10_init_167 : decode cX10_init 167 = .ok (.newarray .int, 2) := by decide +kernel
theorem dX10_init_169 : decode cX10_init 169 = .ok (.putfield 73, 3) := by decide +kernel
theorem dX10_init_172 : decode cX10_init 172 = .ok (.aload_n 0, 1) := by decide +kernel
theorem dX10_init_173 : decode cX10_init 173 = .ok (.sipush 1024, 3) := by decide +kernel
theorem dX10_init_176 : decode cX10_init 176 = .ok (.newarray .int, 2) := by decide +kernel
theorem dX10_init_178 : decode cX10_init 178 = .ok (.putfield 76, 3) := by decide +kernel
theorem dX10_init_181 : decode cX10_init 181 = .ok (.aload_n 0, 1) := by decide +kernel
theorem dX10_init_182 : decode cX10_init 182 = .ok (.sipush 1024, 3) := by decide +kernel
theorem dX10_init_185 : decode cX10_init 185 = .ok (.newarray .int, 2) := by decide +kernel
theorem dX10_init_187 : decode cX10_init 187 = .ok (.putfield 79, 3) := by decide +kernel
theorem dX10_init_190 : decode cX10_init 190 = .ok (.aload_n 0, 1) := by decide +kernel
theorem dX10_init_191 : decode cX10_init 191 = .ok (.sipush 1024, 3) := by decide +kernel
theorem dX10_init_194 : decode cX10_init 194 = .ok (.newarray .int, 2) := by decide +kernel
theorem dX10_init_196 : decode cX10_init 196 = .ok (.putfield 82, 3) := by decide +kernel
theorem dX10_init_199 : decode cX10_init 199 = .ok (.aload_n 0, 1) := by decide +kernel
theorem dX10_init_200 : decode cX10_init 200 = .ok (.sipush 336, 3) := by decide +kernel
theorem dX10_init_203 : decode cX10_init 203 = .ok (.newarray .int, 2) := by decide +kernel
theorem dX10_init_205 : decode cX10_init 205 = .ok (.putfield 85, 3) := by decide +kernel
theorem dX10_init_208 : decode cX10_init 208 = .ok (.aload_n 0, 1) := by decide +kernel
theorem dX10_init_209 : decode cX10_init 209 = .ok (.sipush 336, 3) := by decide +kernel
theorem dX10_init_212 : decode cX10_init 212 = .ok (.newarray .int, 2) := by decide +kernel
theorem dX10_init_214 : decode cX10_init 214 = .ok (.putfield 88, 3) := by decide +kernel
theorem dX10_init_217 : decode cX10_init 217 = .ok (.aload_n 0, 1) := by decide +kernel
theorem dX10_init_218 : decode cX10_init 218 = .ok (.sipush 336, 3) := by decide +kernel
theorem dX10_init_221 : decode cX10_init 221 = .ok (.newarray .boolean, 2) := by decide +kernel
theorem dX10_init_223 : decode cX10_init 223 = .ok (.putfield 91, 3) := by decide +kernel
theorem dX10_init_226 : decode cX10_init 226 = .ok (.aload_n 0, 1) := by decide +kernel
theorem dX10_init_227 : decode cX10_init 227 = .ok (.bipush 6, 2) := by decide +kernel
theorem dX10_init_229 : decode cX10_init 229 = .ok (.newarray .int, 2) := by decide +kernel
theorem dX10_init_231 : decode cX10_init 231 = .ok (.putfield 94, 3) := by decide +kernel
theorem dX10_init_234 : decode cX10_init 234 = .ok (.aload_n 0, 1) := by decide +kernel
theorem dX10_init_235 : decode cX10_init 235 = .ok (.sipush 256, 3) := by decide +kernel
theorem dX10_init_238 : decode cX10_init 238 = .ok (.newarray .int, 2) := by decide +kernel
theorem dX10_init_240 : decode cX10_init 240 = .ok (.putfield 97, 3) := by decide +kernel
theorem dX10_init_243 : decode cX10_init 243 = .ok (.aload_n 0, 1) := by decide +kernel
theorem dX10_init_244 : decode cX10_init 244 = .ok (.bipush 6, 2) := by decide +kernel
theorem dX10_init_246 : decode cX10_init 246 = .ok (.newarray .int, 2) := by decide +kernel
theorem dX10_init_248 : decode cX10_init 248 = .ok (.putfield 100, 3) := by decide +kernel
theorem dX10_init_251 : decode cX10_init 251 = .ok (.aload_n 0, 1) := by decide +kernel
theorem dX10_init_252 : decode cX10_init 252 = .ok (.bipush 6, 2) := by decide +kernel
theorem dX10_init_254 : decode cX10_init 254 = .ok (.newarray .int, 2) := by decide +kernel
theorem dX10_init_256 : decode cX10_init 256 = .ok (.putfield 103, 3) := by decide +kernel
theorem dX10_init_259 : decode cX10_init 259 = .ok (.aload_n 0, 1) := by decide +kernel
theorem dX10_init_260 : decode cX10_init 260 = .ok (.bipush 6, 2) := by decide +kernel
theorem dX10_init_262 : decode cX10_init 262 = .ok (.newarray .int, 2) := by decide +kernel
theorem dX10_init_264 : decode cX10_init 264 = .ok (.putfield 106, 3) := by decide +kernel
theorem dX10_init_267 : decode cX10_init 267 = .ok (.aload_n 0, 1) := by decide +kernel
theorem dX10_init_268 : decode cX10_init 268 = .ok (.bipush 6, 2) := by decide +kernel
theorem dX10_init_270 : decode cX10_init 270 = .ok (.newarray .int, 2) := by decide +kernel
theorem dX10_init_272 : decode cX10_init 272 = .ok (.putfield 109, 3) := by decide +kernel
theorem dX10_init_275 : decode cX10_init 275 = .ok (.aload_n 0, 1) := by decide +kernel
theorem dX10_init_276 : decode cX10_init 276 = .ok (.bipush 36, 2) := by decide +kernel
theorem dX10_init_278 : decode cX10_init 278 = .ok (.newarray .boolean, 2) := by decide +kernel
theorem dX10_init_280 : decode cX10_init 280 = .ok (.putfield 112, 3) := by decide +kernel
theorem dX10_init_283 : decode cX10_init 283 = .ok (.aload_n 0, 1) := by decide +kernel
theorem dX10_init_284 : decode cX10_init 284 = .ok (.iconst 2, 1) := by decide +kernel
theorem dX10_init_285 : decode cX10_init 285 = .ok (.newarray .boolean, 2) := by decide +kernel
theorem dX10_init_287 : decode cX10_init 287 = .ok (.putfield 115, 3) := by decide +kernel
theorem dX10_init_290 : decode cX10_init 290 = .ok (.aload_n 0, 1) := by decide +kernel
theorem dX10_init_291 : decode cX10_init 291 = .ok (.sipush 672, 3) := by decide +kernel
theorem dX10_init_294 : decode cX10_init 294 = .ok (.newarray .boolean, 2) := by decide +kernel
theorem dX10_init_296 : decode cX10_init 296 = .ok (.putfield 118, 3) := by decide +kernel
theorem dX10_init_299 : decode cX10_init 299 = .ok (.aload_n 0, 1) := by decide +kernel
theorem dX10_init_300 : decode cX10_init 300 = .ok (.sipush 672, 3) := by decide +kernel
theorem dX10_init_303 : decode cX10_init 303 = .ok (.newarray .int, 2) := by decide +kernel
theorem dX10_init_305 : decode cX10_init 305 = .ok (.putfield 121, 3) := by decide +kernel
theorem dX10_init_308 : decode cX10_init 308 = .ok (.aload_n 0, 1) := by decide +kernel
theorem dX10_init_309 : decode cX10_init 309 = .ok (.sipush 672, 3) := by decide +kernel
theorem dX10_init_312 : decode cX10_init 312 = .ok (.newarray .int, 2) := by decide +kernel
theorem dX10_init_314 : decode cX10_init 314 = .ok (.putfield 124, 3) := by decide +kernel
theorem dX10_init_317 : decode cX10_init 317 = .ok (.aload_n 0, 1) := by decide +kernel
theorem dX10_init_318 : decode cX10_init 318 = .ok (.sipush 672, 3) := by decide +kernel
theorem dX10_init_321 : decode cX10_init 321 = .ok (.newarray .int, 2) := by decide +kernel
theorem dX10_init_323 : decode cX10_init 323 = .ok (.putfield 127, 3) := by decide +kernel
theorem dX10_init_326 : decode cX10_init 326 = .ok (.aload_n 0, 1) := by decide +kernel
theorem dX10_init_327 : decode cX10_init 327 = .ok (.iconst 2, 1) := by decide +kernel
theorem dX10_init_328 : decode cX10_init 328 = .ok (.newarray .int, 2) := by decide +kernel
theorem dX10_init_330 : decode cX10_init 330 = .ok (.putfield 130, 3) := by decide +kernel
theorem dX10_init_333 : decode cX10_init 333 = .ok (.aload_n 0, 1) := by decide +kernel
theorem dX10_init_334 : decode cX10_init 334 = .ok (.sipush 336, 3) := by decide +kernel
theorem dX10_init_337 : decode cX10_init 337 = .ok (.newarray .long, 2) := by decide +kernel
theorem dX10_init_339 : decode cX10_init 339 = .ok (.putfield 133, 3) := by decide +kernel
theorem dX10_init_342 : decode cX10_init 342 = .ok (.aload_n 0, 1) := by decide +kernel
theorem dX10_init_343 : decode cX10_init 343 = .ok (.sipush 336, 3) := by decide +kernel
theorem dX10_init_346 : decode cX10_init 346 = .ok (.newarray .long, 2) := by decide +kernel
theorem dX10_init_348 : decode cX10_init 348 = .ok (.putfield 137, 3) := by decide +kernel
theorem dX10_init_351 : decode cX10_init 351 = .ok (.iconst 0, 1) := by decide +kernel
theorem dX10_init_352 : decode cX10_init 352 = .ok (.istore_n 1, 1) := by decide +kernel
theorem dX10_init_353 : decode cX10_init 353 = .ok (.iload_n 1, 1) := by decide +kernel
theorem dX10_init_354 : decode cX10_init 354 = .ok (.bipush 6, 2) := by decide +kernel
theorem dX10_init_356 : decode cX10_init 356 = .ok (.if_icmp .ge 17, 3) := by decide +kernel
theorem dX10_init_359 : decode cX10_init 359 = .ok (.aload_n 0, 1) := by decide +kernel
theorem dX10_init_360 : decode cX10_init 360 = .ok (.getfield 17, 3) := by decide +kernel
theorem dX10_init_363 : decode cX10_init 363 = .ok (.iload_n 1, 1) := by decide +kernel
theorem dX10_init_364 : decode cX10_init 364 = .ok (.bipush (-9), 2) := by decide +kernel
theorem dX10_init_366 : decode cX10_init 366 = .ok (.iastore, 1) := by decide +kernel
theorem dX10_init_367 : decode cX10_init 367 = .ok (.iinc 1 1, 3) := by decide +kernel
theorem dX10_init_370 : decode cX10_init 370 = .ok (.goto (-17), 3) := by decide +kernel
theorem dX10_init_373 : decode cX10_init 373 = .ok (.iconst 0, 1) := by decide +kernel
theorem dX10_init_374 : decode cX10_init 374 = .ok (.istore_n 1, 1) := by decide +kernel
theorem dX10_init_375 : decode cX10_init 375 = .ok (.iload_n 1, 1) := by decide +kernel
theorem dX10_init_376 : decode cX10_init 376 = .ok (.iconst 4, 1) := by decide +kernel
theorem dX10_init_377 : decode cX10_init 377 = .ok (.if_icmp .ge 17, 3) := by decide +kernel
theorem dX10_init_380 : decode cX10_init 380 = .ok (.aload_n 0, 1) := by decide +kernel
theorem dX10_init_381 : decode cX10_init 381 = .ok (.getfield 26, 3) := by decide +kernel
theorem dX10_init_384 : decode cX10_init 384 = .ok (.iload_n 1, 1) := by decide +kernel
theorem dX10_init_385 : decode cX10_init 385 = .ok (.bipush (-9), 2) := by decide +kernel
theorem dX10_init_387 : decode cX10_init 387 = .ok (.iastore, 1) := by decide +kernel
theorem dX10_init_388 : decode cX10_init 388 = .ok (.iinc 1 1, 3) := by decide +kernel
theorem dX10_init_391 : decode cX10_init 391 = .ok (.goto (-16), 3) := by decide +kernel
theorem dX10_init_394 : decode cX10_init 394 = .ok (.iconst 0, 1) := by decide +kernel
theorem dX10_init_395 : decode cX10_init 395 = .ok (.istore_n 1, 1) := by decide +kernel
theorem dX10_init_396 : decode cX10_init 396 = .ok (.iload_n 1, 1) := by decide +kernel
theorem dX10_init_397 : decode cX10_init 397 = .ok (.bipush 16, 2) := by decide +kernel
theorem dX10_init_399 : decode cX10_init 399 = .ok (.if_icmp .ge 16, 3) := by decide +kernel
theorem dX10_init_402 : decode cX10_init 402 = .ok (.aload_n 0, 1) := by decide +kernel
theorem dX10_init_403 : decode cX10_init 403 = .ok (.iload_n 1, 1) := by decide +kernel
theorem dX10_init_404 : decode cX10_init 404 = .ok (.iconst 0, 1) := by decide +kernel
theorem dX10_init_405 : decode cX10_init 405 = .ok (.iconst 0, 1) := by decide +kernel
theorem dX10_init_406 : decode cX10_init 406 = .ok (.invokevirtual 140, 3) := by decide +kernel
theorem dX10_init_409 : decode cX10_init 409 = .ok (.iinc 1 1, 3) := by decide +kernel
theorem dX10_init_412 : decode cX10_init 412 = .ok (.goto (-16), 3) := by decide +kernel
theorem dX10_init_415 : decode cX10_init 415 = .ok (.iconst 0, 1) := by decide +kernel
theorem dX10_init_416 : decode cX10_init 416 = .ok (.istore_n 1, 1) := by decide +kernel
theorem dX10_init_417 : decode cX10_init 417 = .ok (.iload_n 1, 1) := by decide +kernel
theorem dX10_init_418 : decode cX10_init 418 = .ok (.bipush 6, 2) := by decide +kernel
theorem dX10_init_420 : decode cX10_init 420 = .ok (.if_icmp .ge 17, 3) := by decide +kernel
theorem dX10_init_423 : decode cX10_init 423 = .ok (.aload_n 0, 1) := by decide +kernel
theorem dX10_init_424 : decode cX10_init 424 = .ok (.getfield 106, 3) := by decide +kernel
theorem dX10_init_427 : decode cX10_init 427 = .ok (.iload_n 1, 1) := by decide +kernel
theorem dX10_init_428 : decode cX10_init 428 = .ok (.bipush (-9), 2) := by decide +kernel
theorem dX10_init_430 : decode cX10_init 430 = .ok (.iastore, 1) := by decide +kernel
theorem dX10_init_431 : decode cX10_init 431 = .ok (.iinc 1 1, 3) := by decide +kernel
theorem dX10_init_434 : decode cX10_init 434 = .ok (.goto (-17), 3) := by decide +kernel
theorem dX10_init_437 : decode cX10_init 437 = .ok (.return_, 1) := by decide +kernel
theorem s_X10_init_e_351 {E : PvEnv} (hE : ∀ k, E 50 k = refT 50 k) {d : Nat} {Q : Int → Hp → Prop} {h : Hp} : Ws E d mX10_init Q 351 [(2, 50), (9, 0)] [] h = Ws E d mX10_init Q 352 [(2, 50), (9, 0)] [(0, 0)] h := x_iconst dX10_init_351 (by decide)
theorem s_X10_init_e_352 {E : PvEnv} (hE : ∀ k, E 50 k = refT 50 k) {d : Nat} {Q : Int → Hp → Prop} {h : Hp} {b0 : Int} : Ws E d mX10_init Q 352 [(2, 50), (9, 0)] [(0, b0)] h = Ws E d mX10_init Q 353 [(2, 50), (0, b0)] [] h := x_istore_n dX10_init_352 rfl
theorem s_X10_init_e_353 {E : PvEnv} (hE : ∀ k, E 50 k = refT 50 k) {d : Nat} {Q : Int → Hp → Prop} {h : Hp} {a1 : Int} : Ws E d mX10_init Q 353 [(2, 50), (0, a1)] [] h = Ws E d mX10_init Q 354 [(2, 50), (0, a1)] [(0, a1)] h := x_iload_n dX10_init_353 rfl
theorem s_X10_init_e_354 {E : PvEnv} (hE : ∀ k, E 50 k = refT 50 k) {d : Nat} {Q : Int → Hp → Prop} {h : Hp} {a1 b0 : Int} : Ws E d mX10_init Q 354 [(2, 50), (0, a1)] [(0, b0)] h = Ws E d mX10_init Q 356 [(2, 50), (0, a1)] [(0, 6), (0, b0)] h := x_bipush dX10_init_354 (by decide)
theorem s_X10_init_e_356 {E : PvEnv} (hE : ∀ k, E 50 k = refT 50 k) {d : Nat} {Q : Int → Hp → Prop} {h : Hp} {a1 b0 b1 : Int} : Ws E d mX10_init Q 356 [(2, 50), (0, a1)] [(0, b0), (0, b1)] h = (if b1 < b0 then Ws E d mX10_init Q 359 [(2, 50), (0, a1)] [] h else Ws E d mX10_init Q 373 [(2, 50), (0, a1)] [] h) := x_icmp_ge dX10_init_356 (by decide) rfl
theorem s_X10_init_e_359 {E : PvEnv} (hE : ∀ k, E 50 k = refT 50 k) {d : Nat} {Q : Int → Hp → Prop} {h : Hp} {a1 : Int} : Ws E d mX10_init Q 359 [(2, 50), (0, a1)] [] h = Ws E d mX10_init Q 360 [(2, 50), (0, a1)] [(2, 50)] h := x_aload_n dX10_init_359 rfl
theorem s_X10_init_e_360 {E : PvEnv} (hE : ∀ k, E 50 k = refT 50 k) {d : Nat} {Q : Int → Hp → Prop} {h : Hp} {a1 : Int} : Ws E d mX10_init Q 360 [(2, 50), (0, a1)] [(2, 50)] h = Ws E d mX10_init Q 363 [(2, 50), (0, a1)] [(2, 52)] h := x_getR dX10_init_360 fl_10_17 sk_50 ((hE 5).trans rt_50_5) (by decide)
theorem s_X10_init_e_363 {E : PvEnv} (hE : ∀ k, E 50 k = refT 50 k) {d : Nat} {Q : Int → Hp → Prop} {h : Hp} {a1 : Int} : Ws E d mX10_init Q 363 [(2, 50), (0, a1)] [(2, 52)] h = Ws E d mX10_init Q 364 [(2, 50), (0, a1)] [(0, a1), (2, 52)] h := x_iload_n dX10_init_363 rfl
theorem s_X10_init_e_364 {E : PvEnv} (hE : ∀ k, E 50 k = refT 50 k) {d : Nat} {Q : Int → Hp → Prop} {h : Hp} {a1 b0 : Int} : Ws E d mX10_init Q 364 [(2, 50), (0, a1)] [(0, b0), (2, 52)] h = Ws E d mX10_init Q 366 [(2, 50), (0, a1)] [(0, (-9)), (0, b0), (2, 52)] h := x_bipush dX10_init_364 (by decide)
theorem s_X10_init_e_366 {E : PvEnv} (hE : ∀ k, E 50 k = refT 50 k) {d : Nat} {Q : Int → Hp → Prop} {h : Hp} {a1 b0 b1 : Int} : Ws E d mX10_init Q 366 [(2, 50), (0, a1)] [(0, b0), (0, b1), (2, 52)] h = ((0 ≤ b1 ∧ b1 < 6) ∧ Ws E d mX10_init Q 367 [(2, 50), (0, a1)] [] (hst h 52 b1 b0)) := x_iast dX10_init_366 sk_52 (by decide) (al_52 E)
theorem s_X10_init_e_367 {E : PvEnv} (hE : ∀ k, E 50 k = refT 50 k) {d : Nat} {Q : Int → Hp → Prop} {h : Hp} {a1 : Int} : Ws E d mX10_init Q 367 [(2, 50), (0, a1)] [] h = Ws E d mX10_init Q 370 [(2, 50), (0, w32 (a1 + 1))] [] h := x_iinc dX10_init_367 rfl rfl
theorem s_X10_init_e_370 {E : PvEnv} (hE : ∀ k, E 50 k = refT 50 k) {d : Nat} {Q : Int → Hp → Prop} {h : Hp} {a1 : Int} : Ws E d mX10_init Q 370 [(2, 50), (0, a1)] [] h = Ws E d mX10_init Q 353 [(2, 50), (0, a1)] [] h := x_goto dX10_init_370 (by decide) rfl
theorem s_X10_init_e_373 {E : PvEnv} (hE : ∀ k, E 50 k = refT 50 k) {d : Nat} {Q : Int → Hp → Prop} {h : Hp} {a1 : Int} : Ws E d mX10_init Q 373 [(2, 50), (0, a1)] [] h = Ws E d mX10_init Q 374 [(2, 50), (0, a1)] [(0, 0)] h := x_iconst dX10_init_373 (by decide)
theorem s_X10_init_e_374 {E : PvEnv} (hE : ∀ k, E 50 k = refT 50 k) {d : Nat} {Q : Int → Hp → Prop} {h : Hp} {a1 b0 : Int} : Ws E d mX10_init Q 374 [(2, 50), (0, a1)] [(0, b0)] h = Ws E d mX10_init Q 375 [(2, 50), (0, b0)] [] h := x_istore_n dX10_init_374 rfl
theorem s_X10_init_e_375 {E : PvEnv} (hE : ∀ k, E 50 k = refT 50 k) {d : Nat} {Q : Int → Hp → Prop} {h : Hp} {a1 : Int} : Ws E d mX10_init Q 375 [(2, 50), (0, a1)] [] h = Ws E d mX10_init Q 376 [(2, 50), (0, a1)] [(0, a1)] h := x_iload_n dX10_init_375 rfl
theorem s_X10_init_e_376 {E : PvEnv} (hE : ∀ k, E 50 k = refT 50 k) {d : Nat} {Q : Int → Hp → Prop} {h : Hp} {a1 b0 : Int} : Ws E d mX10_init Q 376 [(2, 50), (0, a1)] [(0, b0)] h = Ws E d mX10_init Q 377 [(2, 50), (0, a1)] [(0, 4), (0, b0)] h := x_iconst dX10_init_376 (by decide)
theorem s_X10_init_e_377 {E : PvEnv} (hE : ∀ k, E 50 k = refT 50 k) {d : Nat} {Q : Int → Hp → Prop} {h : Hp} {a1 b0 b1 : Int} : Ws E d mX10_init Q 377 [(2, 50), (0, a1)] [(0, b0), (0, b1)] h = (if b1 < b0 then Ws E d mX10_init Q 380 [(2, 50), (0, a1)] [] h else Ws E d mX10_init Q 394 [(2, 50), (0, a1)] [] h) := x_icmp_ge dX10_init_377 (by decide) rfl
theorem s_X10_init_e_380 {E : PvEnv} (hE : ∀ k, E 50 k = refT 50 k) {d : Nat} {Q : Int → Hp → Prop} {h : Hp} {a1 : Int} : Ws E d mX10_init Q 380 [(2, 50), (0, a1)] [] h = Ws E d mX10_init Q 381 [(2, 50), (0, a1)] [(2, 50)] h := x_aload_n dX10_init_380 rfl
theorem s_X10_init_e_381 {E : PvEnv} (hE : ∀ k, E 50 k = refT 50 k) {d : Nat} {Q : Int → Hp → Prop} {h : Hp} {a1 : Int} : Ws E d mX10_init Q 381 [(2, 50), (0, a1)] [(2, 50)] h = Ws E d mX10_init Q 384 [(2, 50), (0, a1)] [(2, 55)] h := x_getR dX10_init_381 fl_10_26 sk_50 ((hE 8).trans rt_50_8) (by decide)
theorem s_X10_init_e_384 {E : PvEnv} (hE : ∀ k, E 50 k = refT 50 k) {d : Nat} {Q : Int → Hp → Prop} {h : Hp} {a1 : Int} : Ws E d mX10_init Q 384 [(2, 50), (0, a1)] [(2, 55)] h = Ws E d mX10_init Q 385 [(2, 50), (0, a1)] [(0, a1), (2, 55)] h := x_iload_n dX10_init_384 rfl
theorem s_X10_init_e_385 {E : PvEnv} (hE : ∀ k, E 50 k = refT 50 k) {d : Nat} {Q : Int → Hp → Prop} {h : Hp} {a1 b0 : Int} : Ws E d mX10_init Q 385 [(2, 50), (0, a1)] [(0, b0), (2, 55)] h = Ws E d mX10_init Q 387 [(2, 50), (0, a1)] [(0, (-9)), (0, b0), (2, 55)] h := x_bipush dX10_init_385 (by decide)
theorem s_X10_init_e_387 {E : PvEnv} (hE : ∀ k, E 50 k = refT 50 k) {d : Nat} {Q : Int → Hp → Prop} {h : Hp} {a1 b0 b1 : Int} : Ws E d mX10_init Q 387 [(2, 50), (0, a1)] [(0, b0), (0, b1), (2, 55)] h = ((0 ≤ b1 ∧ b1 < 4) ∧ Ws E d mX10_init Q 388 [(2, 50), (0, a1)] [] (hst h 55 b1 b0)) := x_iast dX10_init_387 sk_55 (by decide) (al_55 E)
theorem s_X10_init_e_388 {E : PvEnv} (hE : ∀ k, E 50 k = refT 50 k) {d : Nat} {Q : Int → Hp → Prop} {h : Hp} {a1 : Int} : Ws E d mX10_init Q 388 [(2, 50), (0, a1)] [] h = Ws E d mX10_init Q 391 [(2, 50), (0, w32 (a1 + 1))] [] h := x_iinc dX10_init_388 rfl rfl
theorem s_X10_init_e_391 {E : PvEnv} (hE : ∀ k, E 50 k = refT 50 k) {d : Nat} {Q : Int → Hp → Prop} {h : Hp} {a1 : Int} : Ws E d mX10_init Q 391 [(2, 50), (0, a1)] [] h = Ws E d mX10_init Q 375 [(2, 50), (0, a1)] [] h := x_goto dX10_init_391 (by decide) rfl
theorem s_X10_init_e_394 {E : PvEnv} (hE : ∀ k, E 50 k = refT 50 k) {d : Nat} {Q : Int → Hp → Prop} {h : Hp} {a1 : Int} : Ws E d mX10_init Q 394 [(2, 50), (0, a1)] [] h = Ws E d mX10_init Q 395 [(2, 50), (0, a1)] [(0, 0)] h := x_iconst dX10_init_394 (by decide)
theorem s_X10_init_e_395 {E : PvEnv} (hE : ∀ k, E 50 k = refT 50 k) {d : Nat} {Q : Int → Hp → Prop} {h : Hp} {a1 b0 : Int} : Ws E d mX10_init Q 395 [(2, 50), (0, a1)] [(0, b0)] h = Ws E d mX10_init Q 396 [(2, 50), (0, b0)] [] h := x_istore_n dX10_init_395 rfl
theorem s_X10_init_e_396 {E : PvEnv} (hE : ∀ k, E 50 k = refT 50 k) {d : Nat} {Q : Int → Hp → Prop} {h : Hp} {a1 : Int} : Ws E d mX10_init Q 396 [(2, 50), (0, a1)] [] h = Ws E d mX10_init Q 397 [(2, 50), (0, a1)] [(0, a1)] h := x_iload_n dX10_init_396 rfl
theorem s_X10_init_e_397 {E : PvEnv} (hE : ∀ k, E 50 k = refT 50 k) {d : Nat} {Q : Int → Hp → Prop} {h : Hp} {a1 b0 : Int} : Ws E d mX10_init Q 397 [(2, 50), (0, a1)] [(0, b0)] h = Ws E d mX10_init Q 399 [(2, 50), (0, a1)] [(0, 16), (0, b0)] h := x_bipush dX10_init_397 (by decide)
theorem s_X10_init_e_399 {E : PvEnv} (hE : ∀ k, E 50 k = refT 50 k) {d : Nat} {Q : Int → Hp → Prop} {h : Hp} {a1 b0 b1 : Int} : Ws E d mX10_init Q 399 [(2, 50), (0, a1)] [(0, b0), (0, b1)] h = (if b1 < b0 then Ws E d mX10_init Q 402 [(2, 50), (0, a1)] [] h else Ws E d mX10_init Q 415 [(2, 50), (0, a1)] [] h) := x_icmp_ge dX10_init_399 (by decide) rfl
theorem s_X10_init_e_402 {E : PvEnv} (hE : ∀ k, E 50 k = refT 50 k) {d : Nat} {Q : Int → Hp → Prop} {h : Hp} {a1 : Int} : Ws E d mX10_init Q 402 [(2, 50), (0, a1)] [] h = Ws E d mX10_init Q 403 [(2, 50), (0, a1)] [(2, 50)] h := x_aload_n dX10_init_402 rfl
theorem s_X10_init_e_403 {E : PvEnv} (hE : ∀ k, E 50 k = refT 50 k) {d : Nat} {Q : Int → Hp → Prop} {h : Hp} {a1 : Int} : Ws E d mX10_init Q 403 [(2, 50), (0, a1)] [(2, 50)] h = Ws E d mX10_init Q 404 [(2, 50), (0, a1)] [(0, a1), (2, 50)] h := x_iload_n dX10_init_403 rfl
theorem s_X10_init_e_404 {E : PvEnv} (hE : ∀ k, E 50 k = refT 50 k) {d : Nat} {Q : Int → Hp → Prop} {h : Hp} {a1 b0 : Int} : Ws E d mX10_init Q 404 [(2, 50), (0, a1)] [(0, b0), (2, 50)] h = Ws E d mX10_init Q 405 [(2, 50), (0, a1)] [(0, 0), (0, b0), (2, 50)] h := x_iconst dX10_init_404 (by decide)
theorem s_X10_init_e_405 {E : PvEnv} (hE : ∀ k, E 50 k = refT 50 k) {d : Nat} {Q : Int → Hp → Prop} {h : Hp} {a1 b0 b1 : Int} : Ws E d mX10_init Q 405 [(2, 50), (0, a1)] [(0, b0), (0, b1), (2, 50)] h = Ws E d mX10_init Q 406 [(2, 50), (0, a1)] [(0, 0), (0, b0), (0, b1), (2, 50)] h := x_iconst dX10_init_405 (by decide)
theorem s_X10_init_e_406 {E : PvEnv} (hE : ∀ k, E 50 k = refT 50 k) {d : Nat} {Q : Int → Hp → Prop} {h : Hp} {a1 b0 b1 b2 : Int} : Ws E d mX10_init Q 406 [(2, 50), (0, a1)] [(0, b0), (0, b1), (0, b2), (2, 50)] h = wpS E d mX10_come [(2, 50), (0, b2), (0, b1), (0, b0)] h (fun r h' => Ws E d mX10_init Q 409 [(2, 50), (0, a1)] [] (h')) := x_cv dX10_init_406 cl_10_140 (by decide) rfl rfl rfl (Nat.le_of_ble_eq_true rfl) ⟨by decide, by decide⟩ rfl rfl sk_50
theorem s_X10_init_e_409 {E : PvEnv} (hE : ∀ k, E 50 k = refT 50 k) {d : Nat} {Q : Int → Hp → Prop} {h : Hp} {a1 : Int} : Ws E d mX10_init Q 409 [(2, 50), (0, a1)] [] h = Ws E d mX10_init Q 412 [(2, 50), (0, w32 (a1 + 1))] [] h := x_iinc dX10_init_409 rfl rfl
theorem s_X10_init_e_412 {E : PvEnv} (hE : ∀ k, E 50 k = refT 50 k) {d : Nat} {Q : Int → Hp → Prop} {h : Hp} {a1 : Int} : Ws E d mX10_init Q 412 [(2, 50), (0, a1)] [] h = Ws E d mX10_init Q 396 [(2, 50), (0, a1)] [] h := x_goto dX10_init_412 (by decide) rfl
theorem s_X10_init_e_415 {E : PvEnv} (hE : ∀ k, E 50 k = refT 50 k) {d : Nat} {Q : Int → Hp → Prop} {h : Hp} {a1 : Int} : Ws E d mX10_init Q 415 [(2, 50), (0, a1)] [] h = Ws E d mX10_init Q 416 [(2, 50), (0, a1)] [(0, 0)] h := x_iconst dX10_init_415 (by decide)
theorem s_X10_init_e_416 {E : PvEnv} (hE : ∀ k, E 50 k = refT 50 k) {d : Nat} {Q : Int → Hp → Prop} {h : Hp} {a1 b0 : Int} : Ws E d mX10_init Q 416 [(2, 50), (0, a1)] [(0, b0)] h = Ws E d mX10_init Q 417 [(2, 50), (0, b0)] [] h := x_istore_n dX10_init_416 rfl
theorem s_X10_init_e_417 {E : PvEnv} (hE : ∀ k, E 50 k = refT 50 k) {d : Nat} {Q : Int → Hp → Prop} {h : Hp} {a1 : Int} : Ws E d mX10_init Q 417 [(2, 50), (0, a1)] [] h = Ws E d mX10_init Q 418 [(2, 50), (0, a1)] [(0, a1)] h := x_iload_n dX10_init_417 rfl
theorem s_X10_init_e_418 {E : PvEnv} (hE : ∀ k, E 50 k = refT 50 k) {d : Nat} {Q : Int → Hp → Prop} {h : Hp} {a1 b0 : Int} : Ws E d mX10_init Q 418 [(2, 50), (0, a1)] [(0, b0)] h = Ws E d mX10_init Q 420 [(2, 50), (0, a1)] [(0, 6), (0, b0)] h := x_bipush dX10_init_418 (by decide)
theorem s_X10_init_e_420 {E : PvEnv} (hE : ∀ k, E 50 k = refT 50 k) {d : Nat} {Q : Int → Hp → Prop} {h : Hp} {a1 b0 b1 : Int} : Ws E d mX10_init Q 420 [(2, 50), (0, a1)] [(0, b0), (0, b1)] h = (if b1 < b0 then Ws E d mX10_init Q 423 [(2, 50), (0, a1)] [] h else Ws E d mX10_init Q 437 [(2, 50), (0, a1)] [] h) := x_icmp_ge dX10_init_420 (by decide) rfl
theorem s_X10_init_e_423 {E : PvEnv} (hE : ∀ k, E 50 k = refT 50 k) {d : Nat} {Q : Int → Hp → Prop} {h : Hp} {a1 : Int} : Ws E d mX10_init Q 423 [(2, 50), (0, a1)] [] h = Ws E d mX10_init Q 424 [(2, 50), (0, a1)] [(2, 50)] h := x_aload_n dX10_init_423 rfl
theorem s_X10_init_e_424 {E : PvEnv} (hE : ∀ k, E 50 k = refT 50 k) {d : Nat} {Q : Int → Hp → Prop} {h : Hp} {a1 : Int} : Ws E d mX10_init Q 424 [(2, 50), (0, a1)] [(2, 50)] h = Ws E d mX10_init Q 427 [(2, 50), (0, a1)] [(2, 78)] h := x_getR dX10_init_424 fl_10_106 sk_50 ((hE 51).trans rt_50_51) (by decide)
theorem s_X10_init_e_427 {E : PvEnv} (hE : ∀ k, E 50 k = refT 50 k) {d : Nat} {Q : Int → Hp → Prop} {h : Hp} {a1 : Int} : Ws E d mX10_init Q 427 [(2, 50), (0, a1)] [(2, 78)] h = Ws E d mX10_init Q 428 [(2, 50), (0, a1)] [(0, a1), (2, 78)] h := x_iload_n dX10_init_427 rfl
theorem s_X10_init_e_428 {E : PvEnv} (hE : ∀ k, E 50 k = refT 50 k) {d : Nat} {Q : Int → Hp → Prop} {h : Hp} {a1 b0 : Int} : Ws E d mX10_init Q 428 [(2, 50), (0, a1)] [(0, b0), (2, 78)] h = Ws E d mX10_init Q 430 [(2, 50), (0, a1)] [(0, (-9)), (0, b0), (2, 78)] h := x_bipush dX10_init_428 (by decide)
theorem s_X10_init_e_430 {E : PvEnv} (hE : ∀ k, E 50 k = refT 50 k) {d : Nat} {Q : Int → Hp → Prop} {h : Hp} {a1 b0 b1 : Int} : Ws E d mX10_init Q 430 [(2, 50), (0, a1)] [(0, b0), (0, b1), (2, 78)] h = ((0 ≤ b1 ∧ b1 < 6) ∧ Ws E d mX10_init Q 431 [(2, 50), (0, a1)] [] (hst h 78 b1 b0)) := x_iast dX10_init_430 sk_78 (by decide) (al_78 E)
theorem s_X10_init_e_431 {E : PvEnv} (hE : ∀ k, E 50 k = refT 50 k) {d : Nat} {Q : Int → Hp → Prop} {h : Hp} {a1 : Int} : Ws E d mX10_init Q 431 [(2, 50), (0, a1)] [] h = Ws E d mX10_init Q 434 [(2, 50), (0, w32 (a1 + 1))] [] h := x_iinc dX10_init_431 rfl rfl
theorem s_X10_init_e_434 {E : PvEnv} (hE : ∀ k, E 50 k = refT 50 k) {d : Nat} {Q : Int → Hp → Prop} {h : Hp} {a1 : Int} : Ws E d mX10_init Q 434 [(2, 50), (0, a1)] [] h = Ws E d mX10_init Q 417 [(2, 50), (0, a1)] [] h := x_goto dX10_init_434 (by decide) rfl
theorem s_X10_init_e_437 {E : PvEnv} (hE : ∀ k, E 50 k = refT 50 k) {d : Nat} {Q : Int → Hp → Prop} {h : Hp} {a1 : Int} : Ws E d mX10_init Q 437 [(2, 50), (0, a1)] [] h = Q 0 h := x_vret dX10_init_437 rfl
theorem b_X10_init_e_351 {E : PvEnv} (hE : ∀ k, E 50 k = refT 50 k) {d : Nat} {Q : Int → Hp → Prop} {h : Hp} : Ws E d mX10_init Q 351 [(2, 50), (9, 0)] [] h = Ws E d mX10_init Q 353 [(2, 50), (0, 0)] [] h := (s_X10_init_e_351 hE).trans (s_X10_init_e_352 hE)
theorem b_X10_init_e_353 {E : PvEnv} (hE : ∀ k, E 50 k = refT 50 k) {d : Nat} {Q : Int → Hp → Prop} {h : Hp} {a1 : Int} : Ws E d mX10_init Q 353 [(2, 50), (0, a1)] [] h = (if a1 < 6 then ((0 ≤ a1 ∧ a1 < 6) ∧ Ws E d mX10_init Q 353 [(2, 50), (0, w32 (a1 + 1))] [] (hst h 52 a1 (-9))) else Ws E d mX10_init Q 375 [(2, 50), (0, 0)] [] h) := (s_X10_init_e_353 hE).trans ((s_X10_init_e_354 hE).trans ((s_X10_init_e_356 hE).trans (ite_c ((s_X10_init_e_359 hE).trans ((s_X10_init_e_360 hE).trans ((s_X10_init_e_363 hE).trans ((s_X10_init_e_364 hE).trans ((s_X10_init_e_366 hE).trans (and_c ((s_X10_init_e_367 hE).trans (s_X10_init_e_370 hE)))))))) ((s_X10_init_e_373 hE).trans (s_X10_init_e_374 hE)))))
theorem b_X10_init_e_375 {E : PvEnv} (hE : ∀ k, E 50 k = refT 50 k) {d : Nat} {Q : Int → Hp → Prop} {h : Hp} {a1 : Int} : Ws E d mX10_init Q 375 [(2, 50), (0, a1)] [] h = (if a1 < 4 then ((0 ≤ a1 ∧ a1 < 4) ∧ Ws E d mX10_init Q 375 [(2, 50), (0, w32 (a1 + 1))] [] (hst h 55 a1 (-9))) else Ws E d mX10_init Q 396 [(2, 50), (0, 0)] [] h) := (s_X10_init_e_375 hE).trans ((s_X10_init_e_376 hE).trans ((s_X10_init_e_377 hE).trans (ite_c ((s_X10_init_e_380 hE).trans ((s_X10_init_e_381 hE).trans ((s_X10_init_e_384 hE).trans ((s_X10_init_e_385 hE).trans ((s_X10_init_e_387 hE).trans (and_c ((s_X10_init_e_388 hE).trans (s_X10_init_e_391 hE)))))))) ((s_X10_init_e_394 hE).trans (s_X10_init_e_395 hE)))))
theorem b_X10_init_e_396 {E : PvEnv} (hE : ∀ k, E 50 k = refT 50 k) {d : Nat} {Q : Int → Hp → Prop} {h : Hp} {a1 : Int} : Ws E d mX10_init Q 396 [(2, 50), (0, a1)] [] h = (if a1 < 16 then wpS E d mX10_come [(2, 50), (0, a1), (0, 0), (0, 0)] h (fun r1 h1 => Ws E d mX10_init Q 396 [(2, 50), (0, w32 (a1 + 1))] [] h1) else Ws E d mX10_init Q 417 [(2, 50), (0, 0)] [] h) := (s_X10_init_e_396 hE).trans ((s_X10_init_e_397 hE).trans ((s_X10_init_e_399 hE).trans (ite_c ((s_X10_init_e_402 hE).trans ((s_X10_init_e_403 hE).trans ((s_X10_init_e_404 hE).trans ((s_X10_init_e_405 hE).trans ((s_X10_init_e_406 hE).trans (call_c (fun r1 h1 => (s_X10_init_e_409 hE).trans (s_X10_init_e_412 hE)))))))) ((s_X10_init_e_415 hE).trans (s_X10_init_e_416 hE)))))
theorem b_X10_init_e_417 {E : PvEnv} (hE : ∀ k, E 50 k = refT 50 k) {d : Nat} {Q : Int → Hp → Prop} {h : Hp} {a1 : Int} : Ws E d mX10_init Q 417 [(2, 50), (0, a1)] [] h = (if a1 < 6 then ((0 ≤ a1 ∧ a1 < 6) ∧ Ws E d mX10_init Q 417 [(2, 50), (0, w32 (a1 + 1))] [] (hst h 78 a1 (-9))) else Q 0 h) := (s_X10_init_e_417 hE).trans ((s_X10_init_e_418 hE).trans ((s_X10_init_e_420 hE).trans (ite_c ((s_X10_init_e_423 hE).trans ((s_X10_init_e_424 hE).trans ((s_X10_init_e_427 hE).trans ((s_X10_init_e_428 hE).trans ((s_X10_init_e_430 hE).trans (and_c ((s_X10_init_e_431 hE).trans (s_X10_init_e_434 hE)))))))) (s_X10_init_e_437 hE))))
