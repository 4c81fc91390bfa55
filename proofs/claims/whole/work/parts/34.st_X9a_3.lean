/-! X9_most -/
theorem dX9_most_0 : decode cX9_most 0 = .ok (.iload_n 1, 1) := by decide +kernel
theorem dX9_most_1 : decode cX9_most 1 = .ok (.invokestatic 136, 3) := by decide +kernel
theorem dX9_most_4 : decode cX9_most 4 = .ok (.ifCond .eq 12, 3) := by decide +kernel
theorem dX9_most_7 : decode cX9_most 7 = .ok (.iload_n 2, 1) := by decide +kernel
theorem dX9_most_8 : decode cX9_most 8 = .ok (.ifCond .lt 8, 3) := by decide +kernel
theorem dX9_most_11 : decode cX9_most 11 = .ok (.iload_n 2, 1) := by decide +kernel
theorem dX9_most_12 : decode cX9_most 12 = .ok (.iconst 3, 1) := by decide +kernel
theorem dX9_most_13 : decode cX9_most 13 = .ok (.if_icmp .le 5, 3) := by decide +kernel
theorem dX9_most_16 : decode cX9_most 16 = .ok (.iconst (-1), 1) := by decide +kernel
theorem dX9_most_17 : decode cX9_most 17 = .ok (.ireturn, 1) := by decide +kernel
theorem dX9_most_18 : decode cX9_most 18 = .ok (.aload_n 0, 1) := by decide +kernel
theorem dX9_most_19 : decode cX9_most 19 = .ok (.getfield 34, 3) := by decide +kernel
theorem dX9_most_22 : decode cX9_most 22 = .ok (.iload_n 1, 1) := by decide +kernel
theorem dX9_most_23 : decode cX9_most 23 = .ok (.invokevirtual 142, 3) := by decide +kernel
theorem dX9_most_26 : decode cX9_most 26 = .ok (.ifCond .ne 9, 3) := by decide +kernel
theorem dX9_most_29 : decode cX9_most 29 = .ok (.aload_n 0, 1) := by decide +kernel
theorem dX9_most_30 : decode cX9_most 30 = .ok (.iconst 1, 1) := by decide +kernel
theorem dX9_most_31 : decode cX9_most 31 = .ok (.invokevirtual 91, 3) := by decide +kernel
theorem dX9_most_34 : decode cX9_most 34 = .ok (.ireturn, 1) := by decide +kernel
theorem dX9_most_35 : decode cX9_most 35 = .ok (.aload_n 0, 1) := by decide +kernel
theorem dX9_most_36 : decode cX9_most 36 = .ok (.getfield 41, 3) := by decide +kernel
theorem dX9_most_39 : decode cX9_most 39 = .ok (.aload_n 0, 1) := by decide +kernel
theorem dX9_most_40 : decode cX9_most 40 = .ok (.getfield 34, 3) := by decide +kernel
theorem dX9_most_43 : decode cX9_most 43 = .ok (.invokevirtual 190, 3) := by decide +kernel
theorem dX9_most_46 : decode cX9_most 46 = .ok (.aload_n 0, 1) := by decide +kernel
theorem dX9_most_47 : decode cX9_most 47 = .ok (.getfield 72, 3) := by decide +kernel
theorem dX9_most_50 : decode cX9_most 50 = .ok (.aload_n 0, 1) := by decide +kernel
theorem dX9_most_51 : decode cX9_most 51 = .ok (.getfield 34, 3) := by decide +kernel
theorem dX9_most_54 : decode cX9_most 54 = .ok (.aload_n 0, 1) := by decide +kernel
theorem dX9_most_55 : decode cX9_most 55 = .ok (.getfield 41, 3) := by decide +kernel
theorem dX9_most_58 : decode cX9_most 58 = .ok (.aload_n 0, 1) := by decide +kernel
theorem dX9_most_59 : decode cX9_most 59 = .ok (.getfield 24, 3) := by decide +kernel
theorem dX9_most_62 : decode cX9_most 62 = .ok (.iload_n 1, 1) := by decide +kernel
theorem dX9_most_63 : decode cX9_most 63 = .ok (.iload_n 2, 1) := by decide +kernel
theorem dX9_most_64 : decode cX9_most 64 = .ok (.invokevirtual 340, 3) := by decide +kernel
theorem dX9_most_67 : decode cX9_most 67 = .ok (.aload_n 0, 1) := by decide +kernel
theorem dX9_most_68 : decode cX9_most 68 = .ok (.getfield 72, 3) := by decide +kernel
theorem dX9_most_71 : decode cX9_most 71 = .ok (.aload_n 0, 1) := by decide +kernel
theorem dX9_most_72 : decode cX9_most 72 = .ok (.getfield 34, 3) := by decide +kernel
theorem dX9_most_75 : decode cX9_most 75 = .ok (.iload_n 1, 1) := by decide +kernel
theorem dX9_most_76 : decode cX9_most 76 = .ok (.invokevirtual 350, 3) := by decide +kernel
theorem dX9_most_79 : decode cX9_most 79 = .ok (.istore_n 3, 1) := by decide +kernel
theorem dX9_most_80 : decode cX9_most 80 = .ok (.aload_n 0, 1) := by decide +kernel
theorem dX9_most_81 : decode cX9_most 81 = .ok (.getfield 79, 3) := by decide +kernel
theorem dX9_most_84 : decode cX9_most 84 = .ok (.aload_n 0, 1) := by decide +kernel
theorem dX9_most_85 : decode cX9_most 85 = .ok (.getfield 72, 3) := by decide +kernel
theorem dX9_most_88 : decode cX9_most 88 = .ok (.getfield 343, 3) := by decide +kernel
theorem dX9_most_91 : decode cX9_most 91 = .ok (.iload_n 3, 1) := by decide +kernel
theorem dX9_most_92 : decode cX9_most 92 = .ok (.laload, 1) := by decide +kernel
theorem dX9_most_93 : decode cX9_most 93 = .ok (.aload_n 0, 1) := by decide +kernel
theorem dX9_most_94 : decode cX9_most 94 = .ok (.getfield 72, 3) := by decide +kernel
theorem dX9_most_97 : decode cX9_most 97 = .ok (.getfield 347, 3) := by decide +kernel
theorem dX9_most_100 : decode cX9_most 100 = .ok (.invokevirtual 332, 3) := by decide +kernel
theorem dX9_most_103 : decode cX9_most 103 = .ok (.iload_n 3, 1) := by decide +kernel
theorem dX9_most_104 : decode cX9_most 104 = .ok (.ireturn, 1) := by decide +kernel
theorem s_X9_most_0 {n : Int} {d : Nat} {Q : Int → Hp → Prop} {h : Hp} {a1 a2 : Int} : Ws (EF n) d mX9_most Q 0 [(2, 0), (0, a1), (0, a2), (9, 0)] [] h = Ws (EF n) d mX9_most Q 1 [(2, 0), (0, a1), (0, a2), (9, 0)] [(0, a1)] h := x_iload_n dX9_most_0 rfl
theorem s_X9_most_1 {n : Int} {d : Nat} {Q : Int → Hp → Prop} {h : Hp} {a1 a2 b0 : Int} : Ws (EF n) d mX9_most Q 1 [(2, 0), (0, a1), (0, a2), (9, 0)] [(0, b0)] h = wpS (EF n) d mX9_isName [(0, b0)] h (fun r h' => Ws (EF n) d mX9_most Q 4 [(2, 0), (0, a1), (0, a2), (9, 0)] [(0, r)] (h')) := x_cs dX9_most_1 cl_9_136 (by decide) rfl rfl rfl (Nat.le_of_ble_eq_true rfl) ⟨by decide, by decide⟩ rfl rfl
theorem s_X9_most_4 {n : Int} {d : Nat} {Q : Int → Hp → Prop} {h : Hp} {a1 a2 b0 : Int} : Ws (EF n) d mX9_most Q 4 [(2, 0), (0, a1), (0, a2), (9, 0)] [(0, b0)] h = (if b0 = 0 then Ws (EF n) d mX9_most Q 16 [(2, 0), (0, a1), (0, a2), (9, 0)] [] h else Ws (EF n) d mX9_most Q 7 [(2, 0), (0, a1), (0, a2), (9, 0)] [] h) := x_if_eq dX9_most_4 (by decide) rfl
theorem s_X9_most_16 {n : Int} {d : Nat} {Q : Int → Hp → Prop} {h : Hp} {a1 a2 : Int} : Ws (EF n) d mX9_most Q 16 [(2, 0), (0, a1), (0, a2), (9, 0)] [] h = Ws (EF n) d mX9_most Q 17 [(2, 0), (0, a1), (0, a2), (9, 0)] [(0, (-1))] h := x_iconst dX9_most_16 (by decide)
theorem s_X9_most_17 {n : Int} {d : Nat} {Q : Int → Hp → Prop} {h : Hp} {a1 a2 b0 : Int} : Ws (EF n) d mX9_most Q 17 [(2, 0), (0, a1), (0, a2), (9, 0)] [(0, b0)] h = Q b0 h := x_ireti dX9_most_17 rfl
theorem s_X9_most_7 {n : Int} {d : Nat} {Q : Int → Hp → Prop} {h : Hp} {a1 a2 : Int} : Ws (EF n) d mX9_most Q 7 [(2, 0), (0, a1), (0, a2), (9, 0)] [] h = Ws (EF n) d mX9_most Q 8 [(2, 0), (0, a1), (0, a2), (9, 0)] [(0, a2)] h := x_iload_n dX9_most_7 rfl
theorem s_X9_most_8 {n : Int} {d : Nat} {Q : Int → Hp → Prop} {h : Hp} {a1 a2 b0 : Int} : Ws (EF n) d mX9_most Q 8 [(2, 0), (0, a1), (0, a2), (9, 0)] [(0, b0)] h = (if b0 < 0 then Ws (EF n) d mX9_most Q 16 [(2, 0), (0, a1), (0, a2), (9, 0)] [] h else Ws (EF n) d mX9_most Q 11 [(2, 0), (0, a1), (0, a2), (9, 0)] [] h) := x_if_lt dX9_most_8 (by decide) rfl
theorem s_X9_most_11 {n : Int} {d : Nat} {Q : Int → Hp → Prop} {h : Hp} {a1 a2 : Int} : Ws (EF n) d mX9_most Q 11 [(2, 0), (0, a1), (0, a2), (9, 0)] [] h = Ws (EF n) d mX9_most Q 12 [(2, 0), (0, a1), (0, a2), (9, 0)] [(0, a2)] h := x_iload_n dX9_most_11 rfl
theorem s_X9_most_12 {n : Int} {d : Nat} {Q : Int → Hp → Prop} {h : Hp} {a1 a2 b0 : Int} : Ws (EF n) d mX9_most Q 12 [(2, 0), (0, a1), (0, a2), (9, 0)] [(0, b0)] h = Ws (EF n) d mX9_most Q 13 [(2, 0), (0, a1), (0, a2), (9, 0)] [(0, 3), (0, b0)] h := x_iconst dX9_most_12 (by decide)
theorem s_X9_most_13 {n : Int} {d : Nat} {Q : Int → Hp → Prop} {h : Hp} {a1 a2 b0 b1 : Int} : Ws (EF n) d mX9_most Q 13 [(2, 0), (0, a1), (0, a2), (9, 0)] [(0, b0), (0, b1)] h = (if b0 < b1 then Ws (EF n) d mX9_most Q 16 [(2, 0), (0, a1), (0, a2), (9, 0)] [] h else Ws (EF n) d mX9_most Q 18 [(2, 0), (0, a1), (0, a2), (9, 0)] [] h) := x_icmp_le dX9_most_13 (by decide) rfl
theorem s_X9_most_18 {n : Int} {d : Nat} {Q : Int → Hp → Prop} {h : Hp} {a1 a2 : Int} : Ws (EF n) d mX9_most Q 18 [(2, 0), (0, a1), (0, a2), (9, 0)] [] h = Ws (EF n) d mX9_most Q 19 [(2, 0), (0, a1), (0, a2), (9, 0)] [(2, 0)] h := x_aload_n dX9_most_18 rfl
theorem s_X9_most_19 {n : Int} {d : Nat} {Q : Int → Hp → Prop} {h : Hp} {a1 a2 : Int} : Ws (EF n) d mX9_most Q 19 [(2, 0), (0, a1), (0, a2), (9, 0)] [(2, 0)] h = Ws (EF n) d mX9_most Q 22 [(2, 0), (0, a1), (0, a2), (9, 0)] [(2, 11)] h := x_getR dX9_most_19 fl_9_34 sk_0 (EF_ref n (by decide) (by decide) rt_0_4) (by decide)
theorem s_X9_most_22 {n : Int} {d : Nat} {Q : Int → Hp → Prop} {h : Hp} {a1 a2 : Int} : Ws (EF n) d mX9_most Q 22 [(2, 0), (0, a1), (0, a2), (9, 0)] [(2, 11)] h = Ws (EF n) d mX9_most Q 23 [(2, 0), (0, a1), (0, a2), (9, 0)] [(0, a1), (2, 11)] h := x_iload_n dX9_most_22 rfl
theorem s_X9_most_23 {n : Int} {d : Nat} {Q : Int → Hp → Prop} {h : Hp} {a1 a2 b0 : Int} : Ws (EF n) d mX9_most Q 23 [(2, 0), (0, a1), (0, a2), (9, 0)] [(0, b0), (2, 11)] h = wpS (EF n) d mX8_isThere [(2, 11), (0, b0)] h (fun r h' => Ws (EF n) d mX9_most Q 26 [(2, 0), (0, a1), (0, a2), (9, 0)] [(0, r)] (h')) := x_cv dX9_most_23 cl_9_142 (by decide) rfl rfl rfl (Nat.le_of_ble_eq_true rfl) ⟨by decide, by decide⟩ rfl rfl sk_11
theorem s_X9_most_26 {n : Int} {d : Nat} {Q : Int → Hp → Prop} {h : Hp} {a1 a2 b0 : Int} : Ws (EF n) d mX9_most Q 26 [(2, 0), (0, a1), (0, a2), (9, 0)] [(0, b0)] h = (if b0 = 0 then Ws (EF n) d mX9_most Q 29 [(2, 0), (0, a1), (0, a2), (9, 0)] [] h else Ws (EF n) d mX9_most Q 35 [(2, 0), (0, a1), (0, a2), (9, 0)] [] h) := x_if_ne dX9_most_26 (by decide) rfl
theorem s_X9_most_29 {n : Int} {d : Nat} {Q : Int → Hp → Prop} {h : Hp} {a1 a2 : Int} : Ws (EF n) d mX9_most Q 29 [(2, 0), (0, a1), (0, a2), (9, 0)] [] h = Ws (EF n) d mX9_most Q 30 [(2, 0), (0, a1), (0, a2), (9, 0)] [(2, 0)] h := x_aload_n dX9_most_29 rfl
theorem s_X9_most_30 {n : Int} {d : Nat} {Q : Int → Hp → Prop} {h : Hp} {a1 a2 : Int} : Ws (EF n) d mX9_most Q 30 [(2, 0), (0, a1), (0, a2), (9, 0)] [(2, 0)] h = Ws (EF n) d mX9_most Q 31 [(2, 0), (0, a1), (0, a2), (9, 0)] [(0, 1), (2, 0)] h := x_iconst dX9_most_30 (by decide)
theorem s_X9_most_31 {n : Int} {d : Nat} {Q : Int → Hp → Prop} {h : Hp} {a1 a2 b0 : Int} : Ws (EF n) d mX9_most Q 31 [(2, 0), (0, a1), (0, a2), (9, 0)] [(0, b0), (2, 0)] h = wpS (EF n) d mX9_refuse [(2, 0), (0, b0)] h (fun r h' => Ws (EF n) d mX9_most Q 34 [(2, 0), (0, a1), (0, a2), (9, 0)] [(0, r)] (h')) := x_cv dX9_most_31 cl_9_91 (by decide) rfl rfl rfl (Nat.le_of_ble_eq_true rfl) ⟨by decide, by decide⟩ rfl rfl sk_0
theorem s_X9_most_34 {n : Int} {d : Nat} {Q : Int → Hp → Prop} {h : Hp} {a1 a2 b0 : Int} : Ws (EF n) d mX9_most Q 34 [(2, 0), (0, a1), (0, a2), (9, 0)] [(0, b0)] h = Q b0 h := x_ireti dX9_most_34 rfl
theorem s_X9_most_35 {n : Int} {d : Nat} {Q : Int → Hp → Prop} {h : Hp} {a1 a2 : Int} : Ws (EF n) d mX9_most Q 35 [(2, 0), (0, a1), (0, a2), (9, 0)] [] h = Ws (EF n) d mX9_most Q 36 [(2, 0), (0, a1), (0, a2), (9, 0)] [(2, 0)] h := x_aload_n dX9_most_35 rfl
theorem s_X9_most_36 {n : Int} {d : Nat} {Q : Int → Hp → Prop} {h : Hp} {a1 a2 : Int} : Ws (EF n) d mX9_most Q 36 [(2, 0), (0, a1), (0, a2), (9, 0)] [(2, 0)] h = Ws (EF n) d mX9_most Q 39 [(2, 0), (0, a1), (0, a2), (9, 0)] [(2, 20)] h := x_getR dX9_most_36 fl_9_41 sk_0 (EF_ref n (by decide) (by decide) rt_0_5) (by decide)
theorem s_X9_most_39 {n : Int} {d : Nat} {Q : Int → Hp → Prop} {h : Hp} {a1 a2 : Int} : Ws (EF n) d mX9_most Q 39 [(2, 0), (0, a1), (0, a2), (9, 0)] [(2, 20)] h = Ws (EF n) d mX9_most Q 40 [(2, 0), (0, a1), (0, a2), (9, 0)] [(2, 0), (2, 20)] h := x_aload_n dX9_most_39 rfl
theorem s_X9_most_40 {n : Int} {d : Nat} {Q : Int → Hp → Prop} {h : Hp} {a1 a2 : Int} : Ws (EF n) d mX9_most Q 40 [(2, 0), (0, a1), (0, a2), (9, 0)] [(2, 0), (2, 20)] h = Ws (EF n) d mX9_most Q 43 [(2, 0), (0, a1), (0, a2), (9, 0)] [(2, 11), (2, 20)] h := x_getR dX9_most_40 fl_9_34 sk_0 (EF_ref n (by decide) (by decide) rt_0_4) (by decide)
theorem s_X9_most_43 {n : Int} {d : Nat} {Q : Int → Hp → Prop} {h : Hp} {a1 a2 : Int} : Ws (EF n) d mX9_most Q 43 [(2, 0), (0, a1), (0, a2), (9, 0)] [(2, 11), (2, 20)] h = wpS (EF n) d mX5_refresh [(2, 20), (2, 11)] h (fun r h' => Ws (EF n) d mX9_most Q 46 [(2, 0), (0, a1), (0, a2), (9, 0)] [] (h')) := x_cv dX9_most_43 cl_9_190 (by decide) rfl rfl rfl (Nat.le_of_ble_eq_true rfl) ⟨by decide, by decide⟩ rfl rfl sk_20
theorem s_X9_most_46 {n : Int} {d : Nat} {Q : Int → Hp → Prop} {h : Hp} {a1 a2 : Int} : Ws (EF n) d mX9_most Q 46 [(2, 0), (0, a1), (0, a2), (9, 0)] [] h = Ws (EF n) d mX9_most Q 47 [(2, 0), (0, a1), (0, a2), (9, 0)] [(2, 0)] h := x_aload_n dX9_most_46 rfl
theorem s_X9_most_47 {n : Int} {d : Nat} {Q : Int → Hp → Prop} {h : Hp} {a1 a2 : Int} : Ws (EF n) d mX9_most Q 47 [(2, 0), (0, a1), (0, a2), (9, 0)] [(2, 0)] h = Ws (EF n) d mX9_most Q 50 [(2, 0), (0, a1), (0, a2), (9, 0)] [(2, 45)] h := x_getR dX9_most_47 fl_9_72 sk_0 (EF_ref n (by decide) (by decide) rt_0_10) (by decide)
theorem s_X9_most_50 {n : Int} {d : Nat} {Q : Int → Hp → Prop} {h : Hp} {a1 a2 : Int} : Ws (EF n) d mX9_most Q 50 [(2, 0), (0, a1), (0, a2), (9, 0)] [(2, 45)] h = Ws (EF n) d mX9_most Q 51 [(2, 0), (0, a1), (0, a2), (9, 0)] [(2, 0), (2, 45)] h := x_aload_n dX9_most_50 rfl
theorem s_X9_most_51 {n : Int} {d : Nat} {Q : Int → Hp → Prop} {h : Hp} {a1 a2 : Int} : Ws (EF n) d mX9_most Q 51 [(2, 0), (0, a1), (0, a2), (9, 0)] [(2, 0), (2, 45)] h = Ws (EF n) d mX9_most Q 54 [(2, 0), (0, a1), (0, a2), (9, 0)] [(2, 11), (2, 45)] h := x_getR dX9_most_51 fl_9_34 sk_0 (EF_ref n (by decide) (by decide) rt_0_4) (by decide)
theorem s_X9_most_54 {n : Int} {d : Nat} {Q : Int → Hp → Prop} {h : Hp} {a1 a2 : Int} : Ws (EF n) d mX9_most Q 54 [(2, 0), (0, a1), (0, a2), (9, 0)] [(2, 11), (2, 45)] h = Ws (EF n) d mX9_most Q 55 [(2, 0), (0, a1), (0, a2), (9, 0)] [(2, 0), (2, 11), (2, 45)] h := x_aload_n dX9_most_54 rfl
theorem s_X9_most_55 {n : Int} {d : Nat} {Q : Int → Hp → Prop} {h : Hp} {a1 a2 : Int} : Ws (EF n) d mX9_most Q 55 [(2, 0), (0, a1), (0, a2), (9, 0)] [(2, 0), (2, 11), (2, 45)] h = Ws (EF n) d mX9_most Q 58 [(2, 0), (0, a1), (0, a2), (9, 0)] [(2, 20), (2, 11), (2, 45)] h := x_getR dX9_most_55 fl_9_41 sk_0 (EF_ref n (by decide) (by decide) rt_0_5) (by decide)
theorem s_X9_most_58 {n : Int} {d : Nat} {Q : Int → Hp → Prop} {h : Hp} {a1 a2 : Int} : Ws (EF n) d mX9_most Q 58 [(2, 0), (0, a1), (0, a2), (9, 0)] [(2, 20), (2, 11), (2, 45)] h = Ws (EF n) d mX9_most Q 59 [(2, 0), (0, a1), (0, a2), (9, 0)] [(2, 0), (2, 20), (2, 11), (2, 45)] h := x_aload_n dX9_most_58 rfl
theorem s_X9_most_59 {n : Int} {d : Nat} {Q : Int → Hp → Prop} {h : Hp} {a1 a2 : Int} : Ws (EF n) d mX9_most Q 59 [(2, 0), (0, a1), (0, a2), (9, 0)] [(2, 0), (2, 20), (2, 11), (2, 45)] h = Ws (EF n) d mX9_most Q 62 [(2, 0), (0, a1), (0, a2), (9, 0)] [(2, 7), (2, 20), (2, 11), (2, 45)] h := x_getR dX9_most_59 fl_9_24 sk_0 (EF_ref n (by decide) (by decide) rt_0_2) (by decide)
theorem s_X9_most_62 {n : Int} {d : Nat} {Q : Int → Hp → Prop} {h : Hp} {a1 a2 : Int} : Ws (EF n) d mX9_most Q 62 [(2, 0), (0, a1), (0, a2), (9, 0)] [(2, 7), (2, 20), (2, 11), (2, 45)] h = Ws (EF n) d mX9_most Q 63 [(2, 0), (0, a1), (0, a2), (9, 0)] [(0, a1), (2, 7), (2, 20), (2, 11), (2, 45)] h := x_iload_n dX9_most_62 rfl
theorem s_X9_most_63 {n : Int} {d : Nat} {Q : Int → Hp → Prop} {h : Hp} {a1 a2 b0 : Int} : Ws (EF n) d mX9_most Q 63 [(2, 0), (0, a1), (0, a2), (9, 0)] [(0, b0), (2, 7), (2, 20), (2, 11), (2, 45)] h = Ws (EF n) d mX9_most Q 64 [(2, 0), (0, a1), (0, a2), (9, 0)] [(0, a2), (0, b0), (2, 7), (2, 20), (2, 11), (2, 45)] h := x_iload_n dX9_most_63 rfl
theorem s_X9_most_64 {n : Int} {d : Nat} {Q : Int → Hp → Prop} {h : Hp} {a1 a2 b0 b1 : Int} : Ws (EF n) d mX9_most Q 64 [(2, 0), (0, a1), (0, a2), (9, 0)] [(0, b0), (0, b1), (2, 7), (2, 20), (2, 11), (2, 45)] h = wpS (EF n) d mX6_reckon [(2, 45), (2, 11), (2, 20), (2, 7), (0, b1), (0, b0)] h (fun r h' => Ws (EF n) d mX9_most Q 67 [(2, 0), (0, a1), (0, a2), (9, 0)] [] (h')) := x_cv dX9_most_64 cl_9_340 (by decide) rfl rfl rfl (Nat.le_of_ble_eq_true rfl) ⟨by decide, by decide⟩ rfl rfl sk_45
theorem s_X9_most_67 {n : Int} {d : Nat} {Q : Int → Hp → Prop} {h : Hp} {a1 a2 : Int} : Ws (EF n) d mX9_most Q 67 [(2, 0), (0, a1), (0, a2), (9, 0)] [] h = Ws (EF n) d mX9_most Q 68 [(2, 0), (0, a1), (0, a2), (9, 0)] [(2, 0)] h := x_aload_n dX9_most_67 rfl
theorem s_X9_most_68 {n : Int} {d : Nat} {Q : Int → Hp → Prop} {h : Hp} {a1 a2 : Int} : Ws (EF n) d mX9_most Q 68 [(2, 0), (0, a1), (0, a2), (9, 0)] [(2, 0)] h = Ws (EF n) d mX9_most Q 71 [(2, 0), (0, a1), (0, a2), (9, 0)] [(2, 45)] h := x_getR dX9_most_68 fl_9_72 sk_0 (EF_ref n (by decide) (by decide) rt_0_10) (by decide)
theorem s_X9_most_71 {n : Int} {d : Nat} {Q : Int → Hp → Prop} {h : Hp} {a1 a2 : Int} : Ws (EF n) d mX9_most Q 71 [(2, 0), (0, a1), (0, a2), (9, 0)] [(2, 45)] h = Ws (EF n) d mX9_most Q 72 [(2, 0), (0, a1), (0, a2), (9, 0)] [(2, 0), (2, 45)] h := x_aload_n dX9_most_71 rfl
theorem s_X9_most_72 {n : Int} {d : Nat} {Q : Int → Hp → Prop} {h : Hp} {a1 a2 : Int} : Ws (EF n) d mX9_most Q 72 [(2, 0), (0, a1), (0, a2), (9, 0)] [(2, 0), (2, 45)] h = Ws (EF n) d mX9_most Q 75 [(2, 0), (0, a1), (0, a2), (9, 0)] [(2, 11), (2, 45)] h := x_getR dX9_most_72 fl_9_34 sk_0 (EF_ref n (by decide) (by decide) rt_0_4) (by decide)
theorem s_X9_most_75 {n : Int} {d : Nat} {Q : Int → Hp → Prop} {h : Hp} {a1 a2 : Int} : Ws (EF n) d mX9_most Q 75 [(2, 0), (0, a1), (0, a2), (9, 0)] [(2, 11), (2, 45)] h = Ws (EF n) d mX9_most Q 76 [(2, 0), (0, a1), (0, a2), (9, 0)] [(0, a1), (2, 11), (2, 45)] h := x_iload_n dX9_most_75 rfl
theorem s_X9_most_76 {n : Int} {d : Nat} {Q : Int → Hp → Prop} {h : Hp} {a1 a2 b0 : Int} : Ws (EF n) d mX9_most Q 76 [(2, 0), (0, a1), (0, a2), (9, 0)] [(0, b0), (2, 11), (2, 45)] h = wpS (EF n) d mX6_greatest [(2, 45), (2, 11), (0, b0)] h (fun r h' => Ws (EF n) d mX9_most Q 79 [(2, 0), (0, a1), (0, a2), (9, 0)] [(0, r)] (h')) := x_cv dX9_most_76 cl_9_350 (by decide) rfl rfl rfl (Nat.le_of_ble_eq_true rfl) ⟨by decide, by decide⟩ rfl rfl sk_45
theorem s_X9_most_79 {n : Int} {d : Nat} {Q : Int → Hp → Prop} {h : Hp} {a1 a2 b0 : Int} : Ws (EF n) d mX9_most Q 79 [(2, 0), (0, a1), (0, a2), (9, 0)] [(0, b0)] h = Ws (EF n) d mX9_most Q 80 [(2, 0), (0, a1), (0, a2), (0, b0)] [] h := x_istore_n dX9_most_79 rfl
theorem s_X9_most_80 {n : Int} {d : Nat} {Q : Int → Hp → Prop} {h : Hp} {a1 a2 a3 : Int} : Ws (EF n) d mX9_most Q 80 [(2, 0), (0, a1), (0, a2), (0, a3)] [] h = Ws (EF n) d mX9_most Q 81 [(2, 0), (0, a1), (0, a2), (0, a3)] [(2, 0)] h := x_aload_n dX9_most_80 rfl
theorem s_X9_most_81 {n : Int} {d : Nat} {Q : Int → Hp → Prop} {h : Hp} {a1 a2 a3 : Int} : Ws (EF n) d mX9_most Q 81 [(2, 0), (0, a1), (0, a2), (0, a3)] [(2, 0)] h = Ws (EF n) d mX9_most Q 84 [(2, 0), (0, a1), (0, a2), (0, a3)] [(2, 48)] h := x_getR dX9_most_81 fl_9_79 sk_0 (EF_ref n (by decide) (by decide) rt_0_11) (by decide)
theorem s_X9_most_84 {n : Int} {d : Nat} {Q : Int → Hp → Prop} {h : Hp} {a1 a2 a3 : Int} : Ws (EF n) d mX9_most Q 84 [(2, 0), (0, a1), (0, a2), (0, a3)] [(2, 48)] h = Ws (EF n) d mX9_most Q 85 [(2, 0), (0, a1), (0, a2), (0, a3)] [(2, 0), (2, 48)] h := x_aload_n dX9_most_84 rfl
theorem s_X9_most_85 {n : Int} {d : Nat} {Q : Int → Hp → Prop} {h : Hp} {a1 a2 a3 : Int} : Ws (EF n) d mX9_most Q 85 [(2, 0), (0, a1), (0, a2), (0, a3)] [(2, 0), (2, 48)] h = Ws (EF n) d mX9_most Q 88 [(2, 0), (0, a1), (0, a2), (0, a3)] [(2, 45), (2, 48)] h := x_getR dX9_most_85 fl_9_72 sk_0 (EF_ref n (by decide) (by decide) rt_0_10) (by decide)
theorem s_X9_most_88 {n : Int} {d : Nat} {Q : Int → Hp → Prop} {h : Hp} {a1 a2 a3 : Int} : Ws (EF n) d mX9_most Q 88 [(2, 0), (0, a1), (0, a2), (0, a3)] [(2, 45), (2, 48)] h = Ws (EF n) d mX9_most Q 91 [(2, 0), (0, a1), (0, a2), (0, a3)] [(2, h 45 0), (2, 48)] h := x_getH dX9_most_88 fl_9_343 sk_45 (EF_ref n (by decide) (by decide) rt_45_0)
theorem s_X9_most_91 {n : Int} {d : Nat} {Q : Int → Hp → Prop} {h : Hp} {a1 a2 a3 b0 : Int} : Ws (EF n) d mX9_most Q 91 [(2, 0), (0, a1), (0, a2), (0, a3)] [(2, b0), (2, 48)] h = Ws (EF n) d mX9_most Q 92 [(2, 0), (0, a1), (0, a2), (0, a3)] [(0, a3), (2, b0), (2, 48)] h := x_iload_n dX9_most_91 rfl
theorem s_X9_most_92 {n : Int} {d : Nat} {Q : Int → Hp → Prop} {h : Hp} {a1 a2 a3 b0 : Int} : Ws (EF n) d mX9_most Q 92 [(2, 0), (0, a1), (0, a2), (0, a3)] [(0, b0), (2, 47), (2, 48)] h = ((0 ≤ b0 ∧ b0 < 336) ∧ Ws (EF n) d mX9_most Q 93 [(2, 0), (0, a1), (0, a2), (0, a3)] [(1, h 47 b0), (2, 48)] h) := x_lald dX9_most_92 sk_47 (al_47 (EF n))
theorem s_X9_most_93 {n : Int} {d : Nat} {Q : Int → Hp → Prop} {h : Hp} {a1 a2 a3 b0 : Int} : Ws (EF n) d mX9_most Q 93 [(2, 0), (0, a1), (0, a2), (0, a3)] [(1, b0), (2, 48)] h = Ws (EF n) d mX9_most Q 94 [(2, 0), (0, a1), (0, a2), (0, a3)] [(2, 0), (1, b0), (2, 48)] h := x_aload_n dX9_most_93 rfl
theorem s_X9_most_94 {n : Int} {d : Nat} {Q : Int → Hp → Prop} {h : Hp} {a1 a2 a3 b1 : Int} : Ws (EF n) d mX9_most Q 94 [(2, 0), (0, a1), (0, a2), (0, a3)] [(2, 0), (1, b1), (2, 48)] h = Ws (EF n) d mX9_most Q 97 [(2, 0), (0, a1), (0, a2), (0, a3)] [(2, 45), (1, b1), (2, 48)] h := x_getR dX9_most_94 fl_9_72 sk_0 (EF_ref n (by decide) (by decide) rt_0_10) (by decide)
theorem s_X9_most_97 {n : Int} {d : Nat} {Q : Int → Hp → Prop} {h : Hp} {a1 a2 a3 b1 : Int} : Ws (EF n) d mX9_most Q 97 [(2, 0), (0, a1), (0, a2), (0, a3)] [(2, 45), (1, b1), (2, 48)] h = Ws (EF n) d mX9_most Q 100 [(2, 0), (0, a1), (0, a2), (0, a3)] [(1, h 45 2), (1, b1), (2, 48)] h := x_get (ty := 1) dX9_most_97 fl_9_347 sk_45 (by decide)
theorem s_X9_most_100 {n : Int} {d : Nat} {Q : Int → Hp → Prop} {h : Hp} {a1 a2 a3 b0 b1 : Int} : Ws (EF n) d mX9_most Q 100 [(2, 0), (0, a1), (0, a2), (0, a3)] [(1, b0), (1, b1), (2, 48)] h = wpS (EF n) d mX2_tell [(2, 48), (1, b1), (1, b0)] h (fun r h' => Ws (EF n) d mX9_most Q 103 [(2, 0), (0, a1), (0, a2), (0, a3)] [] (h')) := x_cv dX9_most_100 cl_9_332 (by decide) rfl rfl rfl (Nat.le_of_ble_eq_true rfl) ⟨by decide, by decide⟩ rfl rfl sk_48
theorem s_X9_most_103 {n : Int} {d : Nat} {Q : Int → Hp → Prop} {h : Hp} {a1 a2 a3 : Int} : Ws (EF n) d mX9_most Q 103 [(2, 0), (0, a1), (0, a2), (0, a3)] [] h = Ws (EF n) d mX9_most Q 104 [(2, 0), (0, a1), (0, a2), (0, a3)] [(0, a3)] h := x_iload_n dX9_most_103 rfl
theorem s_X9_most_104 {n : Int} {d : Nat} {Q : Int → Hp → Prop} {h : Hp} {a1 a2 a3 b0 : Int} : Ws (EF n) d mX9_most Q 104 [(2, 0), (0, a1), (0, a2), (0, a3)] [(0, b0)] h = Q b0 h := x_ireti dX9_most_104 rfl
theorem s_X9_most_92_1 {n : Int} {d : Nat} {Q : Int → Hp → Prop} {h : Hp} {a1 a2 a3 b0 : Int} : Ws (EF n) d mX9_most Q 92 [(2, 0), (0, a1), (0, a2), (0, a3)] [(0, b0), (2, 46), (2, 48)] h = ((0 ≤ b0 ∧ b0 < 336) ∧ Ws (EF n) d mX9_most Q 93 [(2, 0), (0, a1), (0, a2), (0, a3)] [(1, h 46 b0), (2, 48)] h) := x_lald dX9_most_92 sk_46 (al_46 (EF n))
theorem b_X9_most_0 {n : Int} {d : Nat} {Q : Int → Hp → Prop} {h : Hp} {a1 a2 : Int} : Ws (EF n) d mX9_most Q 0 [(2, 0), (0, a1), (0, a2), (9, 0)] [] h = wpS (EF n) d mX9_isName [(0, a1)] h (fun r1 h1 => (if r1 = 0 then Q (-1) h1 else (if a2 < 0 then Q (-1) h1 else (if 3 < a2 then Q (-1) h1 else wpS (EF n) d mX8_isThere [(2, 11), (0, a1)] h1 (fun r2 h2 => (if r2 = 0 then wpS (EF n) d mX9_refuse [(2, 0), (0, 1)] h2 (fun r3 h3 => Q r3 h3) else wpS (EF n) d mX5_refresh [(2, 20), (2, 11)] h2 (fun r3 h3 => wpS (EF n) d mX6_reckon [(2, 45), (2, 11), (2, 20), (2, 7), (0, a1), (0, a2)] h3 (fun r4 h4 => wpS (EF n) d mX6_greatest [(2, 45), (2, 11), (0, a1)] h4 (fun r5 h5 => Ws (EF n) d mX9_most Q 92 [(2, 0), (0, a1), (0, a2), (0, r5)] [(0, r5), (2, h5 45 0), (2, 48)] h5))))))))) := (s_X9_most_0).trans ((s_X9_most_1).trans (call_c (fun r1 h1 => (s_X9_most_4).trans (ite_c ((s_X9_most_16).trans (s_X9_most_17)) ((s_X9_most_7).trans ((s_X9_most_8).trans (ite_c ((s_X9_most_16).trans (s_X9_most_17)) ((s_X9_most_11).trans ((s_X9_most_12).trans ((s_X9_most_13).trans (ite_c ((s_X9_most_16).trans (s_X9_most_17)) ((s_X9_most_18).trans ((s_X9_most_19).trans ((s_X9_most_22).trans ((s_X9_most_23).trans (call_c (fun r2 h2 => (s_X9_most_26).trans (ite_c ((s_X9_most_29).trans ((s_X9_most_30).trans ((s_X9_most_31).trans (call_c (fun r3 h3 => s_X9_most_34))))) ((s_X9_most_35).trans ((s_X9_most_36).trans ((s_X9_most_39).trans ((s_X9_most_40).trans ((s_X9_most_43).trans (call_c (fun r3 h3 => (s_X9_most_46).trans ((s_X9_most_47).trans ((s_X9_most_50).trans ((s_X9_most_51).trans ((s_X9_most_54).trans ((s_X9_most_55).trans ((s_X9_most_58).trans ((s_X9_most_59).trans ((s_X9_most_62).trans ((s_X9_most_63).trans ((s_X9_most_64).trans (call_c (fun r4 h4 => (s_X9_most_67).trans ((s_X9_most_68).trans ((s_X9_most_71).trans ((s_X9_most_72).trans ((s_X9_most_75).trans ((s_X9_most_76).trans (call_c (fun r5 h5 => (s_X9_most_79).trans ((s_X9_most_80).trans ((s_X9_most_81).trans ((s_X9_most_84).trans ((s_X9_most_85).trans ((s_X9_most_88).trans (s_X9_most_91))))))))))))))))))))))))))))))))))))))))))))))))))
theorem b_X9_most_92 {n : Int} {d : Nat} {Q : Int → Hp → Prop} {h : Hp} {a1 a2 a3 b0 : Int} : Ws (EF n) d mX9_most Q 92 [(2, 0), (0, a1), (0, a2), (0, a3)] [(0, b0), (2, 46), (2, 48)] h = ((0 ≤ b0 ∧ b0 < 336) ∧ wpS (EF n) d mX2_tell [(2, 48), (1, h 46 b0), (1, h 45 2)] h (fun r1 h1 => Q a3 h1)) := (s_X9_most_92_1).trans (and_c ((s_X9_most_93).trans ((s_X9_most_94).trans ((s_X9_most_97).trans ((s_X9_most_100).trans (call_c (fun r1 h1 => (s_X9_most_103).trans (s_X9_most_104))))))))
theorem b_X9_most_92_1 {n : Int} {d : Nat} {Q : Int → Hp → Prop} {h : Hp} {a1 a2 a3 b0 : Int} : Ws (EF n) d mX9_most Q 92 [(2, 0), (0, a1), (0, a2), (0, a3)] [(0, b0), (2, 47), (2, 48)] h = ((0 ≤ b0 ∧ b0 < 336) ∧ wpS (EF n) d mX2_tell [(2, 48), (1, h 47 b0), (1, h 45 2)] h (fun r1 h1 => Q a3 h1)) := (s_X9_most_92).trans (and_c ((s_X9_most_93).trans ((s_X9_most_94).trans ((s_X9_most_97).trans ((s_X9_most_100).trans (call_c (fun r1 h1 => (s_X9_most_103).trans (s_X9_most_104))))))))
/-! X9_off -/
theorem dX9_off_0 : decode cX9_off 0 = .ok (.iload_n 1, 1) := by decide +kernel
theorem dX9_off_1 : decode cX9_off 1 = .ok (.invokestatic 136, 3) := by decide +kernel
theorem dX9_off_4 : decode cX9_off 4 = .ok (.ifCond .eq 13, 3) := by decide +kernel
theorem dX9_off_7 : decode cX9_off 7 = .ok (.iload_n 2, 1) := by decide +kernel
theorem dX9_off_8 : decode cX9_off 8 = .ok (.ifCond .lt 9, 3) := by decide +kernel
theorem dX9_off_11 : decode cX9_off 11 = .ok (.iload_n 2, 1) := by decide +kernel
theorem dX9_off_12 : decode cX9_off 12 = .ok (.bipush 20, 2) := by decide +kernel
theorem dX9_off_14 : decode cX9_off 14 = .ok (.if_icmp .le 5, 3) := by decide +kernel
theorem dX9_off_17 : decode cX9_off 17 = .ok (.iconst (-1), 1) := by decide +kernel
theorem dX9_off_18 : decode cX9_off 18 = .ok (.ireturn, 1) := by decide +kernel
theorem dX9_off_19 : decode cX9_off 19 = .ok (.aload_n 0, 1) := by decide +kernel
theorem dX9_off_20 : decode cX9_off 20 = .ok (.getfield 34, 3) := by decide +kernel
theorem dX9_off_23 : decode cX9_off 23 = .ok (.iload_n 1, 1) := by decide +kernel
theorem dX9_off_24 : decode cX9_off 24 = .ok (.invokevirtual 142, 3) := by decide +kernel
theorem dX9_off_27 : decode cX9_off 27 = .ok (.ifCond .ne 9, 3) := by decide +kernel
theorem dX9_off_30 : decode cX9_off 30 = .ok (.aload_n 0, 1) := by decide +kernel
theorem dX9_off_31 : decode cX9_off 31 = .ok (.iconst 1, 1) := by decide +kernel
theorem dX9_off_32 : decode cX9_off 32 = .ok (.invokevirtual 91, 3) := by decide +kernel
theorem dX9_off_35 : decode cX9_off 35 = .ok (.ireturn, 1) := by decide +kernel
theorem dX9_off_36 : decode cX9_off 36 = .ok (.aload_n 0, 1) := by decide +kernel
theorem dX9_off_37 : decode cX9_off 37 = .ok (.getfield 41, 3) := by decide +kernel
theorem dX9_off_40 : decode cX9_off 40 = .ok (.aload_n 0, 1) := by decide +kernel
theorem dX9_off_41 : decode cX9_off 41 = .ok (.getfield 34, 3) := by decide +kernel
theorem dX9_off_44 : decode cX9_off 44 = .ok (.invokevirtual 190, 3) := by decide +kernel
theorem dX9_off_47 : decode cX9_off 47 = .ok (.iload_n 2, 1) := by decide +kernel
theorem dX9_off_48 : decode cX9_off 48 = .ok (.aload_n 0, 1) := by decide +kernel
theorem dX9_off_49 : decode cX9_off 49 = .ok (.getfield 41, 3) := by decide +kernel
theorem dX9_off_52 : decode cX9_off 52 = .ok (.aload_n 0, 1) := by decide +kernel
theorem dX9_off_53 : decode cX9_off 53 = .ok (.getfield 34, 3) := by decide +kernel
theorem dX9_off_56 : decode cX9_off 56 = .ok (.iload_n 1, 1) := by decide +kernel
theorem dX9_off_57 : decode cX9_off 57 = .ok (.aload_n 0, 1) := by decide +kernel
theorem dX9_off_58 : decode cX9_off 58 = .ok (.getfield 24, 3) := by decide +kernel
theorem dX9_off_61 : decode cX9_off 61 = .ok (.getfield 353, 3) := by decide +kernel
theorem dX9_off_64 : decode cX9_off 64 = .ok (.invokevirtual 356, 3) := by decide +kernel
theorem dX9_off_67 : decode cX9_off 67 = .ok (.imul, 1) := by decide +kernel
theorem dX9_off_68 : decode cX9_off 68 = .ok (.ireturn, 1) := by decide +kernel
theorem s_X9_off_0 {n : Int} {d : Nat} {Q : Int → Hp → Prop} {h : Hp} {a1 a2 : Int} : Ws (EF n) d mX9_off Q 0 [(2, 0), (0, a1), (0, a2)] [] h = Ws (EF n) d mX9_off Q 1 [(2, 0), (0, a1), (0, a2)] [(0, a1)] h := x_iload_n dX9_off_0 rfl
theorem s_X9_off_1 {n : Int} {d : Nat} {Q : Int → Hp → Prop} {h : Hp} {a1 a2 b0 : Int} : Ws (EF n) d mX9_off Q 1 [(2, 0), (0, a1), (0, a2)] [(0, b0)] h = wpS (EF n) d mX9_isName [(0, b0)] h (fun r h' => Ws (EF n) d mX9_off Q 4 [(2, 0), (0, a1), (0, a2)] [(0, r)] (h')) := x_cs dX9_off_1 cl_9_136 (by decide) rfl rfl rfl (Nat.le_of_ble_eq_true rfl) ⟨by decide, by decide⟩ rfl rfl
theorem s_X9_off_4 {n : Int} {d : Nat} {Q : Int → Hp → Prop} {h : Hp} {a1 a2 b0 : Int} : Ws (EF n) d mX9_off Q 4 [(2, 0), (0, a1), (0, a2)] [(0, b0)] h = (if b0 = 0 then Ws (EF n) d mX9_off Q 17 [(2, 0), (0, a1), (0, a2)] [] h else Ws (EF n) d mX9_off Q 7 [(2, 0), (0, a1), (0, a2)] [] h) := x_if_eq dX9_off_4 (by decide) rfl
theorem s_X9_off_17 {n : Int} {d : Nat} {Q : Int → Hp → Prop} {h : Hp} {a1 a2 : Int} : Ws (EF n) d mX9_off Q 17 [(2, 0), (0, a1), (0, a2)] [] h = Ws (EF n) d mX9_off Q 18 [(2, 0), (0, a1), (0, a2)] [(0, (-1))] h := x_iconst dX9_off_17 (by decide)
theorem s_X9_off_18 {n : Int} {d : Nat} {Q : Int → Hp → Prop} {h : Hp} {a1 a2 b0 : Int} : Ws (EF n) d mX9_off Q 18 [(2, 0), (0, a1), (0, a2)] [(0, b0)] h = Q b0 h := x_ireti dX9_off_18 rfl
theorem s_X9_off_7 {n : Int} {d : Nat} {Q : Int → Hp → Prop} {h : Hp} {a1 a2 : Int} : Ws (EF n) d mX9_off Q 7 [(2, 0), (0, a1), (0, a2)] [] h = Ws (EF n) d mX9_off Q 8 [(2, 0), (0, a1), (0, a2)] [(0, a2)] h := x_iload_n dX9_off_7 rfl
theorem s_X9_off_8 {n : Int} {d : Nat} {Q : Int → Hp → Prop} {h : Hp} {a1 a2 b0 : Int} : Ws (EF n) d mX9_off Q 8 [(2, 0), (0, a1), (0, a2)] [(0, b0)] h = (if b0 < 0 then Ws (EF n) d mX9_off Q 17 [(2, 0), (0, a1), (0, a2)] [] h else Ws (EF n) d mX9_off Q 11 [(2, 0), (0, a1), (0, a2)] [] h) := x_if_lt dX9_off_8 (by decide) rfl
theorem s_X9_off_11 {n : Int} {d : Nat} {Q : Int → Hp → Prop} {h : Hp} {a1 a2 : Int} : Ws (EF n) d mX9_off Q 11 [(2, 0), (0, a1), (0, a2)] [] h = Ws (EF n) d mX9_off Q 12 [(2, 0), (0, a1), (0, a2)] [(0, a2)] h := x_iload_n dX9_off_11 rfl
theorem s_X9_off_12 {n : Int} {d : Nat} {Q : Int → Hp → Prop} {h : Hp} {a1 a2 b0 : Int} : Ws (EF n) d mX9_off Q 12 [(2, 0), (0, a1), (0, a2)] [(0, b0)] h = Ws (EF n) d mX9_off Q 14 [(2, 0), (0, a1), (0, a2)] [(0, 20), (0, b0)] h := x_bipush dX9_off_12 (by decide)
theorem s_X9_off_14 {n : Int} {d : Nat} {Q : Int → Hp → Prop} {h : Hp} {a1 a2 b0 b1 : Int} : Ws (EF n) d mX9_off Q 14 [(2, 0), (0, a1), (0, a2)] [(0, b0), (0, b1)] h = (if b0 < b1 then Ws (EF n) d mX9_off Q 17 [(2, 0), (0, a1), (0, a2)] [] h else Ws (EF n) d mX9_off Q 19 [(2, 0), (0, a1), (0, a2)] [] h) := x_icmp_le dX9_off_14 (by decide) rfl
theorem s_X9_off_19 {n : Int} {d : Nat} {Q : Int → Hp → Prop} {h : Hp} {a1 a2 : Int} : Ws (EF n) d mX9_off Q 19 [(2, 0), (0, a1), (0, a2)] [] h = Ws (EF n) d mX9_off Q 20 [(2, 0), (0, a1), (0, a2)] [(2, 0)] h := x_aload_n dX9_off_19 rfl
theorem s_X9_off_20 {n : Int} {d : Nat} {Q : Int → Hp → Prop} {h : Hp} {a1 a2 : Int} : Ws (EF n) d mX9_off Q 20 [(2, 0), (0, a1), (0, a2)] [(2, 0)] h = Ws (EF n) d mX9_off Q 23 [(2, 0), (0, a1), (0, a2)] [(2, 11)] h := x_getR dX9_off_20 fl_9_34 sk_0 (EF_ref n (by decide) (by decide) rt_0_4) (by decide)
theorem s_X9_off_23 {n : Int} {d : Nat} {Q : Int → Hp → Prop} {h : Hp} {a1 a2 : Int} : Ws (EF n) d mX9_off Q 23 [(2, 0), (0, a1), (0, a2)] [(2, 11)] h = Ws (EF n) d mX9_off Q 24 [(2, 0), (0, a1), (0, a2)] [(0, a1), (2, 11)] h := x_iload_n dX9_off_23 rfl
theorem s_X9_off_24 {n : Int} {d : Nat} {Q : Int → Hp → Prop} {h : Hp} {a1 a2 b0 : Int} : Ws (EF n) d mX9_off Q 24 [(2, 0), (0, a1), (0, a2)] [(0, b0), (2, 11)] h = wpS (EF n) d mX8_isThere [(2, 11), (0, b0)] h (fun r h' => Ws (EF n) d mX9_off Q 27 [(2, 0), (0, a1), (0, a2)] [(0, r)] (h')) := x_cv dX9_off_24 cl_9_142 (by decide) rfl rfl rfl (Nat.le_of_ble_eq_true rfl) ⟨by decide, by decide⟩ rfl rfl sk_11
theorem s_X9_off_27 {n : Int} {d : Nat} {Q : Int → Hp → Prop} {h : Hp} {a1 a2 b0 : Int} : Ws (EF n) d mX9_off Q 27 [(2, 0), (0, a1), (0, a2)] [(0, b0)] h = (if b0 = 0 then Ws (EF n) d mX9_off Q 30 [(2, 0), (0, a1), (0, a2)] [] h else Ws (EF n) d mX9_off Q 36 [(2, 0), (0, a1), (0, a2)] [] h) := x_if_ne dX9_off_27 (by decide) rfl
theorem s_X9_off_30 {n : Int} {d : Nat} {Q : Int → Hp → Prop} {h : Hp} {a1 a2 : Int} : Ws (EF n) d mX9_off Q 30 [(2, 0), (0, a1), (0, a2)] [] h = Ws (EF n) d mX9_off Q 31 [(2, 0), (0, a1), (0, a2)] [(2, 0)] h := x_aload_n dX9_off_30 rfl
theorem s_X9_off_31 {n : Int} {d : Nat} {Q : Int → Hp → Prop} {h : Hp} {a1 a2 : Int} : Ws (EF n) d mX9_off Q 31 [(2, 0), (0, a1), (0, a2)] [(2, 0)] h = Ws (EF n) d mX9_off Q 32 [(2, 0), (0, a1), (0, a2)] [(0, 1), (2, 0)] h := x_iconst dX9_off_31 (by decide)
theorem s_X9_off_32 {n : Int} {d : Nat} {Q : Int → Hp → Prop} {h : Hp} {a1 a2 b0 : Int} : Ws (EF n) d mX9_off Q 32 [(2, 0), (0, a1), (0, a2)] [(0, b0), (2, 0)] h = wpS (EF n) d mX9_refuse [(2, 0), (0, b0)] h (fun r h' => Ws (EF n) d mX9_off Q 35 [(2, 0), (0, a1), (0, a2)] [(0, r)] (h')) := x_cv dX9_off_32 cl_9_91 (by decide) rfl rfl rfl (Nat.le_of_ble_eq_true rfl) ⟨by decide, by decide⟩ rfl rfl sk_0
theorem s_X9_off_35 {n : Int} {d : Nat} {Q : Int → Hp → Prop} {h : Hp} {a1 a2 b0 : Int} : Ws (EF n) d mX9_off Q 35 [(2, 0), (0, a1), (0, a2)] [(0, b0)] h = Q b0 h := x_ireti dX9_off_35 rfl
theorem s_X9_off_36 {n : Int} {d : Nat} {Q : Int → Hp → Prop} {h : Hp} {a1 a2 : Int} : Ws (EF n) d mX9_off Q 36 [(2, 0), (0, a1), (0, a2)] [] h = Ws (EF n) d mX9_off Q 37 [(2, 0), (0, a1), (0, a2)] [(2, 0)] h := x_aload_n dX9_off_36 rfl
theorem s_X9_off_37 {n : Int} {d : Nat} {Q : Int → Hp → Prop} {h : Hp} {a1 a2 : Int} : Ws (EF n) d mX9_off Q 37 [(2, 0), (0, a1), (0, a2)] [(2, 0)] h = Ws (EF n) d mX9_off Q 40 [(2, 0), (0, a1), (0, a2)] [(2, 20)] h := x_getR dX9_off_37 fl_9_41 sk_0 (EF_ref n (by decide) (by decide) rt_0_5) (by decide)
theorem s_X9_off_40 {n : Int} {d : Nat} {Q : Int → Hp → Prop} {h : Hp} {a1 a2 : Int} : Ws (EF n) d mX9_off Q 40 [(2, 0), (0, a1), (0, a2)] [(2, 20)] h = Ws (EF n) d mX9_off Q 41 [(2, 0), (0, a1), (0, a2)] [(2, 0), (2, 20)] h := x_aload_n dX9_off_40 rfl
theorem s_X9_off_41 {n : Int} {d : Nat} {Q : Int → Hp → Prop} {h : Hp} {a1 a2 : Int} : Ws (EF n) d mX9_off Q 41 [(2, 0), (0, a1), (0, a2)] [(2, 0), (2, 20)] h = Ws (EF n) d mX9_off Q 44 [(2, 0), (0, a1), (0, a2)] [(2, 11), (2, 20)] h := x_getR dX9_off_41 fl_9_34 sk_0 (EF_ref n (by decide) (by decide) rt_0_4) (by decide)
theorem s_X9_off_44 {n : Int} {d : Nat} {Q : Int → Hp → Prop} {h : Hp} {a1 a2 : Int} : Ws (EF n) d mX9_off Q 44 [(2, 0), (0, a1), (0, a2)] [(2, 11), (2, 20)] h = wpS (EF n) d mX5_refresh [(2, 20), (2, 11)] h (fun r h' => Ws (EF n) d mX9_off Q 47 [(2, 0), (0, a1), (0, a2)] [] (h')) := x_cv dX9_off_44 cl_9_190 (by decide) rfl rfl rfl (Nat.le_of_ble_eq_true rfl) ⟨by decide, by decide⟩ rfl rfl sk_20
theorem s_X9_off_47 {n : Int} {d : Nat} {Q : Int → Hp → Prop} {h : Hp} {a1 a2 : Int} : Ws (EF n) d mX9_off Q 47 [(2, 0), (0, a1), (0, a2)] [] h = Ws (EF n) d mX9_off Q 48 [(2, 0), (0, a1), (0, a2)] [(0, a2)] h := x_iload_n dX9_off_47 rfl
theorem s_X9_off_48 {n : Int} {d : Nat} {Q : Int → Hp → Prop} {h : Hp} {a1 a2 b0 : Int} : Ws (EF n) d mX9_off Q 48 [(2, 0), (0, a1), (0, a2)] [(0, b0)] h = Ws (EF n) d mX9_off Q 49 [(2, 0), (0, a1), (0, a2)] [(2, 0), (0, b0)] h := x_aload_n dX9_off_48 rfl
theorem s_X9_off_49 {n : Int} {d : Nat} {Q : Int → Hp → Prop} {h : Hp} {a1 a2 b1 : Int} : Ws (EF n) d mX9_off Q 49 [(2, 0), (0, a1), (0, a2)] [(2, 0), (0, b1)] h = Ws (EF n) d mX9_off Q 52 [(2, 0), (0, a1), (0, a2)] [(2, 20), (0, b1)] h := x_getR dX9_off_49 fl_9_41 sk_0 (EF_ref n (by decide) (by decide) rt_0_5) (by decide)
theorem s_X9_off_52 {n : Int} {d : Nat} {Q : Int → Hp → Prop} {h : Hp} {a1 a2 b1 : Int} : Ws (EF n) d mX9_off Q 52 [(2, 0), (0, a1), (0, a2)] [(2, 20), (0, b1)] h = Ws (EF n) d mX9_off Q 53 [(2, 0), (0, a1), (0, a2)] [(2, 0), (2, 20), (0, b1)] h := x_aload_n dX9_off_52 rfl
theorem s_X9_off_53 {n : Int} {d : Nat} {Q : Int → Hp → Prop} {h : Hp} {a1 a2 b2 : Int} : Ws (EF n) d mX9_off Q 53 [(2, 0), (0, a1), (0, a2)] [(2, 0), (2, 20), (0, b2)] h = Ws (EF n) d mX9_off Q 56 [(2, 0), (0, a1), (0, a2)] [(2, 11), (2, 20), (0, b2)] h := x_getR dX9_off_53 fl_9_34 sk_0 (EF_ref n (by decide) (by decide) rt_0_4) (by decide)
theorem s_X9_off_56 {n : Int} {d : Nat} {Q : Int → Hp → Prop} {h : Hp} {a1 a2 b2 : Int} : Ws (EF n) d mX9_off Q 56 [(2, 0), (0, a1), (0, a2)] [(2, 11), (2, 20), (0, b2)] h = Ws (EF n) d mX9_off Q 57 [(2, 0), (0, a1), (0, a2)] [(0, a1), (2, 11), (2, 20), (0, b2)] h := x_iload_n dX9_off_56 rfl
theorem s_X9_off_57 {n : Int} {d : Nat} {Q : Int → Hp → Prop} {h : Hp} {a1 a2 b0 b3 : Int} : Ws (EF n) d mX9_off Q 57 [(2, 0), (0, a1), (0, a2)] [(0, b0), (2, 11), (2, 20), (0, b3)] h = Ws (EF n) d mX9_off Q 58 [(2, 0), (0, a1), (0, a2)] [(2, 0), (0, b0), (2, 11), (2, 20), (0, b3)] h := x_aload_n dX9_off_57 rfl
theorem s_X9_off_58 {n : Int} {d : Nat} {Q : Int → Hp → Prop} {h : Hp} {a1 a2 b1 b4 : Int} : Ws (EF n) d mX9_off Q 58 [(2, 0), (0, a1), (0, a2)] [(2, 0), (0, b1), (2, 11), (2, 20), (0, b4)] h = Ws (EF n) d mX9_off Q 61 [(2, 0), (0, a1), (0, a2)] [(2, 7), (0, b1), (2, 11), (2, 20), (0, b4)] h := x_getR dX9_off_58 fl_9_24 sk_0 (EF_ref n (by decide) (by decide) rt_0_2) (by decide)
theorem s_X9_off_61 {n : Int} {d : Nat} {Q : Int → Hp → Prop} {h : Hp} {a1 a2 b1 b4 : Int} : Ws (EF n) d mX9_off Q 61 [(2, 0), (0, a1), (0, a2)] [(2, 7), (0, b1), (2, 11), (2, 20), (0, b4)] h = Ws (EF n) d mX9_off Q 64 [(2, 0), (0, a1), (0, a2)] [(0, h 7 2), (0, b1), (2, 11), (2, 20), (0, b4)] h := x_get (ty := 0) dX9_off_61 fl_9_353 sk_7 (by decide)
theorem s_X9_off_64 {n : Int} {d : Nat} {Q : Int → Hp → Prop} {h : Hp} {a1 a2 b0 b1 b4 : Int} : Ws (EF n) d mX9_off Q 64 [(2, 0), (0, a1), (0, a2)] [(0, b0), (0, b1), (2, 11), (2, 20), (0, b4)] h = wpS (EF n) d mX5_partnersOf [(2, 20), (2, 11), (0, b1), (0, b0)] h (fun r h' => Ws (EF n) d mX9_off Q 67 [(2, 0), (0, a1), (0, a2)] [(0, r), (0, b4)] (h')) := x_cv dX9_off_64 cl_9_356 (by decide) rfl rfl rfl (Nat.le_of_ble_eq_true rfl) ⟨by decide, by decide⟩ rfl rfl sk_20
theorem s_X9_off_67 {n : Int} {d : Nat} {Q : Int → Hp → Prop} {h : Hp} {a1 a2 b0 b1 : Int} : Ws (EF n) d mX9_off Q 67 [(2, 0), (0, a1), (0, a2)] [(0, b0), (0, b1)] h = Ws (EF n) d mX9_off Q 68 [(2, 0), (0, a1), (0, a2)] [(0, w32 (b1 * b0))] h := x_imul dX9_off_67
theorem s_X9_off_68 {n : Int} {d : Nat} {Q : Int → Hp → Prop} {h : Hp} {a1 a2 b0 : Int} : Ws (EF n) d mX9_off Q 68 [(2, 0), (0, a1), (0, a2)] [(0, b0)] h = Q b0 h := x_ireti dX9_off_68 rfl
theorem b_X9_off_0 {n : Int} {d : Nat} {Q : Int → Hp → Prop} {h : Hp} {a1 a2 : Int} : Ws (EF n) d mX9_off Q 0 [(2, 0), (0, a1), (0, a2)] [] h = wpS (EF n) d mX9_isName [(0, a1)] h (fun r1 h1 => (if r1 = 0 then Q (-1) h1 else (if a2 < 0 then Q (-1) h1 else (if 20 < a2 then Q (-1) h1 else wpS (EF n) d mX8_isThere [(2, 11), (0, a1)] h1 (fun r2 h2 => (if r2 = 0 then wpS (EF n) d mX9_refuse [(2, 0), (0, 1)] h2 (fun r3 h3 => Q r3 h3) else wpS (EF n) d mX5_refresh [(2, 20), (2, 11)] h2 (fun r3 h3 => wpS (EF n) d mX5_partnersOf [(2, 20), (2, 11), (0, a1), (0, h3 7 2)] h3 (fun r4 h4 => Q (w32 (a2 * r4)) h4)))))))) := (s_X9_off_0).trans ((s_X9_off_1).trans (call_c (fun r1 h1 => (s_X9_off_4).trans (ite_c ((s_X9_off_17).trans (s_X9_off_18)) ((s_X9_off_7).trans ((s_X9_off_8).trans (ite_c ((s_X9_off_17).trans (s_X9_off_18)) ((s_X9_off_11).trans ((s_X9_off_12).trans ((s_X9_off_14).trans (ite_c ((s_X9_off_17).trans (s_X9_off_18)) ((s_X9_off_19).trans ((s_X9_off_20).trans ((s_X9_off_23).trans ((s_X9_off_24).trans (call_c (fun r2 h2 => (s_X9_off_27).trans (ite_c ((s_X9_off_30).trans ((s_X9_off_31).trans ((s_X9_off_32).trans (call_c (fun r3 h3 => s_X9_off_35))))) ((s_X9_off_36).trans ((s_X9_off_37).trans ((s_X9_off_40).trans ((s_X9_off_41).trans ((s_X9_off_44).trans (call_c (fun r3 h3 => (s_X9_off_47).trans ((s_X9_off_48).trans ((s_X9_off_49).trans ((s_X9_off_52).trans ((s_X9_off_53).trans ((s_X9_off_56).trans ((s_X9_off_57).trans ((s_X9_off_58).trans ((s_X9_off_61).trans ((s_X9_off_64).trans (call_c (fun r4 h4 => (s_X9_off_67).trans (s_X9_off_68)))))))))))))))))))))))))))))))))))))
/-! X9_asked -/
theorem dX9_asked_0 : decode cX9_asked 0 = .ok (.aload_n 0, 1) := by decide +kernel
theorem dX9_asked_1 : decode cX9_asked 1 = .ok (.getfield 110, 3) := by decide +kernel
theorem dX9_asked_4 : decode cX9_asked 4 = .ok (.ireturn, 1) := by decide +kernel
theorem s_X9_asked_0 {n : Int} {d : Nat} {Q : Int → Hp → Prop} {h : Hp} : Ws (EF n) d mX9_asked Q 0 [(2, 0)] [] h = Ws (EF n) d mX9_asked Q 1 [(2, 0)] [(2, 0)] h := x_aload_n dX9_asked_0 rfl
theorem s_X9_asked_1 {n : Int} {d : Nat} {Q : Int → Hp → Prop} {h : Hp} : Ws (EF n) d mX9_asked Q 1 [(2, 0)] [(2, 0)] h = Ws (EF n) d mX9_asked Q 4 [(2, 0)] [(0, h 0 14)] h := x_get (ty := 0) dX9_asked_1 fl_9_110 sk_0 (by decide)
theorem s_X9_asked_4 {n : Int} {d : Nat} {Q : Int → Hp → Prop} {h : Hp} {b0 : Int} : Ws (EF n) d mX9_asked Q 4 [(2, 0)] [(0, b0)] h = Q b0 h := x_ireti dX9_asked_4 rfl
theorem b_X9_asked_0 {n : Int} {d : Nat} {Q : Int → Hp → Prop} {h : Hp} : Ws (EF n) d mX9_asked Q 0 [(2, 0)] [] h = Q (h 0 14) h := (s_X9_asked_0).trans ((s_X9_asked_1).trans (s_X9_asked_4))
/-! X9_upper -/
theorem dX9_upper_0 : decode cX9_upper 0 = .ok (.aload_n 0, 1) := by decide +kernel
theorem dX9_upper_1 : decode cX9_upper 1 = .ok (.getfield 79, 3) := by decide +kernel
theorem dX9_upper_4 : decode cX9_upper 4 = .ok (.getfield 359, 3) := by decide +kernel
theorem dX9_upper_7 : decode cX9_upper 7 = .ok (.lreturn, 1) := by decide +kernel
theorem s_X9_upper_0 {n : Int} {d : Nat} {Q : Int → Hp → Prop} {h : Hp} : Ws (EF n) d mX9_upper Q 0 [(2, 0)] [] h = Ws (EF n) d mX9_upper Q 1 [(2, 0)] [(2, 0)] h := x_aload_n dX9_upper_0 rfl
theorem s_X9_upper_1 {n : Int} {d : Nat} {Q : Int → Hp → Prop} {h : Hp} : Ws (EF n) d mX9_upper Q 1 [(2, 0)] [(2, 0)] h = Ws (EF n) d mX9_upper Q 4 [(2, 0)] [(2, 48)] h := x_getR dX9_upper_1 fl_9_79 sk_0 (EF_ref n (by decide) (by decide) rt_0_11) (by decide)
theorem s_X9_upper_4 {n : Int} {d : Nat} {Q : Int → Hp → Prop} {h : Hp} : Ws (EF n) d mX9_upper Q 4 [(2, 0)] [(2, 48)] h = Ws (EF n) d mX9_upper Q 7 [(2, 0)] [(1, h 48 0)] h := x_get (ty := 1) dX9_upper_4 fl_9_359 sk_48 (by decide)
theorem s_X9_upper_7 {n : Int} {d : Nat} {Q : Int → Hp → Prop} {h : Hp} {b0 : Int} : Ws (EF n) d mX9_upper Q 7 [(2, 0)] [(1, b0)] h = Q b0 h := x_lret dX9_upper_7 rfl
theorem b_X9_upper_0 {n : Int} {d : Nat} {Q : Int → Hp → Prop} {h : Hp} : Ws (EF n) d mX9_upper Q 0 [(2, 0)] [] h = Q (h 48 0) h := (s_X9_upper_0).trans ((s_X9_upper_1).trans ((s_X9_upper_4).trans (s_X9_upper_7)))
/-! X9_lower -/
theorem dX9_lower_0 : decode cX9_lower 0 = .ok (.aload_n 0, 1) := by decide +kernel
theorem dX9_lower_1 : decode cX9_lower 1 = .ok (.getfield 79, 3) := by decide +kernel
theorem dX9_lower_4 : decode cX9_lower 4 = .ok (.getfield 362, 3) := by decide +kernel
theorem dX9_lower_7 : decode cX9_lower 7 = .ok (.lreturn, 1) := by decide +kernel
theorem s_X9_lower_0 {n : Int} {d : Nat} {Q : Int → Hp → Prop} {h : Hp} : Ws (EF n) d mX9_lower Q 0 [(2, 0)] [] h = Ws (EF n) d mX9_lower Q 1 [(2, 0)] [(2, 0)] h := x_aload_n dX9_lower_0 rfl
theorem s_X9_lower_1 {n : Int} {d : Nat} {Q : Int → Hp → Prop} {h : Hp} : Ws (EF n) d mX9_lower Q 1 [(2, 0)] [(2, 0)] h = Ws (EF n) d mX9_lower Q 4 [(2, 0)] [(2, 48)] h := x_getR dX9_lower_1 fl_9_79 sk_0 (EF_ref n (by decide) (by decide) rt_0_11) (by decide)
theorem s_X9_lower_4 {n : Int} {d : Nat} {Q : Int → Hp → Prop} {h : Hp} : Ws (EF n) d mX9_lower Q 4 [(2, 0)] [(2, 48)] h = Ws (EF n) d mX9_lower Q 7 [(2, 0)] [(1, h 48 1)] h := x_get (ty := 1) dX9_lower_4 fl_9_362 sk_48 (by decide)
theorem s_X9_lower_7 {n : Int} {d : Nat} {Q : Int → Hp → Prop} {h : Hp} {b0 : Int} : Ws (EF n) d mX9_lower Q 7 [(2, 0)] [(1, b0)] h = Q b0 h := x_lret dX9_lower_7 rfl
theorem b_X9_lower_0 {n : Int} {d : Nat} {Q : Int → Hp → Prop} {h : Hp} : Ws (EF n) d mX9_lower Q 0 [(2, 0)] [] h = Q (h 48 1) h := (s_X9_lower_0).trans ((s_X9_lower_1).trans ((s_X9_lower_4).trans (s_X9_lower_7)))
/-! X9_count -/
theorem dX9_count_0 : decode cX9_count 0 = .ok (.iload_n 1, 1) := by decide +kernel
theorem dX9_count_1 : decode cX9_count 1 = .ok (.tableswitch 134 0 8 #[51, 59, 67, 85, 94, 103, 113, 118, 126], 51) := by decide +kernel
theorem dX9_count_52 : decode cX9_count 52 = .ok (.aload_n 0, 1) := by decide +kernel
theorem dX9_count_53 : decode cX9_count 53 = .ok (.getfield 34, 3) := by decide +kernel
theorem dX9_count_56 : decode cX9_count 56 = .ok (.getfield 202, 3) := by decide +kernel
theorem dX9_count_59 : decode cX9_count 59 = .ok (.ireturn, 1) := by decide +kernel
theorem dX9_count_60 : decode cX9_count 60 = .ok (.aload_n 0, 1) := by decide +kernel
theorem dX9_count_61 : decode cX9_count 61 = .ok (.getfield 34, 3) := by decide +kernel
theorem dX9_count_64 : decode cX9_count 64 = .ok (.invokevirtual 290, 3) := by decide +kernel
theorem dX9_count_67 : decode cX9_count 67 = .ok (.ireturn, 1) := by decide +kernel
theorem dX9_count_68 : decode cX9_count 68 = .ok (.aload_n 0, 1) := by decide +kernel
theorem dX9_count_69 : decode cX9_count 69 = .ok (.getfield 34, 3) := by decide +kernel
theorem dX9_count_72 : decode cX9_count 72 = .ok (.iconst 1, 1) := by decide +kernel
theorem dX9_count_73 : decode cX9_count 73 = .ok (.invokevirtual 365, 3) := by decide +kernel
theorem dX9_count_76 : decode cX9_count 76 = .ok (.aload_n 0, 1) := by decide +kernel
theorem dX9_count_77 : decode cX9_count 77 = .ok (.getfield 34, 3) := by decide +kernel
theorem dX9_count_80 : decode cX9_count 80 = .ok (.iconst 2, 1) := by decide +kernel
theorem dX9_count_81 : decode cX9_count 81 = .ok (.invokevirtual 365, 3) := by decide +kernel
theorem dX9_count_84 : decode cX9_count 84 = .ok (.iadd, 1) := by decide +kernel
theorem dX9_count_85 : decode cX9_count 85 = .ok (.ireturn, 1) := by decide +kernel
theorem dX9_count_86 : decode cX9_count 86 = .ok (.aload_n 0, 1) := by decide +kernel
theorem dX9_count_87 : decode cX9_count 87 = .ok (.getfield 34, 3) := by decide +kernel
theorem dX9_count_90 : decode cX9_count 90 = .ok (.iconst 4, 1) := by decide +kernel
theorem dX9_count_91 : decode cX9_count 91 = .ok (.invokevirtual 365, 3) := by decide +kernel
theorem dX9_count_94 : decode cX9_count 94 = .ok (.ireturn, 1) := by decide +kernel
theorem dX9_count_95 : decode cX9_count 95 = .ok (.aload_n 0, 1) := by decide +kernel
theorem dX9_count_96 : decode cX9_count 96 = .ok (.getfield 34, 3) := by decide +kernel
theorem dX9_count_99 : decode cX9_count 99 = .ok (.iconst 3, 1) := by decide +kernel
theorem dX9_count_100 : decode cX9_count 100 = .ok (.invokevirtual 365, 3) := by decide +kernel
theorem dX9_count_103 : decode cX9_count 103 = .ok (.ireturn, 1) := by decide +kernel
theorem dX9_count_104 : decode cX9_count 104 = .ok (.aload_n 0, 1) := by decide +kernel
theorem dX9_count_105 : decode cX9_count 105 = .ok (.getfield 55, 3) := by decide +kernel
theorem dX9_count_108 : decode cX9_count 108 = .ok (.bipush 6, 2) := by decide +kernel
theorem dX9_count_110 : decode cX9_count 110 = .ok (.invokevirtual 252, 3) := by decide +kernel
theorem dX9_count_113 : decode cX9_count 113 = .ok (.ireturn, 1) := by decide +kernel
theorem dX9_count_114 : decode cX9_count 114 = .ok (.aload_n 0, 1) := by decide +kernel
theorem dX9_count_115 : decode cX9_count 115 = .ok (.invokevirtual 368, 3) := by decide +kernel
theorem dX9_count_118 : decode cX9_count 118 = .ok (.ireturn, 1) := by decide +kernel
theorem dX9_count_119 : decode cX9_count 119 = .ok (.aload_n 0, 1) := by decide +kernel
theorem dX9_count_120 : decode cX9_count 120 = .ok (.getfield 14, 3) := by decide +kernel
theorem dX9_count_123 : decode cX9_count 123 = .ok (.invokevirtual 371, 3) := by decide +kernel
theorem dX9_count_126 : decode cX9_count 126 = .ok (.ireturn, 1) := by decide +kernel
theorem dX9_count_127 : decode cX9_count 127 = .ok (.aload_n 0, 1) := by decide +kernel
theorem dX9_count_128 : decode cX9_count 128 = .ok (.getfield 18, 3) := by decide +kernel
theorem dX9_count_131 : decode cX9_count 131 = .ok (.invokevirtual 371, 3) := by decide +kernel
theorem dX9_count_134 : decode cX9_count 134 = .ok (.ireturn, 1) := by decide +kernel
theorem dX9_count_135 : decode cX9_count 135 = .ok (.iconst (-1), 1) := by decide +kernel
theorem dX9_count_136 : decode cX9_count 136 = .ok (.ireturn, 1) := by decide +kernel
theorem s_X9_count_0 {n : Int} {d : Nat} {Q : Int → Hp → Prop} {h : Hp} {a1 : Int} : Ws (EF n) d mX9_count Q 0 [(2, 0), (0, a1)] [] h = Ws (EF n) d mX9_count Q 1 [(2, 0), (0, a1)] [(0, a1)] h := x_iload_n dX9_count_0 rfl
theorem b_X9_count_0 {n : Int} {d : Nat} {Q : Int → Hp → Prop} {h : Hp} {a1 : Int} : Ws (EF n) d mX9_count Q 0 [(2, 0), (0, a1)] [] h = Ws (EF n) d mX9_count Q 1 [(2, 0), (0, a1)] [(0, a1)] h := s_X9_count_0
/-! X9_finding -/
theorem dX9_finding_0 : decode cX9_finding 0 = .ok (.aload_n 0, 1) := by decide +kernel
theorem dX9_finding_1 : decode cX9_finding 1 = .ok (.getfield 374, 3) := by decide +kernel
theorem dX9_finding_4 : decode cX9_finding 4 = .ok (.ireturn, 1) := by decide +kernel
theorem s_X9_finding_0 {n : Int} {d : Nat} {Q : Int → Hp → Prop} {h : Hp} : Ws (EF n) d mX9_finding Q 0 [(2, 0)] [] h = Ws (EF n) d mX9_finding Q 1 [(2, 0)] [(2, 0)] h := x_aload_n dX9_finding_0 rfl
theorem s_X9_finding_1 {n : Int} {d : Nat} {Q : Int → Hp → Prop} {h : Hp} : Ws (EF n) d mX9_finding Q 1 [(2, 0)] [(2, 0)] h = Ws (EF n) d mX9_finding Q 4 [(2, 0)] [(0, h 0 13)] h := x_get (ty := 0) dX9_finding_1 fl_9_374 sk_0 (by decide)
theorem s_X9_finding_4 {n : Int} {d : Nat} {Q : Int → Hp → Prop} {h : Hp} {b0 : Int} : Ws (EF n) d mX9_finding Q 4 [(2, 0)] [(0, b0)] h = Q b0 h := x_ireti dX9_finding_4 rfl
theorem b_X9_finding_0 {n : Int} {d : Nat} {Q : Int → Hp → Prop} {h : Hp} : Ws (EF n) d mX9_finding Q 0 [(2, 0)] [] h = Q (h 0 13) h := (s_X9_finding_0).trans ((s_X9_finding_1).trans (s_X9_finding_4))
/-! X9_findings -/
theorem dX9_findings_0 : decode cX9_findings 0 = .ok (.iload_n 1, 1) := by decide +kernel
theorem dX9_findings_1 : decode cX9_findings 1 = .ok (.iconst 1, 1) := by decide +kernel
theorem dX9_findings_2 : decode cX9_findings 2 = .ok (.if_icmp .lt 8, 3) := by decide +kernel
theorem dX9_findings_5 : decode cX9_findings 5 = .ok (.iload_n 1, 1) := by decide +kernel
theorem dX9_findings_6 : decode cX9_findings 6 = .ok (.iconst 5, 1) := by decide +kernel
theorem dX9_findings_7 : decode cX9_findings 7 = .ok (.if_icmp .le 7, 3) := by decide +kernel
theorem dX9_findings_10 : decode cX9_findings 10 = .ok (.iconst (-1), 1) := by decide +kernel
theorem dX9_findings_11 : decode cX9_findings 11 = .ok (.goto 9, 3) := by decide +kernel
theorem dX9_findings_14 : decode cX9_findings 14 = .ok (.aload_n 0, 1) := by decide +kernel
theorem dX9_findings_15 : decode cX9_findings 15 = .ok (.getfield 83, 3) := by decide +kernel
theorem dX9_findings_18 : decode cX9_findings 18 = .ok (.iload_n 1, 1) := by decide +kernel
theorem dX9_findings_19 : decode cX9_findings 19 = .ok (.iaload, 1) := by decide +kernel
theorem dX9_findings_20 : decode cX9_findings 20 = .ok (.ireturn, 1) := by decide +kernel
theorem s_X9_findings_0 {n : Int} {d : Nat} {Q : Int → Hp → Prop} {h : Hp} {a1 : Int} : Ws (EF n) d mX9_findings Q 0 [(2, 0), (0, a1)] [] h = Ws (EF n) d mX9_findings Q 1 [(2, 0), (0, a1)] [(0, a1)] h := x_iload_n dX9_findings_0 rfl
theorem s_X9_findings_1 {n : Int} {d : Nat} {Q : Int → Hp → Prop} {h : Hp} {a1 b0 : Int} : Ws (EF n) d mX9_findings Q 1 [(2, 0), (0, a1)] [(0, b0)] h = Ws (EF n) d mX9_findings Q 2 [(2, 0), (0, a1)] [(0, 1), (0, b0)] h := x_iconst dX9_findings_1 (by decide)
theorem s_X9_findings_2 {n : Int} {d : Nat} {Q : Int → Hp → Prop} {h : Hp} {a1 b0 b1 : Int} : Ws (EF n) d mX9_findings Q 2 [(2, 0), (0, a1)] [(0, b0), (0, b1)] h = (if b1 < b0 then Ws (EF n) d mX9_findings Q 10 [(2, 0), (0, a1)] [] h else Ws (EF n) d mX9_findings Q 5 [(2, 0), (0, a1)] [] h) := x_icmp_lt dX9_findings_2 (by decide) rfl
theorem s_X9_findings_10 {n : Int} {d : Nat} {Q : Int → Hp → Prop} {h : Hp} {a1 : Int} : Ws (EF n) d mX9_findings Q 10 [(2, 0), (0, a1)] [] h = Ws (EF n) d mX9_findings Q 11 [(2, 0), (0, a1)] [(0, (-1))] h := x_iconst dX9_findings_10 (by decide)
theorem s_X9_findings_11 {n : Int} {d : Nat} {Q : Int → Hp → Prop} {h : Hp} {a1 b0 : Int} : Ws (EF n) d mX9_findings Q 11 [(2, 0), (0, a1)] [(0, b0)] h = Ws (EF n) d mX9_findings Q 20 [(2, 0), (0, a1)] [(0, b0)] h := x_goto dX9_findings_11 (by decide) rfl
theorem s_X9_findings_20 {n : Int} {d : Nat} {Q : Int → Hp → Prop} {h : Hp} {a1 b0 : Int} : Ws (EF n) d mX9_findings Q 20 [(2, 0), (0, a1)] [(0, b0)] h = Q b0 h := x_ireti dX9_findings_20 rfl
theorem s_X9_findings_5 {n : Int} {d : Nat} {Q : Int → Hp → Prop} {h : Hp} {a1 : Int} : Ws (EF n) d mX9_findings Q 5 [(2, 0), (0, a1)] [] h = Ws (EF n) d mX9_findings Q 6 [(2, 0), (0, a1)] [(0, a1)] h := x_iload_n dX9_findings_5 rfl
theorem s_X9_findings_6 {n : Int} {d : Nat} {Q : Int → Hp → Prop} {h : Hp} {a1 b0 : Int} : Ws (EF n) d mX9_findings Q 6 [(2, 0), (0, a1)] [(0, b0)] h = Ws (EF n) d mX9_findings Q 7 [(2, 0), (0, a1)] [(0, 5), (0, b0)] h := x_iconst dX9_findings_6 (by decide)
theorem s_X9_findings_7 {n : Int} {d : Nat} {Q : Int → Hp → Prop} {h : Hp} {a1 b0 b1 : Int} : Ws (EF n) d mX9_findings Q 7 [(2, 0), (0, a1)] [(0, b0), (0, b1)] h = (if b0 < b1 then Ws (EF n) d mX9_findings Q 10 [(2, 0), (0, a1)] [] h else Ws (EF n) d mX9_findings Q 14 [(2, 0), (0, a1)] [] h) := x_icmp_le dX9_findings_7 (by decide) rfl
theorem s_X9_findings_14 {n : Int} {d : Nat} {Q : Int → Hp → Prop} {h : Hp} {a1 : Int} : Ws (EF n) d mX9_findings Q 14 [(2, 0), (0, a1)] [] h = Ws (EF n) d mX9_findings Q 15 [(2, 0), (0, a1)] [(2, 0)] h := x_aload_n dX9_findings_14 rfl
theorem s_X9_findings_15 {n : Int} {d : Nat} {Q : Int → Hp → Prop} {h : Hp} {a1 : Int} : Ws (EF n) d mX9_findings Q 15 [(2, 0), (0, a1)] [(2, 0)] h = Ws (EF n) d mX9_findings Q 18 [(2, 0), (0, a1)] [(2, 49)] h := x_getR dX9_findings_15 fl_9_83 sk_0 (EF_ref n (by decide) (by decide) rt_0_12) (by decide)
theorem s_X9_findings_18 {n : Int} {d : Nat} {Q : Int → Hp → Prop} {h : Hp} {a1 : Int} : Ws (EF n) d mX9_findings Q 18 [(2, 0), (0, a1)] [(2, 49)] h = Ws (EF n) d mX9_findings Q 19 [(2, 0), (0, a1)] [(0, a1), (2, 49)] h := x_iload_n dX9_findings_18 rfl
theorem s_X9_findings_19 {n : Int} {d : Nat} {Q : Int → Hp → Prop} {h : Hp} {a1 b0 : Int} : Ws (EF n) d mX9_findings Q 19 [(2, 0), (0, a1)] [(0, b0), (2, 49)] h = ((0 ≤ b0 ∧ b0 < 6) ∧ Ws (EF n) d mX9_findings Q 20 [(2, 0), (0, a1)] [(0, h 49 b0)] h) := x_iald dX9_findings_19 sk_49 (al_49 (EF n))
theorem b_X9_findings_0 {n : Int} {d : Nat} {Q : Int → Hp → Prop} {h : Hp} {a1 : Int} : Ws (EF n) d mX9_findings Q 0 [(2, 0), (0, a1)] [] h = (if a1 < 1 then Q (-1) h else (if 5 < a1 then Q (-1) h else ((0 ≤ a1 ∧ a1 < 6) ∧ Q (h 49 a1) h))) := (s_X9_findings_0).trans ((s_X9_findings_1).trans ((s_X9_findings_2).trans (ite_c ((s_X9_findings_10).trans ((s_X9_findings_11).trans (s_X9_findings_20))) ((s_X9_findings_5).trans ((s_X9_findings_6).trans ((s_X9_findings_7).trans (ite_c ((s_X9_findings_10).trans ((s_X9_findings_11).trans (s_X9_findings_20))) ((s_X9_findings_14).trans ((s_X9_findings_15).trans ((s_X9_findings_18).trans ((s_X9_findings_19).trans (and_c (s_X9_findings_20)))))))))))))
/-! X9_digest -/
theorem dX9_digest_0 : decode cX9_digest 0 = .ok (.ldc2_w 377, 3) := by decide +kernel
theorem dX9_digest_3 : decode cX9_digest 3 = .ok (.lstore_n 1, 1) := by decide +kernel
theorem dX9_digest_4 : decode cX9_digest 4 = .ok (.iconst 0, 1) := by decide +kernel
theorem dX9_digest_5 : decode cX9_digest 5 = .ok (.istore_n 3, 1) := by decide +kernel
theorem dX9_digest_6 : decode cX9_digest 6 = .ok (.iload_n 3, 1) := by decide +kernel
theorem dX9_digest_7 : decode cX9_digest 7 = .ok (.bipush 8, 2) := by decide +kernel
theorem dX9_digest_9 : decode cX9_digest 9 = .ok (.if_icmp .gt 22, 3) := by decide +kernel
theorem dX9_digest_12 : decode cX9_digest 12 = .ok (.ldc2_w 379, 3) := by decide +kernel
theorem dX9_digest_15 : decode cX9_digest 15 = .ok (.lload_n 1, 1) := by decide +kernel
theorem dX9_digest_16 : decode cX9_digest 16 = .ok (.lmul, 1) := by decide +kernel
theorem dX9_digest_17 : decode cX9_digest 17 = .ok (.aload_n 0, 1) := by decide +kernel
theorem dX9_digest_18 : decode cX9_digest 18 = .ok (.iload_n 3, 1) := by decide +kernel
theorem dX9_digest_19 : decode cX9_digest 19 = .ok (.invokevirtual 381, 3) := by decide +kernel
theorem dX9_digest_22 : decode cX9_digest 22 = .ok (.i2l, 1) := by decide +kernel
theorem dX9_digest_23 : decode cX9_digest 23 = .ok (.ladd, 1) := by decide +kernel
theorem dX9_digest_24 : decode cX9_digest 24 = .ok (.lstore_n 1, 1) := by decide +kernel
theorem dX9_digest_25 : decode cX9_digest 25 = .ok (.iinc 3 1, 3) := by decide +kernel
theorem dX9_digest_28 : decode cX9_digest 28 = .ok (.goto (-22), 3) := by decide +kernel
theorem dX9_digest_31 : decode cX9_digest 31 = .ok (.aload_n 0, 1) := by decide +kernel
theorem dX9_digest_32 : decode cX9_digest 32 = .ok (.getfield 34, 3) := by decide +kernel
theorem dX9_digest_35 : decode cX9_digest 35 = .ok (.lload_n 1, 1) := by decide +kernel
theorem dX9_digest_36 : decode cX9_digest 36 = .ok (.invokevirtual 384, 3) := by decide +kernel
theorem dX9_digest_39 : decode cX9_digest 39 = .ok (.lstore_n 1, 1) := by decide +kernel
theorem dX9_digest_40 : decode cX9_digest 40 = .ok (.iconst 0, 1) := by decide +kernel
theorem dX9_digest_41 : decode cX9_digest 41 = .ok (.istore_n 3, 1) := by decide +kernel
theorem dX9_digest_42 : decode cX9_digest 42 = .ok (.iload_n 3, 1) := by decide +kernel
theorem dX9_digest_43 : decode cX9_digest 43 = .ok (.bipush 6, 2) := by decide +kernel
theorem dX9_digest_45 : decode cX9_digest 45 = .ok (.if_icmp .ge 26, 3) := by decide +kernel
theorem dX9_digest_48 : decode cX9_digest 48 = .ok (.ldc2_w 379, 3) := by decide +kernel
theorem dX9_digest_51 : decode cX9_digest 51 = .ok (.lload_n 1, 1) := by decide +kernel
theorem dX9_digest_52 : decode cX9_digest 52 = .ok (.lmul, 1) := by decide +kernel
theorem dX9_digest_53 : decode cX9_digest 53 = .ok (.aload_n 0, 1) := by decide +kernel
theorem dX9_digest_54 : decode cX9_digest 54 = .ok (.getfield 55, 3) := by decide +kernel
theorem dX9_digest_57 : decode cX9_digest 57 = .ok (.getfield 239, 3) := by decide +kernel
theorem dX9_digest_60 : decode cX9_digest 60 = .ok (.iload_n 3, 1) := by decide +kernel
theorem dX9_digest_61 : decode cX9_digest 61 = .ok (.iaload, 1) := by decide +kernel
theorem dX9_digest_62 : decode cX9_digest 62 = .ok (.i2l, 1) := by decide +kernel
theorem dX9_digest_63 : decode cX9_digest 63 = .ok (.ladd, 1) := by decide +kernel
theorem dX9_digest_64 : decode cX9_digest 64 = .ok (.lstore_n 1, 1) := by decide +kernel
theorem dX9_digest_65 : decode cX9_digest 65 = .ok (.iinc 3 1, 3) := by decide +kernel
theorem dX9_digest_68 : decode cX9_digest 68 = .ok (.goto (-26), 3) := by decide +kernel
theorem dX9_digest_71 : decode cX9_digest 71 = .ok (.aload_n 0, 1) := by decide +kernel
theorem dX9_digest_72 : decode cX9_digest 72 = .ok (.getfield 24, 3) := by decide +kernel
theorem dX9_digest_75 : decode cX9_digest 75 = .ok (.lload_n 1, 1) := by decide +kernel
theorem dX9_digest_76 : decode cX9_digest 76 = .ok (.invokevirtual 388, 3) := by decide +kernel
theorem dX9_digest_79 : decode cX9_digest 79 = .ok (.lstore_n 1, 1) := by decide +kernel
theorem dX9_digest_80 : decode cX9_digest 80 = .ok (.ldc2_w 379, 3) := by decide +kernel
theorem dX9_digest_83 : decode cX9_digest 83 = .ok (.lload_n 1, 1) := by decide +kernel
theorem dX9_digest_84 : decode cX9_digest 84 = .ok (.lmul, 1) := by decide +kernel
theorem dX9_digest_85 : decode cX9_digest 85 = .ok (.aload_n 0, 1) := by decide +kernel
theorem dX9_digest_86 : decode cX9_digest 86 = .ok (.getfield 48, 3) := by decide +kernel
theorem dX9_digest_89 : decode cX9_digest 89 = .ok (.getfield 225, 3) := by decide +kernel
theorem dX9_digest_92 : decode cX9_digest 92 = .ok (.ladd, 1) := by decide +kernel
theorem dX9_digest_93 : decode cX9_digest 93 = .ok (.lstore_n 1, 1) := by decide +kernel
theorem dX9_digest_94 : decode cX9_digest 94 = .ok (.ldc2_w 379, 3) := by decide +kernel
theorem dX9_digest_97 : decode cX9_digest 97 = .ok (.lload_n 1, 1) := by decide +kernel
theorem dX9_digest_98 : decode cX9_digest 98 = .ok (.lmul, 1) := by decide +kernel
theorem dX9_digest_99 : decode cX9_digest 99 = .ok (.aload_n 0, 1) := by decide +kernel
theorem dX9_digest_100 : decode cX9_digest 100 = .ok (.getfield 48, 3) := by decide +kernel
theorem dX9_digest_103 : decode cX9_digest 103 = .ok (.getfield 229, 3) := by decide +kernel
theorem dX9_digest_106 : decode cX9_digest 106 = .ok (.ladd, 1) := by decide +kernel
theorem dX9_digest_107 : decode cX9_digest 107 = .ok (.lstore_n 1, 1) := by decide +kernel
theorem dX9_digest_108 : decode cX9_digest 108 = .ok (.aload_n 0, 1) := by decide +kernel
theorem dX9_digest_109 : decode cX9_digest 109 = .ok (.getfield 14, 3) := by decide +kernel
theorem dX9_digest_112 : decode cX9_digest 112 = .ok (.lload_n 1, 1) := by decide +kernel
theorem dX9_digest_113 : decode cX9_digest 113 = .ok (.invokevirtual 389, 3) := by decide +kernel
theorem dX9_digest_116 : decode cX9_digest 116 = .ok (.lstore_n 1, 1) := by decide +kernel
theorem dX9_digest_117 : decode cX9_digest 117 = .ok (.aload_n 0, 1) := by decide +kernel
theorem dX9_digest_118 : decode cX9_digest 118 = .ok (.getfield 18, 3) := by decide +kernel
theorem dX9_digest_121 : decode cX9_digest 121 = .ok (.lload_n 1, 1) := by decide +kernel
theorem dX9_digest_122 : decode cX9_digest 122 = .ok (.invokevirtual 389, 3) := by decide +kernel
theorem dX9_digest_125 : decode cX9_digest 125 = .ok (.lreturn, 1) := by decide +kernel
theorem s_X9_digest_0 {n : Int} {d : Nat} {Q : Int → Hp → Prop} {h : Hp} : Ws (EF n) d mX9_digest Q 0 [(2, 0), (9, 0), (9, 0), (9, 0)] [] h = Ws (EF n) d mX9_digest Q 3 [(2, 0), (9, 0), (9, 0), (9, 0)] [(1, 17)] h := x_ldc2 dX9_digest_0 (by decide +kernel)
theorem s_X9_digest_3 {n : Int} {d : Nat} {Q : Int → Hp → Prop} {h : Hp} {b0 : Int} : Ws (EF n) d mX9_digest Q 3 [(2, 0), (9, 0), (9, 0), (9, 0)] [(1, b0)] h = Ws (EF n) d mX9_digest Q 4 [(2, 0), (1, b0), (9, 0), (9, 0)] [] h := x_lstore_n dX9_digest_3 rfl
theorem s_X9_digest_4 {n : Int} {d : Nat} {Q : Int → Hp → Prop} {h : Hp} {a1 : Int} : Ws (EF n) d mX9_digest Q 4 [(2, 0), (1, a1), (9, 0), (9, 0)] [] h = Ws (EF n) d mX9_digest Q 5 [(2, 0), (1, a1), (9, 0), (9, 0)] [(0, 0)] h := x_iconst dX9_digest_4 (by decide)
theorem s_X9_digest_5 {n : Int} {d : Nat} {Q : Int → Hp → Prop} {h : Hp} {a1 b0 : Int} : Ws (EF n) d mX9_digest Q 5 [(2, 0), (1, a1), (9, 0), (9, 0)] [(0, b0)] h = Ws (EF n) d mX9_digest Q 6 [(2, 0), (1, a1), (9, 0), (0, b0)] [] h := x_istore_n dX9_digest_5 rfl
theorem s_X9_digest_6 {n : Int} {d : Nat} {Q : Int → Hp → Prop} {h : Hp} {a1 a3 : Int} : Ws (EF n) d mX9_digest Q 6 [(2, 0), (1, a1), (9, 0), (0, a3)] [] h = Ws (EF n) d mX9_digest Q 7 [(2, 0), (1, a1), (9, 0), (0, a3)] [(0, a3)] h := x_iload_n dX9_digest_6 rfl
theorem s_X9_digest_7 {n : Int} {d : Nat} {Q : Int → Hp → Prop} {h : Hp} {a1 a3 b0 : Int} : Ws (EF n) d mX9_digest Q 7 [(2, 0), (1, a1), (9, 0), (0, a3)] [(0, b0)] h = Ws (EF n) d mX9_digest Q 9 [(2, 0), (1, a1), (9, 0), (0, a3)] [(0, 8), (0, b0)] h := x_bipush dX9_digest_7 (by decide)
theorem s_X9_digest_9 {n : Int} {d : Nat} {Q : Int → Hp → Prop} {h : Hp} {a1 a3 b0 b1 : Int} : Ws (EF n) d mX9_digest Q 9 [(2, 0), (1, a1), (9, 0), (0, a3)] [(0, b0), (0, b1)] h = (if b0 < b1 then Ws (EF n) d mX9_digest Q 31 [(2, 0), (1, a1), (9, 0), (0, a3)] [] h else Ws (EF n) d mX9_digest Q 12 [(2, 0), (1, a1), (9, 0), (0, a3)] [] h) := x_icmp_gt dX9_digest_9 (by decide) rfl
theorem s_X9_digest_31 {n : Int} {d : Nat} {Q : Int → Hp → Prop} {h : Hp} {a1 a3 : Int} : Ws (EF n) d mX9_digest Q 31 [(2, 0), (1, a1), (9, 0), (0, a3)] [] h = Ws (EF n) d mX9_digest Q 32 [(2, 0), (1, a1), (9, 0), (0, a3)] [(2, 0)] h := x_aload_n dX9_digest_31 rfl
theorem s_X9_digest_32 {n : Int} {d : Nat} {Q : Int → Hp → Prop} {h : Hp} {a1 a3 : Int} : Ws (EF n) d mX9_digest Q 32 [(2, 0), (1, a1), (9, 0), (0, a3)] [(2, 0)] h = Ws (EF n) d mX9_digest Q 35 [(2, 0), (1, a1), (9, 0), (0, a3)] [(2, 11)] h := x_getR dX9_digest_32 fl_9_34 sk_0 (EF_ref n (by decide) (by decide) rt_0_4) (by decide)
theorem s_X9_digest_35 {n : Int} {d : Nat} {Q : Int → Hp → Prop} {h : Hp} {a1 a3 : Int} : Ws (EF n) d mX9_digest Q 35 [(2, 0), (1, a1), (9, 0), (0, a3)] [(2, 11)] h = Ws (EF n) d mX9_digest Q 36 [(2, 0), (1, a1), (9, 0), (0, a3)] [(1, a1), (2, 11)] h := x_lload_n dX9_digest_35 rfl
theorem s_X9_digest_36 {n : Int} {d : Nat} {Q : Int → Hp → Prop} {h : Hp} {a1 a3 b0 : Int} : Ws (EF n) d mX9_digest Q 36 [(2, 0), (1, a1), (9, 0), (0, a3)] [(1, b0), (2, 11)] h = wpS (EF n) d mX8_fold [(2, 11), (1, b0)] h (fun r h' => Ws (EF n) d mX9_digest Q 39 [(2, 0), (1, a1), (9, 0), (0, a3)] [(1, r)] (h')) := x_cv dX9_digest_36 cl_9_384 (by decide) rfl rfl rfl (Nat.le_of_ble_eq_true rfl) ⟨by decide, by decide⟩ rfl rfl sk_11
theorem s_X9_digest_39 {n : Int} {d : Nat} {Q : Int → Hp → Prop} {h : Hp} {a1 a3 b0 : Int} : Ws (EF n) d mX9_digest Q 39 [(2, 0), (1, a1), (9, 0), (0, a3)] [(1, b0)] h = Ws (EF n) d mX9_digest Q 40 [(2, 0), (1, b0), (9, 0), (0, a3)] [] h := x_lstore_n dX9_digest_39 rfl
theorem s_X9_digest_40 {n : Int} {d : Nat} {Q : Int → Hp → Prop} {h : Hp} {a1 a3 : Int} : Ws (EF n) d mX9_digest Q 40 [(2, 0), (1, a1), (9, 0), (0, a3)] [] h = Ws (EF n) d mX9_digest Q 41 [(2, 0), (1, a1), (9, 0), (0, a3)] [(0, 0)] h := x_iconst dX9_digest_40 (by decide)
theorem s_X9_digest_41 {n : Int} {d : Nat} {Q : Int → Hp → Prop} {h : Hp} {a1 a3 b0 : Int} : Ws (EF n) d mX9_digest Q 41 [(2, 0), (1, a1), (9, 0), (0, a3)] [(0, b0)] h = Ws (EF n) d mX9_digest Q 42 [(2, 0), (1, a1), (9, 0), (0, b0)] [] h := x_istore_n dX9_digest_41 rfl
theorem s_X9_digest_12 {n : Int} {d : Nat} {Q : Int → Hp → Prop} {h : Hp} {a1 a3 : Int} : Ws (EF n) d mX9_digest Q 12 [(2, 0), (1, a1), (9, 0), (0, a3)] [] h = Ws (EF n) d mX9_digest Q 15 [(2, 0), (1, a1), (9, 0), (0, a3)] [(1, 31)] h := x_ldc2 dX9_digest_12 (by decide +kernel)
theorem s_X9_digest_15 {n : Int} {d : Nat} {Q : Int → Hp → Prop} {h : Hp} {a1 a3 b0 : Int} : Ws (EF n) d mX9_digest Q 15 [(2, 0), (1, a1), (9, 0), (0, a3)] [(1, b0)] h = Ws (EF n) d mX9_digest Q 16 [(2, 0), (1, a1), (9, 0), (0, a3)] [(1, a1), (1, b0)] h := x_lload_n dX9_digest_15 rfl
theorem s_X9_digest_16 {n : Int} {d : Nat} {Q : Int → Hp → Prop} {h : Hp} {a1 a3 b0 b1 : Int} : Ws (EF n) d mX9_digest Q 16 [(2, 0), (1, a1), (9, 0), (0, a3)] [(1, b0), (1, b1)] h = Ws (EF n) d mX9_digest Q 17 [(2, 0), (1, a1), (9, 0), (0, a3)] [(1, w64 (b1 * b0))] h := x_lmul dX9_digest_16
theorem s_X9_digest_17 {n : Int} {d : Nat} {Q : Int → Hp → Prop} {h : Hp} {a1 a3 b0 : Int} : Ws (EF n) d mX9_digest Q 17 [(2, 0), (1, a1), (9, 0), (0, a3)] [(1, b0)] h = Ws (EF n) d mX9_digest Q 18 [(2, 0), (1, a1), (9, 0), (0, a3)] [(2, 0), (1, b0)] h := x_aload_n dX9_digest_17 rfl
theorem s_X9_digest_18 {n : Int} {d : Nat} {Q : Int → Hp → Prop} {h : Hp} {a1 a3 b1 : Int} : Ws (EF n) d mX9_digest Q 18 [(2, 0), (1, a1), (9, 0), (0, a3)] [(2, 0), (1, b1)] h = Ws (EF n) d mX9_digest Q 19 [(2, 0), (1, a1), (9, 0), (0, a3)] [(0, a3), (2, 0), (1, b1)] h := x_iload_n dX9_digest_18 rfl
theorem s_X9_digest_19 {n : Int} {d : Nat} {Q : Int → Hp → Prop} {h : Hp} {a1 a3 b0 b2 : Int} : Ws (EF n) d mX9_digest Q 19 [(2, 0), (1, a1), (9, 0), (0, a3)] [(0, b0), (2, 0), (1, b2)] h = wpS (EF n) d mX9_count [(2, 0), (0, b0)] h (fun r h' => Ws (EF n) d mX9_digest Q 22 [(2, 0), (1, a1), (9, 0), (0, a3)] [(0, r), (1, b2)] (h')) := x_cv dX9_digest_19 cl_9_381 (by decide) rfl rfl rfl (Nat.le_of_ble_eq_true rfl) ⟨by decide, by decide⟩ rfl rfl sk_0
theorem s_X9_digest_22 {n : Int} {d : Nat} {Q : Int → Hp → Prop} {h : Hp} {a1 a3 b0 b1 : Int} : Ws (EF n) d mX9_digest Q 22 [(2, 0), (1, a1), (9, 0), (0, a3)] [(0, b0), (1, b1)] h = Ws (EF n) d mX9_digest Q 23 [(2, 0), (1, a1), (9, 0), (0, a3)] [(1, b0), (1, b1)] h := x_i2l dX9_digest_22
theorem s_X9_digest_23 {n : Int} {d : Nat} {Q : Int → Hp → Prop} {h : Hp} {a1 a3 b0 b1 : Int} : Ws (EF n) d mX9_digest Q 23 [(2, 0), (1, a1), (9, 0), (0, a3)] [(1, b0), (1, b1)] h = Ws (EF n) d mX9_digest Q 24 [(2, 0), (1, a1), (9, 0), (0, a3)] [(1, w64 (b1 + b0))] h := x_ladd dX9_digest_23
theorem s_X9_digest_24 {n : Int} {d : Nat} {Q : Int → Hp → Prop} {h : Hp} {a1 a3 b0 : Int} : Ws (EF n) d mX9_digest Q 24 [(2, 0), (1, a1), (9, 0), (0, a3)] [(1, b0)] h = Ws (EF n) d mX9_digest Q 25 [(2, 0), (1, b0), (9, 0), (0, a3)] [] h := x_lstore_n dX9_digest_24 rfl
theorem s_X9_digest_25 {n : Int} {d : Nat} {Q : Int → Hp → Prop} {h : Hp} {a1 a3 : Int} : Ws (EF n) d mX9_digest Q 25 [(2, 0), (1, a1), (9, 0), (0, a3)] [] h = Ws (EF n) d mX9_digest Q 28 [(2, 0), (1, a1), (9, 0), (0, w32 (a3 + 1))] [] h := x_iinc dX9_digest_25 rfl rfl
theorem s_X9_digest_28 {n : Int} {d : Nat} {Q : Int → Hp → Prop} {h : Hp} {a1 a3 : Int} : Ws (EF n) d mX9_digest Q 28 [(2, 0), (1, a1), (9, 0), (0, a3)] [] h = Ws (EF n) d mX9_digest Q 6 [(2, 0), (1, a1), (9, 0), (0, a3)] [] h := x_goto dX9_digest_28 (by decide) rfl
theorem s_X9_digest_42 {n : Int} {d : Nat} {Q : Int → Hp → Prop} {h : Hp} {a1 a3 : Int} : Ws (EF n) d mX9_digest Q 42 [(2, 0), (1, a1), (9, 0), (0, a3)] [] h = Ws (EF n) d mX9_digest Q 43 [(2, 0), (1, a1), (9, 0), (0, a3)] [(0, a3)] h := x_iload_n dX9_digest_42 rfl
theorem s_X9_digest_43 {n : Int} {d : Nat} {Q : Int → Hp → Prop} {h : Hp} {a1 a3 b0 : Int} : Ws (EF n) d mX9_digest Q 43 [(2, 0), (1, a1), (9, 0), (0, a3)] [(0, b0)] h = Ws (EF n) d mX9_digest Q 45 [(2, 0), (1, a1), (9, 0), (0, a3)] [(0, 6), (0, b0)] h := x_bipush dX9_digest_43 (by decide)
theorem s_X9_digest_45 {n : Int} {d : Nat} {Q : Int → Hp → Prop} {h : Hp} {a1 a3 b0 b1 : Int} : Ws (EF n) d mX9_digest Q 45 [(2, 0), (1, a1), (9, 0), (0, a3)] [(0, b0), (0, b1)] h = (if b1 < b0 then Ws (EF n) d mX9_digest Q 48 [(2, 0), (1, a1), (9, 0), (0, a3)] [] h else Ws (EF n) d mX9_digest Q 71 [(2, 0), (1, a1), (9, 0), (0, a3)] [] h) := x_icmp_ge dX9_digest_45 (by decide) rfl
theorem s_X9_digest_48 {n : Int} {d : Nat} {Q : Int → Hp → Prop} {h : Hp} {a1 a3 : Int} : Ws (EF n) d mX9_digest Q 48 [(2, 0), (1, a1), (9, 0), (0, a3)] [] h = Ws (EF n) d mX9_digest Q 51 [(2, 0), (1, a1), (9, 0), (0, a3)] [(1, 31)] h := x_ldc2 dX9_digest_48 (by decide +kernel)
theorem s_X9_digest_51 {n : Int} {d : Nat} {Q : Int → Hp → Prop} {h : Hp} {a1 a3 b0 : Int} : Ws (EF n) d mX9_digest Q 51 [(2, 0), (1, a1), (9, 0), (0, a3)] [(1, b0)] h = Ws (EF n) d mX9_digest Q 52 [(2, 0), (1, a1), (9, 0), (0, a3)] [(1, a1), (1, b0)] h := x_lload_n dX9_digest_51 rfl
theorem s_X9_digest_52 {n : Int} {d : Nat} {Q : Int → Hp → Prop} {h : Hp} {a1 a3 b0 b1 : Int} : Ws (EF n) d mX9_digest Q 52 [(2, 0), (1, a1), (9, 0), (0, a3)] [(1, b0), (1, b1)] h = Ws (EF n) d mX9_digest Q 53 [(2, 0), (1, a1), (9, 0), (0, a3)] [(1, w64 (b1 * b0))] h := x_lmul dX9_digest_52
theorem s_X9_digest_53 {n : Int} {d : Nat} {Q : Int → Hp → Prop} {h : Hp} {a1 a3 b0 : Int} : Ws (EF n) d mX9_digest Q 53 [(2, 0), (1, a1), (9, 0), (0, a3)] [(1, b0)] h = Ws (EF n) d mX9_digest Q 54 [(2, 0), (1, a1), (9, 0), (0, a3)] [(2, 0), (1, b0)] h := x_aload_n dX9_digest_53 rfl
theorem s_X9_digest_54 {n : Int} {d : Nat} {Q : Int → Hp → Prop} {h : Hp} {a1 a3 b1 : Int} : Ws (EF n) d mX9_digest Q 54 [(2, 0), (1, a1), (9, 0), (0, a3)] [(2, 0), (1, b1)] h = Ws (EF n) d mX9_digest Q 57 [(2, 0), (1, a1), (9, 0), (0, a3)] [(2, 30), (1, b1)] h := x_getR dX9_digest_54 fl_9_55 sk_0 (EF_ref n (by decide) (by decide) rt_0_7) (by decide)
theorem s_X9_digest_57 {n : Int} {d : Nat} {Q : Int → Hp → Prop} {h : Hp} {a1 a3 b1 : Int} : Ws (EF n) d mX9_digest Q 57 [(2, 0), (1, a1), (9, 0), (0, a3)] [(2, 30), (1, b1)] h = Ws (EF n) d mX9_digest Q 60 [(2, 0), (1, a1), (9, 0), (0, a3)] [(2, 31), (1, b1)] h := x_getR dX9_digest_57 fl_9_239 sk_30 (EF_ref n (by decide) (by decide) rt_30_0) (by decide)
theorem s_X9_digest_60 {n : Int} {d : Nat} {Q : Int → Hp → Prop} {h : Hp} {a1 a3 b1 : Int} : Ws (EF n) d mX9_digest Q 60 [(2, 0), (1, a1), (9, 0), (0, a3)] [(2, 31), (1, b1)] h = Ws (EF n) d mX9_digest Q 61 [(2, 0), (1, a1), (9, 0), (0, a3)] [(0, a3), (2, 31), (1, b1)] h := x_iload_n dX9_digest_60 rfl
theorem s_X9_digest_61 {n : Int} {d : Nat} {Q : Int → Hp → Prop} {h : Hp} {a1 a3 b0 b2 : Int} : Ws (EF n) d mX9_digest Q 61 [(2, 0), (1, a1), (9, 0), (0, a3)] [(0, b0), (2, 31), (1, b2)] h = ((0 ≤ b0 ∧ b0 < 6) ∧ Ws (EF n) d mX9_digest Q 62 [(2, 0), (1, a1), (9, 0), (0, a3)] [(0, h 31 b0), (1, b2)] h) := x_iald dX9_digest_61 sk_31 (al_31 (EF n))
theorem s_X9_digest_62 {n : Int} {d : Nat} {Q : Int → Hp → Prop} {h : Hp} {a1 a3 b0 b1 : Int} : Ws (EF n) d mX9_digest Q 62 [(2, 0), (1, a1), (9, 0), (0, a3)] [(0, b0), (1, b1)] h = Ws (EF n) d mX9_digest Q 63 [(2, 0), (1, a1), (9, 0), (0, a3)] [(1, b0), (1, b1)] h := x_i2l dX9_digest_62
theorem s_X9_digest_63 {n : Int} {d : Nat} {Q : Int → Hp → Prop} {h : Hp} {a1 a3 b0 b1 : Int} : Ws (EF n) d mX9_digest Q 63 [(2, 0), (1, a1), (9, 0), (0, a3)] [(1, b0), (1, b1)] h = Ws (EF n) d mX9_digest Q 64 [(2, 0), (1, a1), (9, 0), (0, a3)] [(1, w64 (b1 + b0))] h := x_ladd dX9_digest_63
theorem s_X9_digest_64 {n : Int} {d : Nat} {Q : Int → Hp → Prop} {h : Hp} {a1 a3 b0 : Int} : Ws (EF n) d mX9_digest Q 64 [(2, 0), (1, a1), (9, 0), (0, a3)] [(1, b0)] h = Ws (EF n) d mX9_digest Q 65 [(2, 0), (1, b0), (9, 0), (0, a3)] [] h := x_lstore_n dX9_digest_64 rfl
theorem s_X9_digest_65 {n : Int} {d : Nat} {Q : Int → Hp → Prop} {h : Hp} {a1 a3 : Int} : Ws (EF n) d mX9_digest Q 65 [(2, 0), (1, a1), (9, 0), (0, a3)] [] h = Ws (EF n) d mX9_digest Q 68 [(2, 0), (1, a1), (9, 0), (0, w32 (a3 + 1))] [] h := x_iinc dX9_digest_65 rfl rfl
theorem s_X9_digest_68 {n : Int} {d : Nat} {Q : Int → Hp → Prop} {h : Hp} {a1 a3 : Int} : Ws (EF n) d mX9_digest Q 68 [(2, 0), (1, a1), (9, 0), (0, a3)] [] h = Ws (EF n) d mX9_digest Q 42 [(2, 0), (1, a1), (9, 0), (0, a3)] [] h := x_goto dX9_digest_68 (by decide) rfl
theorem s_X9_digest_71 {n : Int} {d : Nat} {Q : Int → Hp → Prop} {h : Hp} {a1 a3 : Int} : Ws (EF n) d mX9_digest Q 71 [(2, 0), (1, a1), (9, 0), (0, a3)] [] h = Ws (EF n) d mX9_digest Q 72 [(2, 0), (1, a1), (9, 0), (0, a3)] [(2, 0)] h := x_aload_n dX9_digest_71 rfl
theorem s_X9_digest_72 {n : Int} {d : Nat} {Q : Int → Hp → Prop} {h : Hp} {a1 a3 : Int} : Ws (EF n) d mX9_digest Q 72 [(2, 0), (1, a1), (9, 0), (0, a3)] [(2, 0)] h = Ws (EF n) d mX9_digest Q 75 [(2, 0), (1, a1), (9, 0), (0, a3)] [(2, 7)] h := x_getR dX9_digest_72 fl_9_24 sk_0 (EF_ref n (by decide) (by decide) rt_0_2) (by decide)
theorem s_X9_digest_75 {n : Int} {d : Nat} {Q : Int → Hp → Prop} {h : Hp} {a1 a3 : Int} : Ws (EF n) d mX9_digest Q 75 [(2, 0), (1, a1), (9, 0), (0, a3)] [(2, 7)] h = Ws (EF n) d mX9_digest Q 76 [(2, 0), (1, a1), (9, 0), (0, a3)] [(1, a1), (2, 7)] h := x_lload_n dX9_digest_75 rfl
theorem s_X9_digest_76 {n : Int} {d : Nat} {Q : Int → Hp → Prop} {h : Hp} {a1 a3 b0 : Int} : Ws (EF n) d mX9_digest Q 76 [(2, 0), (1, a1), (9, 0), (0, a3)] [(1, b0), (2, 7)] h = wpS (EF n) d mX4_fold [(2, 7), (1, b0)] h (fun r h' => Ws (EF n) d mX9_digest Q 79 [(2, 0), (1, a1), (9, 0), (0, a3)] [(1, r)] (h')) := x_cv dX9_digest_76 cl_9_388 (by decide) rfl rfl rfl (Nat.le_of_ble_eq_true rfl) ⟨by decide, by decide⟩ rfl rfl sk_7
theorem s_X9_digest_79 {n : Int} {d : Nat} {Q : Int → Hp → Prop} {h : Hp} {a1 a3 b0 : Int} : Ws (EF n) d mX9_digest Q 79 [(2, 0), (1, a1), (9, 0), (0, a3)] [(1, b0)] h = Ws (EF n) d mX9_digest Q 80 [(2, 0), (1, b0), (9, 0), (0, a3)] [] h := x_lstore_n dX9_digest_79 rfl
theorem s_X9_digest_80 {n : Int} {d : Nat} {Q : Int → Hp → Prop} {h : Hp} {a1 a3 : Int} : Ws (EF n) d mX9_digest Q 80 [(2, 0), (1, a1), (9, 0), (0, a3)] [] h = Ws (EF n) d mX9_digest Q 83 [(2, 0), (1, a1), (9, 0), (0, a3)] [(1, 31)] h := x_ldc2 dX9_digest_80 (by decide +kernel)
theorem s_X9_digest_83 {n : Int} {d : Nat} {Q : Int → Hp → Prop} {h : Hp} {a1 a3 b0 : Int} : Ws (EF n) d mX9_digest Q 83 [(2, 0), (1, a1), (9, 0), (0, a3)] [(1, b0)] h = Ws (EF n) d mX9_digest Q 84 [(2, 0), (1, a1), (9, 0), (0, a3)] [(1, a1), (1, b0)] h := x_lload_n dX9_digest_83 rfl
theorem s_X9_digest_84 {n : Int} {d : Nat} {Q : Int → Hp → Prop} {h : Hp} {a1 a3 b0 b1 : Int} : Ws (EF n) d mX9_digest Q 84 [(2, 0), (1, a1), (9, 0), (0, a3)] [(1, b0), (1, b1)] h = Ws (EF n) d mX9_digest Q 85 [(2, 0), (1, a1), (9, 0), (0, a3)] [(1, w64 (b1 * b0))] h := x_lmul dX9_digest_84
theorem s_X9_digest_85 {n : Int} {d : Nat} {Q : Int → Hp → Prop} {h : Hp} {a1 a3 b0 : Int} : Ws (EF n) d mX9_digest Q 85 [(2, 0), (1, a1), (9, 0), (0, a3)] [(1, b0)] h = Ws (EF n) d mX9_digest Q 86 [(2, 0), (1, a1), (9, 0), (0, a3)] [(2, 0), (1, b0)] h := x_aload_n dX9_digest_85 rfl
theorem s_X9_digest_86 {n : Int} {d : Nat} {Q : Int → Hp → Prop} {h : Hp} {a1 a3 b1 : Int} : Ws (EF n) d mX9_digest Q 86 [(2, 0), (1, a1), (9, 0), (0, a3)] [(2, 0), (1, b1)] h = Ws (EF n) d mX9_digest Q 89 [(2, 0), (1, a1), (9, 0), (0, a3)] [(2, 26), (1, b1)] h := x_getR dX9_digest_86 fl_9_48 sk_0 (EF_ref n (by decide) (by decide) rt_0_6) (by decide)
theorem s_X9_digest_89 {n : Int} {d : Nat} {Q : Int → Hp → Prop} {h : Hp} {a1 a3 b1 : Int} : Ws (EF n) d mX9_digest Q 89 [(2, 0), (1, a1), (9, 0), (0, a3)] [(2, 26), (1, b1)] h = Ws (EF n) d mX9_digest Q 92 [(2, 0), (1, a1), (9, 0), (0, a3)] [(1, h 26 6), (1, b1)] h := x_get (ty := 1) dX9_digest_89 fl_9_225 sk_26 (by decide)
theorem s_X9_digest_92 {n : Int} {d : Nat} {Q : Int → Hp → Prop} {h : Hp} {a1 a3 b0 b1 : Int} : Ws (EF n) d mX9_digest Q 92 [(2, 0), (1, a1), (9, 0), (0, a3)] [(1, b0), (1, b1)] h = Ws (EF n) d mX9_digest Q 93 [(2, 0), (1, a1), (9, 0), (0, a3)] [(1, w64 (b1 + b0))] h := x_ladd dX9_digest_92
theorem s_X9_digest_93 {n : Int} {d : Nat} {Q : Int → Hp → Prop} {h : Hp} {a1 a3 b0 : Int} : Ws (EF n) d mX9_digest Q 93 [(2, 0), (1, a1), (9, 0), (0, a3)] [(1, b0)] h = Ws (EF n) d mX9_digest Q 94 [(2, 0), (1, b0), (9, 0), (0, a3)] [] h := x_lstore_n dX9_digest_93 rfl
theorem s_X9_digest_94 {n : Int} {d : Nat} {Q : Int → Hp → Prop} {h : Hp} {a1 a3 : Int} : Ws (EF n) d mX9_digest Q 94 [(2, 0), (1, a1), (9, 0), (0, a3)] [] h = Ws (EF n) d mX9_digest Q 97 [(2, 0), (1, a1), (9, 0), (0, a3)] [(1, 31)] h := x_ldc2 dX9_digest_94 (by decide +kernel)
theorem s_X9_digest_97 {n : Int} {d : Nat} {Q : Int → Hp → Prop} {h : Hp} {a1 a3 b0 : Int} : Ws (EF n) d mX9_digest Q 97 [(2, 0), (1, a1), (9, 0), (0, a3)] [(1, b0)] h = Ws (EF n) d mX9_digest Q 98 [(2, 0), (1, a1), (9, 0), (0, a3)] [(1, a1), (1, b0)] h := x_lload_n dX9_digest_97 rfl
theorem s_X9_digest_98 {n : Int} {d : Nat} {Q : Int → Hp → Prop} {h : Hp} {a1 a3 b0 b1 : Int} : Ws (EF n) d mX9_digest Q 98 [(2, 0), (1, a1), (9, 0), (0, a3)] [(1, b0), (1, b1)] h = Ws (EF n) d mX9_digest Q 99 [(2, 0), (1, a1), (9, 0), (0, a3)] [(1, w64 (b1 * b0))] h := x_lmul dX9_digest_98
theorem s_X9_digest_99 {n : Int} {d : Nat} {Q : Int → Hp → Prop} {h : Hp} {a1 a3 b0 : Int} : Ws (EF n) d mX9_digest Q 99 [(2, 0), (1, a1), (9, 0), (0, a3)] [(1, b0)] h = Ws (EF n) d mX9_digest Q 100 [(2, 0), (1, a1), (9, 0), (0, a3)] [(2, 0), (1, b0)] h := x_aload_n dX9_digest_99 rfl
theorem s_X9_digest_100 {n : Int} {d : Nat} {Q : Int → Hp → Prop} {h : Hp} {a1 a3 b1 : Int} : Ws (EF n) d mX9_digest Q 100 [(2, 0), (1, a1), (9, 0), (0, a3)] [(2, 0), (1, b1)] h = Ws (EF n) d mX9_digest Q 103 [(2, 0), (1, a1), (9, 0), (0, a3)] [(2, 26), (1, b1)] h := x_getR dX9_digest_100 fl_9_48 sk_0 (EF_ref n (by decide) (by decide) rt_0_6) (by decide)
theorem s_X9_digest_103 {n : Int} {d : Nat} {Q : Int → Hp → Prop} {h : Hp} {a1 a3 b1 : Int} : Ws (EF n) d mX9_digest Q 103 [(2, 0), (1, a1), (9, 0), (0, a3)] [(2, 26), (1, b1)] h = Ws (EF n) d mX9_digest Q 106 [(2, 0), (1, a1), (9, 0), (0, a3)] [(1, h 26 7), (1, b1)] h := x_get (ty := 1) dX9_digest_103 fl_9_229 sk_26 (by decide)
theorem s_X9_digest_106 {n : Int} {d : Nat} {Q : Int → Hp → Prop} {h : Hp} {a1 a3 b0 b1 : Int} : Ws (EF n) d mX9_digest Q 106 [(2, 0), (1, a1), (9, 0), (0, a3)] [(1, b0), (1, b1)] h = Ws (EF n) d mX9_digest Q 107 [(2, 0), (1, a1), (9, 0), (0, a3)] [(1, w64 (b1 + b0))] h := x_ladd dX9_digest_106
theorem s_X9_digest_107 {n : Int} {d : Nat} {Q : Int → Hp → Prop} {h : Hp} {a1 a3 b0 : Int} : Ws (EF n) d mX9_digest Q 107 [(2, 0), (1, a1), (9, 0), (0, a3)] [(1, b0)] h = Ws (EF n) d mX9_digest Q 108 [(2, 0), (1, b0), (9, 0), (0, a3)] [] h := x_lstore_n dX9_digest_107 rfl
theorem s_X9_digest_108 {n : Int} {d : Nat} {Q : Int → Hp → Prop} {h : Hp} {a1 a3 : Int} : Ws (EF n) d mX9_digest Q 108 [(2, 0), (1, a1), (9, 0), (0, a3)] [] h = Ws (EF n) d mX9_digest Q 109 [(2, 0), (1, a1), (9, 0), (0, a3)] [(2, 0)] h := x_aload_n dX9_digest_108 rfl
theorem s_X9_digest_109 {n : Int} {d : Nat} {Q : Int → Hp → Prop} {h : Hp} {a1 a3 : Int} : Ws (EF n) d mX9_digest Q 109 [(2, 0), (1, a1), (9, 0), (0, a3)] [(2, 0)] h = Ws (EF n) d mX9_digest Q 112 [(2, 0), (1, a1), (9, 0), (0, a3)] [(2, 1)] h := x_getR dX9_digest_109 fl_9_14 sk_0 (EF_ref n (by decide) (by decide) rt_0_0) (by decide)
theorem s_X9_digest_112 {n : Int} {d : Nat} {Q : Int → Hp → Prop} {h : Hp} {a1 a3 : Int} : Ws (EF n) d mX9_digest Q 112 [(2, 0), (1, a1), (9, 0), (0, a3)] [(2, 1)] h = Ws (EF n) d mX9_digest Q 113 [(2, 0), (1, a1), (9, 0), (0, a3)] [(1, a1), (2, 1)] h := x_lload_n dX9_digest_112 rfl
theorem s_X9_digest_113 {n : Int} {d : Nat} {Q : Int → Hp → Prop} {h : Hp} {a1 a3 b0 : Int} : Ws (EF n) d mX9_digest Q 113 [(2, 0), (1, a1), (9, 0), (0, a3)] [(1, b0), (2, 1)] h = wpS (EF n) d mX7_fold [(2, 1), (1, b0)] h (fun r h' => Ws (EF n) d mX9_digest Q 116 [(2, 0), (1, a1), (9, 0), (0, a3)] [(1, r)] (h')) := x_cv dX9_digest_113 cl_9_389 (by decide) rfl rfl rfl (Nat.le_of_ble_eq_true rfl) ⟨by decide, by decide⟩ rfl rfl sk_1
theorem s_X9_digest_116 {n : Int} {d : Nat} {Q : Int → Hp → Prop} {h : Hp} {a1 a3 b0 : Int} : Ws (EF n) d mX9_digest Q 116 [(2, 0), (1, a1), (9, 0), (0, a3)] [(1, b0)] h = Ws (EF n) d mX9_digest Q 117 [(2, 0), (1, b0), (9, 0), (0, a3)] [] h := x_lstore_n dX9_digest_116 rfl
theorem s_X9_digest_117 {n : Int} {d : Nat} {Q : Int → Hp → Prop} {h : Hp} {a1 a3 : Int} : Ws (EF n) d mX9_digest Q 117 [(2, 0), (1, a1), (9, 0), (0, a3)] [] h = Ws (EF n) d mX9_digest Q 118 [(2, 0), (1, a1), (9, 0), (0, a3)] [(2, 0)] h := x_aload_n dX9_digest_117 rfl
theorem s_X9_digest_118 {n : Int} {d : Nat} {Q : Int → Hp → Prop} {h : Hp} {a1 a3 : Int} : Ws (EF n) d mX9_digest Q 118 [(2, 0), (1, a1), (9, 0), (0, a3)] [(2, 0)] h = Ws (EF n) d mX9_digest Q 121 [(2, 0), (1, a1), (9, 0), (0, a3)] [(2, 4)] h := x_getR dX9_digest_118 fl_9_18 sk_0 (EF_ref n (by decide) (by decide) rt_0_1) (by decide)
theorem s_X9_digest_121 {n : Int} {d : Nat} {Q : Int → Hp → Prop} {h : Hp} {a1 a3 : Int} : Ws (EF n) d mX9_digest Q 121 [(2, 0), (1, a1), (9, 0), (0, a3)] [(2, 4)] h = Ws (EF n) d mX9_digest Q 122 [(2, 0), (1, a1), (9, 0), (0, a3)] [(1, a1), (2, 4)] h := x_lload_n dX9_digest_121 rfl
theorem s_X9_digest_122 {n : Int} {d : Nat} {Q : Int → Hp → Prop} {h : Hp} {a1 a3 b0 : Int} : Ws (EF n) d mX9_digest Q 122 [(2, 0), (1, a1), (9, 0), (0, a3)] [(1, b0), (2, 4)] h = wpS (EF n) d mX7_fold [(2, 4), (1, b0)] h (fun r h' => Ws (EF n) d mX9_digest Q 125 [(2, 0), (1, a1), (9, 0), (0, a3)] [(1, r)] (h')) := x_cv dX9_digest_122 cl_9_389 (by decide) rfl rfl rfl (Nat.le_of_ble_eq_true rfl) ⟨by decide, by decide⟩ rfl rfl sk_4
theorem s_X9_digest_125 {n : Int} {d : Nat} {Q : Int → Hp → Prop} {h : Hp} {a1 a3 b0 : Int} : Ws (EF n) d mX9_digest Q 125 [(2, 0), (1, a1), (9, 0), (0, a3)] [(1, b0)] h = Q b0 h := x_lret dX9_digest_125 rfl
theorem b_X9_digest_0 {n : Int} {d : Nat} {Q : Int → Hp → Prop} {h : Hp} : Ws (EF n) d mX9_digest Q 0 [(2, 0), (9, 0), (9, 0), (9, 0)] [] h = Ws (EF n) d mX9_digest Q 6 [(2, 0), (1, 17), (9, 0), (0, 0)] [] h := (s_X9_digest_0).trans ((s_X9_digest_3).trans ((s_X9_digest_4).trans (s_X9_digest_5)))
theorem b_X9_digest_6 {n : Int} {d : Nat} {Q : Int → Hp → Prop} {h : Hp} {a1 a3 : Int} : Ws (EF n) d mX9_digest Q 6 [(2, 0), (1, a1), (9, 0), (0, a3)] [] h = (if 8 < a3 then wpS (EF n) d mX8_fold [(2, 11), (1, a1)] h (fun r1 h1 => Ws (EF n) d mX9_digest Q 42 [(2, 0), (1, r1), (9, 0), (0, 0)] [] h1) else wpS (EF n) d mX9_count [(2, 0), (0, a3)] h (fun r1 h1 => Ws (EF n) d mX9_digest Q 6 [(2, 0), (1, w64 (w64 (31 * a1) + r1)), (9, 0), (0, w32 (a3 + 1))] [] h1)) := (s_X9_digest_6).trans ((s_X9_digest_7).trans ((s_X9_digest_9).trans (ite_c ((s_X9_digest_31).trans ((s_X9_digest_32).trans ((s_X9_digest_35).trans ((s_X9_digest_36).trans (call_c (fun r1 h1 => (s_X9_digest_39).trans ((s_X9_digest_40).trans (s_X9_digest_41)))))))) ((s_X9_digest_12).trans ((s_X9_digest_15).trans ((s_X9_digest_16).trans ((s_X9_digest_17).trans ((s_X9_digest_18).trans ((s_X9_digest_19).trans (call_c (fun r1 h1 => (s_X9_digest_22).trans ((s_X9_digest_23).trans ((s_X9_digest_24).trans ((s_X9_digest_25).trans (s_X9_digest_28)))))))))))))))
theorem b_X9_digest_42 {n : Int} {d : Nat} {Q : Int → Hp → Prop} {h : Hp} {a1 a3 : Int} : Ws (EF n) d mX9_digest Q 42 [(2, 0), (1, a1), (9, 0), (0, a3)] [] h = (if a3 < 6 then ((0 ≤ a3 ∧ a3 < 6) ∧ Ws (EF n) d mX9_digest Q 42 [(2, 0), (1, w64 (w64 (31 * a1) + h 31 a3)), (9, 0), (0, w32 (a3 + 1))] [] h) else wpS (EF n) d mX4_fold [(2, 7), (1, a1)] h (fun r1 h1 => wpS (EF n) d mX7_fold [(2, 1), (1, w64 (w64 (31 * (w64 (w64 (31 * r1) + h1 26 6))) + h1 26 7))] h1 (fun r2 h2 => wpS (EF n) d mX7_fold [(2, 4), (1, r2)] h2 (fun r3 h3 => Q r3 h3)))) := (s_X9_digest_42).trans ((s_X9_digest_43).trans ((s_X9_digest_45).trans (ite_c ((s_X9_digest_48).trans ((s_X9_digest_51).trans ((s_X9_digest_52).trans ((s_X9_digest_53).trans ((s_X9_digest_54).trans ((s_X9_digest_57).trans ((s_X9_digest_60).trans ((s_X9_digest_61).trans (and_c ((s_X9_digest_62).trans ((s_X9_digest_63).trans ((s_X9_digest_64).trans ((s_X9_digest_65).trans (s_X9_digest_68)))))))))))))) ((s_X9_digest_71).trans ((s_X9_digest_72).trans ((s_X9_digest_75).trans ((s_X9_digest_76).trans (call_c (fun r1 h1 => (s_X9_digest_79).trans ((s_X9_digest_80).trans ((s_X9_digest_83).trans ((s_X9_digest_84).trans ((s_X9_digest_85).trans ((s_X9_digest_86).trans ((s_X9_digest_89).trans ((s_X9_digest_92).trans ((s_X9_digest_93).trans ((s_X9_digest_94).trans ((s_X9_digest_97).trans ((s_X9_digest_98).trans ((s_X9_digest_99).trans ((s_X9_digest_100).trans ((s_X9_digest_103).trans ((s_X9_digest_106).trans ((s_X9_digest_107).trans ((s_X9_digest_108).trans ((s_X9_digest_109).trans ((s_X9_digest_112).trans ((s_X9_digest_113).trans (call_c (fun r2 h2 => (s_X9_digest_116).trans ((s_X9_digest_117).trans ((s_X9_digest_118).trans ((s_X9_digest_121).trans ((s_X9_digest_122).trans (call_c (fun r3 h3 => s_X9_digest_125)))))))))))))))))))))))))))))))))))))
/-! X9_refuse -/
theorem dX9_refuse_0 : decode cX9_refuse 0 = .ok (.aload_n 0, 1) := by decide +kernel
theorem dX9_refuse_1 : decode cX9_refuse 1 = .ok (.iload_n 1, 1) := by decide +kernel
theorem dX9_refuse_2 : decode cX9_refuse 2 = .ok (.putfield 374, 3) := by decide +kernel
theorem dX9_refuse_5 : decode cX9_refuse 5 = .ok (.aload_n 0, 1) := by decide +kernel
theorem dX9_refuse_6 : decode cX9_refuse 6 = .ok (.getfield 83, 3) := by decide +kernel
theorem dX9_refuse_9 : decode cX9_refuse 9 = .ok (.iload_n 1, 1) := by decide +kernel
theorem dX9_refuse_10 : decode cX9_refuse 10 = .ok (.dup2, 1) := by decide +kernel
theorem dX9_refuse_11 : decode cX9_refuse 11 = .ok (.iaload, 1) := by decide +kernel
theorem dX9_refuse_12 : decode cX9_refuse 12 = .ok (.iconst 1, 1) := by decide +kernel
theorem dX9_refuse_13 : decode cX9_refuse 13 = .ok (.iadd, 1) := by decide +kernel
theorem dX9_refuse_14 : decode cX9_refuse 14 = .ok (.iastore, 1) := by decide +kernel
theorem dX9_refuse_15 : decode cX9_refuse 15 = .ok (.bipush (-3), 2) := by decide +kernel
theorem dX9_refuse_17 : decode cX9_refuse 17 = .ok (.ireturn, 1) := by decide +kernel
theorem s_X9_refuse_0 {n : Int} {d : Nat} {Q : Int → Hp → Prop} {h : Hp} {a1 : Int} : Ws (EF n) d mX9_refuse Q 0 [(2, 0), (0, a1)] [] h = Ws (EF n) d mX9_refuse Q 1 [(2, 0), (0, a1)] [(2, 0)] h := x_aload_n dX9_refuse_0 rfl
theorem s_X9_refuse_1 {n : Int} {d : Nat} {Q : Int → Hp → Prop} {h : Hp} {a1 : Int} : Ws (EF n) d mX9_refuse Q 1 [(2, 0), (0, a1)] [(2, 0)] h = Ws (EF n) d mX9_refuse Q 2 [(2, 0), (0, a1)] [(0, a1), (2, 0)] h := x_iload_n dX9_refuse_1 rfl
theorem s_X9_refuse_2 {n : Int} {d : Nat} {Q : Int → Hp → Prop} {h : Hp} {a1 b0 : Int} : Ws (EF n) d mX9_refuse Q 2 [(2, 0), (0, a1)] [(0, b0), (2, 0)] h = Ws (EF n) d mX9_refuse Q 5 [(2, 0), (0, a1)] [] (hst h 0 13 b0) := x_put dX9_refuse_2 fl_9_374 sk_0 (by decide) (EF_ref n (by decide) (by decide) rt_0_13) rfl
theorem s_X9_refuse_5 {n : Int} {d : Nat} {Q : Int → Hp → Prop} {h : Hp} {a1 : Int} : Ws (EF n) d mX9_refuse Q 5 [(2, 0), (0, a1)] [] h = Ws (EF n) d mX9_refuse Q 6 [(2, 0), (0, a1)] [(2, 0)] h := x_aload_n dX9_refuse_5 rfl
theorem s_X9_refuse_6 {n : Int} {d : Nat} {Q : Int → Hp → Prop} {h : Hp} {a1 : Int} : Ws (EF n) d mX9_refuse Q 6 [(2, 0), (0, a1)] [(2, 0)] h = Ws (EF n) d mX9_refuse Q 9 [(2, 0), (0, a1)] [(2, 49)] h := x_getR dX9_refuse_6 fl_9_83 sk_0 (EF_ref n (by decide) (by decide) rt_0_12) (by decide)
theorem s_X9_refuse_9 {n : Int} {d : Nat} {Q : Int → Hp → Prop} {h : Hp} {a1 : Int} : Ws (EF n) d mX9_refuse Q 9 [(2, 0), (0, a1)] [(2, 49)] h = Ws (EF n) d mX9_refuse Q 10 [(2, 0), (0, a1)] [(0, a1), (2, 49)] h := x_iload_n dX9_refuse_9 rfl
theorem s_X9_refuse_10 {n : Int} {d : Nat} {Q : Int → Hp → Prop} {h : Hp} {a1 b0 : Int} : Ws (EF n) d mX9_refuse Q 10 [(2, 0), (0, a1)] [(0, b0), (2, 49)] h = Ws (EF n) d mX9_refuse Q 11 [(2, 0), (0, a1)] [(0, b0), (2, 49), (0, b0), (2, 49)] h := x_dup2 dX9_refuse_10 (by decide)
theorem s_X9_refuse_11 {n : Int} {d : Nat} {Q : Int → Hp → Prop} {h : Hp} {a1 b0 b2 : Int} : Ws (EF n) d mX9_refuse Q 11 [(2, 0), (0, a1)] [(0, b0), (2, 49), (0, b2), (2, 49)] h = ((0 ≤ b0 ∧ b0 < 6) ∧ Ws (EF n) d mX9_refuse Q 12 [(2, 0), (0, a1)] [(0, h 49 b0), (0, b2), (2, 49)] h) := x_iald dX9_refuse_11 sk_49 (al_49 (EF n))
theorem s_X9_refuse_12 {n : Int} {d : Nat} {Q : Int → Hp → Prop} {h : Hp} {a1 b0 b1 : Int} : Ws (EF n) d mX9_refuse Q 12 [(2, 0), (0, a1)] [(0, b0), (0, b1), (2, 49)] h = Ws (EF n) d mX9_refuse Q 13 [(2, 0), (0, a1)] [(0, 1), (0, b0), (0, b1), (2, 49)] h := x_iconst dX9_refuse_12 (by decide)
theorem s_X9_refuse_13 {n : Int} {d : Nat} {Q : Int → Hp → Prop} {h : Hp} {a1 b0 b1 b2 : Int} : Ws (EF n) d mX9_refuse Q 13 [(2, 0), (0, a1)] [(0, b0), (0, b1), (0, b2), (2, 49)] h = Ws (EF n) d mX9_refuse Q 14 [(2, 0), (0, a1)] [(0, w32 (b1 + b0)), (0, b2), (2, 49)] h := x_iadd dX9_refuse_13
theorem s_X9_refuse_14 {n : Int} {d : Nat} {Q : Int → Hp → Prop} {h : Hp} {a1 b0 b1 : Int} : Ws (EF n) d mX9_refuse Q 14 [(2, 0), (0, a1)] [(0, b0), (0, b1), (2, 49)] h = ((0 ≤ b1 ∧ b1 < 6) ∧ Ws (EF n) d mX9_refuse Q 15 [(2, 0), (0, a1)] [] (hst h 49 b1 b0)) := x_iast dX9_refuse_14 sk_49 (by decide) (al_49 (EF n))
theorem s_X9_refuse_15 {n : Int} {d : Nat} {Q : Int → Hp → Prop} {h : Hp} {a1 : Int} : Ws (EF n) d mX9_refuse Q 15 [(2, 0), (0, a1)] [] h = Ws (EF n) d mX9_refuse Q 17 [(2, 0), (0, a1)] [(0, (-3))] h := x_bipush dX9_refuse_15 (by decide)
theorem s_X9_refuse_17 {n : Int} {d : Nat} {Q : Int → Hp → Prop} {h : Hp} {a1 b0 : Int} : Ws (EF n) d mX9_refuse Q 17 [(2, 0), (0, a1)] [(0, b0)] h = Q b0 h := x_ireti dX9_refuse_17 rfl
theorem b_X9_refuse_0 {n : Int} {d : Nat} {Q : Int → Hp → Prop} {h : Hp} {a1 : Int} : Ws (EF n) d mX9_refuse Q 0 [(2, 0), (0, a1)] [] h = ((0 ≤ a1 ∧ a1 < 6) ∧ ((0 ≤ a1 ∧ a1 < 6) ∧ Q (-3) (hst (hst h 0 13 a1) 49 a1 (w32 ((hst h 0 13 a1) 49 a1 + 1))))) := (s_X9_refuse_0).trans ((s_X9_refuse_1).trans ((s_X9_refuse_2).trans ((s_X9_refuse_5).trans ((s_X9_refuse_6).trans ((s_X9_refuse_9).trans ((s_X9_refuse_10).trans ((s_X9_refuse_11).trans (and_c ((s_X9_refuse_12).trans ((s_X9_refuse_13).trans ((s_X9_refuse_14).trans (and_c ((s_X9_refuse_15).trans (s_X9_refuse_17))))))))))))))
/-! X9_turn -/
theorem dX9_turn_0 : decode cX9_turn 0 = .ok (.iload_n 1, 1) := by decide +kernel
theorem dX9_turn_1 : decode cX9_turn 1 = .ok (.invokestatic 136, 3) := by decide +kernel
theorem dX9_turn_4 : decode cX9_turn 4 = .ok (.ifCond .ne 5, 3) := by decide +kernel
theorem dX9_turn_7 : decode cX9_turn 7 = .ok (.iconst (-1), 1) := by decide +kernel
theorem dX9_turn_8 : decode cX9_turn 8 = .ok (.ireturn, 1) := by decide +kernel
theorem dX9_turn_9 : decode cX9_turn 9 = .ok (.aload_n 0, 1) := by decide +kernel
theorem dX9_turn_10 : decode cX9_turn 10 = .ok (.getfield 34, 3) := by decide +kernel
theorem dX9_turn_13 : decode cX9_turn 13 = .ok (.iload_n 1, 1) := by decide +kernel
theorem dX9_turn_14 : decode cX9_turn 14 = .ok (.invokevirtual 142, 3) := by decide +kernel
theorem dX9_turn_17 : decode cX9_turn 17 = .ok (.ifCond .ne 9, 3) := by decide +kernel
theorem dX9_turn_20 : decode cX9_turn 20 = .ok (.aload_n 0, 1) := by decide +kernel
theorem dX9_turn_21 : decode cX9_turn 21 = .ok (.iconst 1, 1) := by decide +kernel
theorem dX9_turn_22 : decode cX9_turn 22 = .ok (.invokevirtual 91, 3) := by decide +kernel
theorem dX9_turn_25 : decode cX9_turn 25 = .ok (.ireturn, 1) := by decide +kernel
theorem dX9_turn_26 : decode cX9_turn 26 = .ok (.aload_n 0, 1) := by decide +kernel
theorem dX9_turn_27 : decode cX9_turn 27 = .ok (.getfield 34, 3) := by decide +kernel
theorem dX9_turn_30 : decode cX9_turn 30 = .ok (.getfield 149, 3) := by decide +kernel
theorem dX9_turn_33 : decode cX9_turn 33 = .ok (.iload_n 1, 1) := by decide +kernel
theorem dX9_turn_34 : decode cX9_turn 34 = .ok (.iaload, 1) := by decide +kernel
theorem dX9_turn_35 : decode cX9_turn 35 = .ok (.iload_n 2, 1) := by decide +kernel
theorem dX9_turn_36 : decode cX9_turn 36 = .ok (.if_icmp .eq 9, 3) := by decide +kernel
theorem dX9_turn_39 : decode cX9_turn 39 = .ok (.aload_n 0, 1) := by decide +kernel
theorem dX9_turn_40 : decode cX9_turn 40 = .ok (.iconst 3, 1) := by decide +kernel
theorem dX9_turn_41 : decode cX9_turn 41 = .ok (.invokevirtual 91, 3) := by decide +kernel
theorem dX9_turn_44 : decode cX9_turn 44 = .ok (.ireturn, 1) := by decide +kernel
theorem dX9_turn_45 : decode cX9_turn 45 = .ok (.aload_n 0, 1) := by decide +kernel
theorem dX9_turn_46 : decode cX9_turn 46 = .ok (.getfield 34, 3) := by decide +kernel
theorem dX9_turn_49 : decode cX9_turn 49 = .ok (.iload_n 1, 1) := by decide +kernel
theorem dX9_turn_50 : decode cX9_turn 50 = .ok (.iload_n 3, 1) := by decide +kernel
theorem dX9_turn_51 : decode cX9_turn 51 = .ok (.invokevirtual 390, 3) := by decide +kernel
theorem dX9_turn_54 : decode cX9_turn 54 = .ok (.iconst 1, 1) := by decide +kernel
theorem dX9_turn_55 : decode cX9_turn 55 = .ok (.ireturn, 1) := by decide +kernel
theorem s_X9_turn_0 {n : Int} {d : Nat} {Q : Int → Hp → Prop} {h : Hp} {a1 a2 a3 : Int} : Ws (EF n) d mX9_turn Q 0 [(2, 0), (0, a1), (0, a2), (0, a3)] [] h = Ws (EF n) d mX9_turn Q 1 [(2, 0), (0, a1), (0, a2), (0, a3)] [(0, a1)] h := x_iload_n dX9_turn_0 rfl
theorem s_X9_turn_1 {n : Int} {d : Nat} {Q : Int → Hp → Prop} {h : Hp} {a1 a2 a3 b0 : Int} : Ws (EF n) d mX9_turn Q 1 [(2, 0), (0, a1), (0, a2), (0, a3)] [(0, b0)] h = wpS (EF n) d mX9_isName [(0, b0)] h (fun r h' => Ws (EF n) d mX9_turn Q 4 [(2, 0), (0, a1), (0, a2), (0, a3)] [(0, r)] (h')) := x_cs dX9_turn_1 cl_9_136 (by decide) rfl rfl rfl (Nat.le_of_ble_eq_true rfl) ⟨by decide, by decide⟩ rfl rfl
theorem s_X9_turn_4 {n : Int} {d : Nat} {Q : Int → Hp → Prop} {h : Hp} {a1 a2 a3 b0 : Int} : Ws (EF n) d mX9_turn Q 4 [(2, 0), (0, a1), (0, a2), (0, a3)] [(0, b0)] h = (if b0 = 0 then Ws (EF n) d mX9_turn Q 7 [(2, 0), (0, a1), (0, a2), (0, a3)] [] h else Ws (EF n) d mX9_turn Q 9 [(2, 0), (0, a1), (0, a2), (0, a3)] [] h) := x_if_ne dX9_turn_4 (by decide) rfl
theorem s_X9_turn_7 {n : Int} {d : Nat} {Q : Int → Hp → Prop} {h : Hp} {a1 a2 a3 : Int} : Ws (EF n) d mX9_turn Q 7 [(2, 0), (0, a1), (0, a2), (0, a3)] [] h = Ws (EF n) d mX9_turn Q 8 [(2, 0), (0, a1), (0, a2), (0, a3)] [(0, (-1))] h := x_iconst dX9_turn_7 (by decide)
theorem s_X9_turn_8 {n : Int} {d : Nat} {Q : Int → Hp → Prop} {h : Hp} {a1 a2 a3 b0 : Int} : Ws (EF n) d mX9_turn Q 8 [(2, 0), (0, a1), (0, a2), (0, a3)] [(0, b0)] h = Q b0 h := x_ireti dX9_turn_8 rfl
theorem s_X9_turn_9 {n : Int} {d : Nat} {Q : Int → Hp → Prop} {h : Hp} {a1 a2 a3 : Int} : Ws (EF n) d mX9_turn Q 9 [(2, 0), (0, a1), (0, a2), (0, a3)] [] h = Ws (EF n) d mX9_turn Q 10 [(2, 0), (0, a1), (0, a2), (0, a3)] [(2, 0)] h := x_aload_n dX9_turn_9 rfl
theorem s_X9_turn_10 {n : Int} {d : Nat} {Q : Int → Hp → Prop} {h : Hp} {a1 a2 a3 : Int} : Ws (EF n) d mX9_turn Q 10 [(2, 0), (0, a1), (0, a2), (0, a3)] [(2, 0)] h = Ws (EF n) d mX9_turn Q 13 [(2, 0), (0, a1), (0, a2), (0, a3)] [(2, 11)] h := x_getR dX9_turn_10 fl_9_34 sk_0 (EF_ref n (by decide) (by decide) rt_0_4) (by decide)
theorem s_X9_turn_13 {n : Int} {d : Nat} {Q : Int → Hp → Prop} {h : Hp} {a1 a2 a3 : Int} : Ws (EF n) d mX9_turn Q 13 [(2, 0), (0, a1), (0, a2), (0, a3)] [(2, 11)] h = Ws (EF n) d mX9_turn Q 14 [(2, 0), (0, a1), (0, a2), (0, a3)] [(0, a1), (2, 11)] h := x_iload_n dX9_turn_13 rfl
theorem s_X9_turn_14 {n : Int} {d : Nat} {Q : Int → Hp → Prop} {h : Hp} {a1 a2 a3 b0 : Int} : Ws (EF n) d mX9_turn Q 14 [(2, 0), (0, a1), (0, a2), (0, a3)] [(0, b0), (2, 11)] h = wpS (EF n) d mX8_isThere [(2, 11), (0, b0)] h (fun r h' => Ws (EF n) d mX9_turn Q 17 [(2, 0), (0, a1), (0, a2), (0, a3)] [(0, r)] (h')) := x_cv dX9_turn_14 cl_9_142 (by decide) rfl rfl rfl (Nat.le_of_ble_eq_true rfl) ⟨by decide, by decide⟩ rfl rfl sk_11
theorem s_X9_turn_17 {n : Int} {d : Nat} {Q : Int → Hp → Prop} {h : Hp} {a1 a2 a3 b0 : Int} : Ws (EF n) d mX9_turn Q 17 [(2, 0), (0, a1), (0, a2), (0, a3)] [(0, b0)] h = (if b0 = 0 then Ws (EF n) d mX9_turn Q 20 [(2, 0), (0, a1), (0, a2), (0, a3)] [] h else Ws (EF n) d mX9_turn Q 26 [(2, 0), (0, a1), (0, a2), (0, a3)] [] h) := x_if_ne dX9_turn_17 (by decide) rfl
theorem s_X9_turn_20 {n : Int} {d : Nat} {Q : Int → Hp → Prop} {h : Hp} {a1 a2 a3 : Int} : Ws (EF n) d mX9_turn Q 20 [(2, 0), (0, a1), (0, a2), (0, a3)] [] h = Ws (EF n) d mX9_turn Q 21 [(2, 0), (0, a1), (0, a2), (0, a3)] [(2, 0)] h := x_aload_n dX9_turn_20 rfl
theorem s_X9_turn_21 {n : Int} {d : Nat} {Q : Int → Hp → Prop} {h : Hp} {a1 a2 a3 : Int} : Ws (EF n) d mX9_turn Q 21 [(2, 0), (0, a1), (0, a2), (0, a3)] [(2, 0)] h = Ws (EF n) d mX9_turn Q 22 [(2, 0), (0, a1), (0, a2), (0, a3)] [(0, 1), (2, 0)] h := x_iconst dX9_turn_21 (by decide)
theorem s_X9_turn_22 {n : Int} {d : Nat} {Q : Int → Hp → Prop} {h : Hp} {a1 a2 a3 b0 : Int} : Ws (EF n) d mX9_turn Q 22 [(2, 0), (0, a1), (0, a2), (0, a3)] [(0, b0), (2, 0)] h = wpS (EF n) d mX9_refuse [(2, 0), (0, b0)] h (fun r h' => Ws (EF n) d mX9_turn Q 25 [(2, 0), (0, a1), (0, a2), (0, a3)] [(0, r)] (h')) := x_cv dX9_turn_22 cl_9_91 (by decide) rfl rfl rfl (Nat.le_of_ble_eq_true rfl) ⟨by decide, by decide⟩ rfl rfl sk_0
theorem s_X9_turn_25 {n : Int} {d : Nat} {Q : Int → Hp → Prop} {h : Hp} {a1 a2 a3 b0 : Int} : Ws (EF n) d mX9_turn Q 25 [(2, 0), (0, a1), (0, a2), (0, a3)] [(0, b0)] h = Q b0 h := x_ireti dX9_turn_25 rfl
theorem s_X9_turn_26 {n : Int} {d : Nat} {Q : Int → Hp → Prop} {h : Hp} {a1 a2 a3 : Int} : Ws (EF n) d mX9_turn Q 26 [(2, 0), (0, a1), (0, a2), (0, a3)] [] h = Ws (EF n) d mX9_turn Q 27 [(2, 0), (0, a1), (0, a2), (0, a3)] [(2, 0)] h := x_aload_n dX9_turn_26 rfl
theorem s_X9_turn_27 {n : Int} {d : Nat} {Q : Int → Hp → Prop} {h : Hp} {a1 a2 a3 : Int} : Ws (EF n) d mX9_turn Q 27 [(2, 0), (0, a1), (0, a2), (0, a3)] [(2, 0)] h = Ws (EF n) d mX9_turn Q 30 [(2, 0), (0, a1), (0, a2), (0, a3)] [(2, 11)] h := x_getR dX9_turn_27 fl_9_34 sk_0 (EF_ref n (by decide) (by decide) rt_0_4) (by decide)
theorem s_X9_turn_30 {n : Int} {d : Nat} {Q : Int → Hp → Prop} {h : Hp} {a1 a2 a3 : Int} : Ws (EF n) d mX9_turn Q 30 [(2, 0), (0, a1), (0, a2), (0, a3)] [(2, 11)] h = Ws (EF n) d mX9_turn Q 33 [(2, 0), (0, a1), (0, a2), (0, a3)] [(2, 12)] h := x_getR dX9_turn_30 fl_9_149 sk_11 (EF_ref n (by decide) (by decide) rt_11_0) (by decide)
theorem s_X9_turn_33 {n : Int} {d : Nat} {Q : Int → Hp → Prop} {h : Hp} {a1 a2 a3 : Int} : Ws (EF n) d mX9_turn Q 33 [(2, 0), (0, a1), (0, a2), (0, a3)] [(2, 12)] h = Ws (EF n) d mX9_turn Q 34 [(2, 0), (0, a1), (0, a2), (0, a3)] [(0, a1), (2, 12)] h := x_iload_n dX9_turn_33 rfl
theorem s_X9_turn_34 {n : Int} {d : Nat} {Q : Int → Hp → Prop} {h : Hp} {a1 a2 a3 b0 : Int} : Ws (EF n) d mX9_turn Q 34 [(2, 0), (0, a1), (0, a2), (0, a3)] [(0, b0), (2, 12)] h = ((0 ≤ b0 ∧ b0 < 336) ∧ Ws (EF n) d mX9_turn Q 35 [(2, 0), (0, a1), (0, a2), (0, a3)] [(0, h 12 b0)] h) := x_iald dX9_turn_34 sk_12 (al_12 (EF n))
theorem s_X9_turn_35 {n : Int} {d : Nat} {Q : Int → Hp → Prop} {h : Hp} {a1 a2 a3 b0 : Int} : Ws (EF n) d mX9_turn Q 35 [(2, 0), (0, a1), (0, a2), (0, a3)] [(0, b0)] h = Ws (EF n) d mX9_turn Q 36 [(2, 0), (0, a1), (0, a2), (0, a3)] [(0, a2), (0, b0)] h := x_iload_n dX9_turn_35 rfl
theorem s_X9_turn_36 {n : Int} {d : Nat} {Q : Int → Hp → Prop} {h : Hp} {a1 a2 a3 b0 b1 : Int} : Ws (EF n) d mX9_turn Q 36 [(2, 0), (0, a1), (0, a2), (0, a3)] [(0, b0), (0, b1)] h = (if b1 = b0 then Ws (EF n) d mX9_turn Q 45 [(2, 0), (0, a1), (0, a2), (0, a3)] [] h else Ws (EF n) d mX9_turn Q 39 [(2, 0), (0, a1), (0, a2), (0, a3)] [] h) := x_icmp_eq dX9_turn_36 (by decide) rfl
theorem s_X9_turn_45 {n : Int} {d : Nat} {Q : Int → Hp → Prop} {h : Hp} {a1 a2 a3 : Int} : Ws (EF n) d mX9_turn Q 45 [(2, 0), (0, a1), (0, a2), (0, a3)] [] h = Ws (EF n) d mX9_turn Q 46 [(2, 0), (0, a1), (0, a2), (0, a3)] [(2, 0)] h := x_aload_n dX9_turn_45 rfl
theorem s_X9_turn_46 {n : Int} {d : Nat} {Q : Int → Hp → Prop} {h : Hp} {a1 a2 a3 : Int} : Ws (EF n) d mX9_turn Q 46 [(2, 0), (0, a1), (0, a2), (0, a3)] [(2, 0)] h = Ws (EF n) d mX9_turn Q 49 [(2, 0), (0, a1), (0, a2), (0, a3)] [(2, 11)] h := x_getR dX9_turn_46 fl_9_34 sk_0 (EF_ref n (by decide) (by decide) rt_0_4) (by decide)
theorem s_X9_turn_49 {n : Int} {d : Nat} {Q : Int → Hp → Prop} {h : Hp} {a1 a2 a3 : Int} : Ws (EF n) d mX9_turn Q 49 [(2, 0), (0, a1), (0, a2), (0, a3)] [(2, 11)] h = Ws (EF n) d mX9_turn Q 50 [(2, 0), (0, a1), (0, a2), (0, a3)] [(0, a1), (2, 11)] h := x_iload_n dX9_turn_49 rfl
theorem s_X9_turn_50 {n : Int} {d : Nat} {Q : Int → Hp → Prop} {h : Hp} {a1 a2 a3 b0 : Int} : Ws (EF n) d mX9_turn Q 50 [(2, 0), (0, a1), (0, a2), (0, a3)] [(0, b0), (2, 11)] h = Ws (EF n) d mX9_turn Q 51 [(2, 0), (0, a1), (0, a2), (0, a3)] [(0, a3), (0, b0), (2, 11)] h := x_iload_n dX9_turn_50 rfl
theorem s_X9_turn_51 {n : Int} {d : Nat} {Q : Int → Hp → Prop} {h : Hp} {a1 a2 a3 b0 b1 : Int} : Ws (EF n) d mX9_turn Q 51 [(2, 0), (0, a1), (0, a2), (0, a3)] [(0, b0), (0, b1), (2, 11)] h = wpS (EF n) d mX8_become [(2, 11), (0, b1), (0, b0)] h (fun r h' => Ws (EF n) d mX9_turn Q 54 [(2, 0), (0, a1), (0, a2), (0, a3)] [] (h')) := x_cv dX9_turn_51 cl_9_390 (by decide) rfl rfl rfl (Nat.le_of_ble_eq_true rfl) ⟨by decide, by decide⟩ rfl rfl sk_11
theorem s_X9_turn_54 {n : Int} {d : Nat} {Q : Int → Hp → Prop} {h : Hp} {a1 a2 a3 : Int} : Ws (EF n) d mX9_turn Q 54 [(2, 0), (0, a1), (0, a2), (0, a3)] [] h = Ws (EF n) d mX9_turn Q 55 [(2, 0), (0, a1), (0, a2), (0, a3)] [(0, 1)] h := x_iconst dX9_turn_54 (by decide)
theorem s_X9_turn_55 {n : Int} {d : Nat} {Q : Int → Hp → Prop} {h : Hp} {a1 a2 a3 b0 : Int} : Ws (EF n) d mX9_turn Q 55 [(2, 0), (0, a1), (0, a2), (0, a3)] [(0, b0)] h = Q b0 h := x_ireti dX9_turn_55 rfl
theorem s_X9_turn_39 {n : Int} {d : Nat} {Q : Int → Hp → Prop} {h : Hp} {a1 a2 a3 : Int} : Ws (EF n) d mX9_turn Q 39 [(2, 0), (0, a1), (0, a2), (0, a3)] [] h = Ws (EF n) d mX9_turn Q 40 [(2, 0), (0, a1), (0, a2), (0, a3)] [(2, 0)] h := x_aload_n dX9_turn_39 rfl
theorem s_X9_turn_40 {n : Int} {d : Nat} {Q : Int → Hp → Prop} {h : Hp} {a1 a2 a3 : Int} : Ws (EF n) d mX9_turn Q 40 [(2, 0), (0, a1), (0, a2), (0, a3)] [(2, 0)] h = Ws (EF n) d mX9_turn Q 41 [(2, 0), (0, a1), (0, a2), (0, a3)] [(0, 3), (2, 0)] h := x_iconst dX9_turn_40 (by decide)
theorem s_X9_turn_41 {n : Int} {d : Nat} {Q : Int → Hp → Prop} {h : Hp} {a1 a2 a3 b0 : Int} : Ws (EF n) d mX9_turn Q 41 [(2, 0), (0, a1), (0, a2), (0, a3)] [(0, b0), (2, 0)] h = wpS (EF n) d mX9_refuse [(2, 0), (0, b0)] h (fun r h' => Ws (EF n) d mX9_turn Q 44 [(2, 0), (0, a1), (0, a2), (0, a3)] [(0, r)] (h')) := x_cv dX9_turn_41 cl_9_91 (by decide) rfl rfl rfl (Nat.le_of_ble_eq_true rfl) ⟨by decide, by decide⟩ rfl rfl sk_0
theorem s_X9_turn_44 {n : Int} {d : Nat} {Q : Int → Hp → Prop} {h : Hp} {a1 a2 a3 b0 : Int} : Ws (EF n) d mX9_turn Q 44 [(2, 0), (0, a1), (0, a2), (0, a3)] [(0, b0)] h = Q b0 h := x_ireti dX9_turn_44 rfl
theorem b_X9_turn_0 {n : Int} {d : Nat} {Q : Int → Hp → Prop} {h : Hp} {a1 a2 a3 : Int} : Ws (EF n) d mX9_turn Q 0 [(2, 0), (0, a1), (0, a2), (0, a3)] [] h = wpS (EF n) d mX9_isName [(0, a1)] h (fun r1 h1 => (if r1 = 0 then Q (-1) h1 else wpS (EF n) d mX8_isThere [(2, 11), (0, a1)] h1 (fun r2 h2 => (if r2 = 0 then wpS (EF n) d mX9_refuse [(2, 0), (0, 1)] h2 (fun r3 h3 => Q r3 h3) else ((0 ≤ a1 ∧ a1 < 336) ∧ (if h2 12 a1 = a2 then wpS (EF n) d mX8_become [(2, 11), (0, a1), (0, a3)] h2 (fun r3 h3 => Q 1 h3) else wpS (EF n) d mX9_refuse [(2, 0), (0, 3)] h2 (fun r3 h3 => Q r3 h3))))))) := (s_X9_turn_0).trans ((s_X9_turn_1).trans (call_c (fun r1 h1 => (s_X9_turn_4).trans (ite_c ((s_X9_turn_7).trans (s_X9_turn_8)) ((s_X9_turn_9).trans ((s_X9_turn_10).trans ((s_X9_turn_13).trans ((s_X9_turn_14).trans (call_c (fun r2 h2 => (s_X9_turn_17).trans (ite_c ((s_X9_turn_20).trans ((s_X9_turn_21).trans ((s_X9_turn_22).trans (call_c (fun r3 h3 => s_X9_turn_25))))) ((s_X9_turn_26).trans ((s_X9_turn_27).trans ((s_X9_turn_30).trans ((s_X9_turn_33).trans ((s_X9_turn_34).trans (and_c ((s_X9_turn_35).trans ((s_X9_turn_36).trans (ite_c ((s_X9_turn_45).trans ((s_X9_turn_46).trans ((s_X9_turn_49).trans ((s_X9_turn_50).trans ((s_X9_turn_51).trans (call_c (fun r3 h3 => (s_X9_turn_54).trans (s_X9_turn_55)))))))) ((s_X9_turn_39).trans ((s_X9_turn_40).trans ((s_X9_turn_41).trans (call_c (fun r3 h3 => s_X9_turn_44)))))))))))))))))))))))))
/-! X9_keptIn -/
theorem dX9_keptIn_0 : decode cX9_keptIn 0 = .ok (.iload_n 1, 1) := by decide +kernel
theorem dX9_keptIn_1 : decode cX9_keptIn 1 = .ok (.ifCond .ne 10, 3) := by decide +kernel
theorem dX9_keptIn_4 : decode cX9_keptIn 4 = .ok (.aload_n 0, 1) := by decide +kernel
theorem dX9_keptIn_5 : decode cX9_keptIn 5 = .ok (.getfield 62, 3) := by decide +kernel
theorem dX9_keptIn_8 : decode cX9_keptIn 8 = .ok (.goto 7, 3) := by decide +kernel
theorem dX9_keptIn_11 : decode cX9_keptIn 11 = .ok (.aload_n 0, 1) := by decide +kernel
theorem dX9_keptIn_12 : decode cX9_keptIn 12 = .ok (.getfield 66, 3) := by decide +kernel
theorem dX9_keptIn_15 : decode cX9_keptIn 15 = .ok (.areturn, 1) := by decide +kernel
theorem s_X9_keptIn_0 {n : Int} {d : Nat} {Q : Int → Hp → Prop} {h : Hp} {a1 : Int} : Ws (EF n) d mX9_keptIn Q 0 [(2, 0), (0, a1)] [] h = Ws (EF n) d mX9_keptIn Q 1 [(2, 0), (0, a1)] [(0, a1)] h := x_iload_n dX9_keptIn_0 rfl
theorem s_X9_keptIn_1 {n : Int} {d : Nat} {Q : Int → Hp → Prop} {h : Hp} {a1 b0 : Int} : Ws (EF n) d mX9_keptIn Q 1 [(2, 0), (0, a1)] [(0, b0)] h = (if b0 = 0 then Ws (EF n) d mX9_keptIn Q 4 [(2, 0), (0, a1)] [] h else Ws (EF n) d mX9_keptIn Q 11 [(2, 0), (0, a1)] [] h) := x_if_ne dX9_keptIn_1 (by decide) rfl
theorem s_X9_keptIn_4 {n : Int} {d : Nat} {Q : Int → Hp → Prop} {h : Hp} {a1 : Int} : Ws (EF n) d mX9_keptIn Q 4 [(2, 0), (0, a1)] [] h = Ws (EF n) d mX9_keptIn Q 5 [(2, 0), (0, a1)] [(2, 0)] h := x_aload_n dX9_keptIn_4 rfl
theorem s_X9_keptIn_5 {n : Int} {d : Nat} {Q : Int → Hp → Prop} {h : Hp} {a1 : Int} : Ws (EF n) d mX9_keptIn Q 5 [(2, 0), (0, a1)] [(2, 0)] h = Ws (EF n) d mX9_keptIn Q 8 [(2, 0), (0, a1)] [(2, 37)] h := x_getR dX9_keptIn_5 fl_9_62 sk_0 (EF_ref n (by decide) (by decide) rt_0_8) (by decide)
theorem s_X9_keptIn_8 {n : Int} {d : Nat} {Q : Int → Hp → Prop} {h : Hp} {a1 : Int} : Ws (EF n) d mX9_keptIn Q 8 [(2, 0), (0, a1)] [(2, 37)] h = Ws (EF n) d mX9_keptIn Q 15 [(2, 0), (0, a1)] [(2, 37)] h := x_goto dX9_keptIn_8 (by decide) rfl
theorem s_X9_keptIn_15 {n : Int} {d : Nat} {Q : Int → Hp → Prop} {h : Hp} {a1 : Int} : Ws (EF n) d mX9_keptIn Q 15 [(2, 0), (0, a1)] [(2, 37)] h = Q 37 h := x_aret dX9_keptIn_15 rfl
theorem s_X9_keptIn_11 {n : Int} {d : Nat} {Q : Int → Hp → Prop} {h : Hp} {a1 : Int} : Ws (EF n) d mX9_keptIn Q 11 [(2, 0), (0, a1)] [] h = Ws (EF n) d mX9_keptIn Q 12 [(2, 0), (0, a1)] [(2, 0)] h := x_aload_n dX9_keptIn_11 rfl
theorem s_X9_keptIn_12 {n : Int} {d : Nat} {Q : Int → Hp → Prop} {h : Hp} {a1 : Int} : Ws (EF n) d mX9_keptIn Q 12 [(2, 0), (0, a1)] [(2, 0)] h = Ws (EF n) d mX9_keptIn Q 15 [(2, 0), (0, a1)] [(2, 41)] h := x_getR dX9_keptIn_12 fl_9_66 sk_0 (EF_ref n (by decide) (by decide) rt_0_9) (by decide)
theorem s_X9_keptIn_15_1 {n : Int} {d : Nat} {Q : Int → Hp → Prop} {h : Hp} {a1 : Int} : Ws (EF n) d mX9_keptIn Q 15 [(2, 0), (0, a1)] [(2, 41)] h = Q 41 h := x_aret dX9_keptIn_15 rfl
theorem b_X9_keptIn_0 {n : Int} {d : Nat} {Q : Int → Hp → Prop} {h : Hp} {a1 : Int} : Ws (EF n) d mX9_keptIn Q 0 [(2, 0), (0, a1)] [] h = (if a1 = 0 then Q 37 h else Q 41 h) := (s_X9_keptIn_0).trans ((s_X9_keptIn_1).trans (ite_c ((s_X9_keptIn_4).trans ((s_X9_keptIn_5).trans ((s_X9_keptIn_8).trans (s_X9_keptIn_15)))) ((s_X9_keptIn_11).trans ((s_X9_keptIn_12).trans (s_X9_keptIn_15_1)))))
/-! X9_keptStates -/
theorem dX9_keptStates_0 : decode cX9_keptStates 0 = .ok (.aload_n 0, 1) := by decide +kernel
theorem dX9_keptStates_1 : decode cX9_keptStates 1 = .ok (.getfield 62, 3) := by decide +kernel
theorem dX9_keptStates_4 : decode cX9_keptStates 4 = .ok (.getfield 294, 3) := by decide +kernel
theorem dX9_keptStates_7 : decode cX9_keptStates 7 = .ok (.ifCond .eq 7, 3) := by decide +kernel
theorem dX9_keptStates_10 : decode cX9_keptStates 10 = .ok (.iconst 1, 1) := by decide +kernel
theorem dX9_keptStates_11 : decode cX9_keptStates 11 = .ok (.goto 4, 3) := by decide +kernel
theorem dX9_keptStates_14 : decode cX9_keptStates 14 = .ok (.iconst 0, 1) := by decide +kernel
theorem dX9_keptStates_15 : decode cX9_keptStates 15 = .ok (.aload_n 0, 1) := by decide +kernel
theorem dX9_keptStates_16 : decode cX9_keptStates 16 = .ok (.getfield 66, 3) := by decide +kernel
theorem dX9_keptStates_19 : decode cX9_keptStates 19 = .ok (.getfield 294, 3) := by decide +kernel
theorem dX9_keptStates_22 : decode cX9_keptStates 22 = .ok (.ifCond .eq 7, 3) := by decide +kernel
theorem dX9_keptStates_25 : decode cX9_keptStates 25 = .ok (.iconst 1, 1) := by decide +kernel
theorem dX9_keptStates_26 : decode cX9_keptStates 26 = .ok (.goto 4, 3) := by decide +kernel
theorem dX9_keptStates_29 : decode cX9_keptStates 29 = .ok (.iconst 0, 1) := by decide +kernel
theorem dX9_keptStates_30 : decode cX9_keptStates 30 = .ok (.iadd, 1) := by decide +kernel
theorem dX9_keptStates_31 : decode cX9_keptStates 31 = .ok (.ireturn, 1) := by decide +kernel
theorem s_X9_keptStates_0 {n : Int} {d : Nat} {Q : Int → Hp → Prop} {h : Hp} : Ws (EF n) d mX9_keptStates Q 0 [(2, 0)] [] h = Ws (EF n) d mX9_keptStates Q 1 [(2, 0)] [(2, 0)] h := x_aload_n dX9_keptStates_0 rfl
theorem s_X9_keptStates_1 {n : Int} {d : Nat} {Q : Int → Hp → Prop} {h : Hp} : Ws (EF n) d mX9_keptStates Q 1 [(2, 0)] [(2, 0)] h = Ws (EF n) d mX9_keptStates Q 4 [(2, 0)] [(2, 37)] h := x_getR dX9_keptStates_1 fl_9_62 sk_0 (EF_ref n (by decide) (by decide) rt_0_8) (by decide)
theorem s_X9_keptStates_4 {n : Int} {d : Nat} {Q : Int → Hp → Prop} {h : Hp} : Ws (EF n) d mX9_keptStates Q 4 [(2, 0)] [(2, 37)] h = Ws (EF n) d mX9_keptStates Q 7 [(2, 0)] [(0, h 37 6)] h := x_get (ty := 3) dX9_keptStates_4 fl_9_294 sk_37 (by decide)
theorem s_X9_keptStates_7 {n : Int} {d : Nat} {Q : Int → Hp → Prop} {h : Hp} {b0 : Int} : Ws (EF n) d mX9_keptStates Q 7 [(2, 0)] [(0, b0)] h = (if b0 = 0 then Ws (EF n) d mX9_keptStates Q 14 [(2, 0)] [] h else Ws (EF n) d mX9_keptStates Q 10 [(2, 0)] [] h) := x_if_eq dX9_keptStates_7 (by decide) rfl
theorem s_X9_keptStates_14 {n : Int} {d : Nat} {Q : Int → Hp → Prop} {h : Hp} : Ws (EF n) d mX9_keptStates Q 14 [(2, 0)] [] h = Ws (EF n) d mX9_keptStates Q 15 [(2, 0)] [(0, 0)] h := x_iconst dX9_keptStates_14 (by decide)
theorem s_X9_keptStates_10 {n : Int} {d : Nat} {Q : Int → Hp → Prop} {h : Hp} : Ws (EF n) d mX9_keptStates Q 10 [(2, 0)] [] h = Ws (EF n) d mX9_keptStates Q 11 [(2, 0)] [(0, 1)] h := x_iconst dX9_keptStates_10 (by decide)
theorem s_X9_keptStates_11 {n : Int} {d : Nat} {Q : Int → Hp → Prop} {h : Hp} {b0 : Int} : Ws (EF n) d mX9_keptStates Q 11 [(2, 0)] [(0, b0)] h = Ws (EF n) d mX9_keptStates Q 15 [(2, 0)] [(0, b0)] h := x_goto dX9_keptStates_11 (by decide) rfl
theorem s_X9_keptStates_15 {n : Int} {d : Nat} {Q : Int → Hp → Prop} {h : Hp} {b0 : Int} : Ws (EF n) d mX9_keptStates Q 15 [(2, 0)] [(0, b0)] h = Ws (EF n) d mX9_keptStates Q 16 [(2, 0)] [(2, 0), (0, b0)] h := x_aload_n dX9_keptStates_15 rfl
theorem s_X9_keptStates_16 {n : Int} {d : Nat} {Q : Int → Hp → Prop} {h : Hp} {b1 : Int} : Ws (EF n) d mX9_keptStates Q 16 [(2, 0)] [(2, 0), (0, b1)] h = Ws (EF n) d mX9_keptStates Q 19 [(2, 0)] [(2, 41), (0, b1)] h := x_getR dX9_keptStates_16 fl_9_66 sk_0 (EF_ref n (by decide) (by decide) rt_0_9) (by decide)
theorem s_X9_keptStates_19 {n : Int} {d : Nat} {Q : Int → Hp → Prop} {h : Hp} {b1 : Int} : Ws (EF n) d mX9_keptStates Q 19 [(2, 0)] [(2, 41), (0, b1)] h = Ws (EF n) d mX9_keptStates Q 22 [(2, 0)] [(0, h 41 6), (0, b1)] h := x_get (ty := 3) dX9_keptStates_19 fl_9_294 sk_41 (by decide)
theorem s_X9_keptStates_22 {n : Int} {d : Nat} {Q : Int → Hp → Prop} {h : Hp} {b0 b1 : Int} : Ws (EF n) d mX9_keptStates Q 22 [(2, 0)] [(0, b0), (0, b1)] h = (if b0 = 0 then Ws (EF n) d mX9_keptStates Q 29 [(2, 0)] [(0, b1)] h else Ws (EF n) d mX9_keptStates Q 25 [(2, 0)] [(0, b1)] h) := x_if_eq dX9_keptStates_22 (by decide) rfl
theorem s_X9_keptStates_29 {n : Int} {d : Nat} {Q : Int → Hp → Prop} {h : Hp} {b0 : Int} : Ws (EF n) d mX9_keptStates Q 29 [(2, 0)] [(0, b0)] h = Ws (EF n) d mX9_keptStates Q 30 [(2, 0)] [(0, 0), (0, b0)] h := x_iconst dX9_keptStates_29 (by decide)
theorem s_X9_keptStates_30 {n : Int} {d : Nat} {Q : Int → Hp → Prop} {h : Hp} {b0 b1 : Int} : Ws (EF n) d mX9_keptStates Q 30 [(2, 0)] [(0, b0), (0, b1)] h = Ws (EF n) d mX9_keptStates Q 31 [(2, 0)] [(0, w32 (b1 + b0))] h := x_iadd dX9_keptStates_30
theorem s_X9_keptStates_31 {n : Int} {d : Nat} {Q : Int → Hp → Prop} {h : Hp} {b0 : Int} : Ws (EF n) d mX9_keptStates Q 31 [(2, 0)] [(0, b0)] h = Q b0 h := x_ireti dX9_keptStates_31 rfl
theorem s_X9_keptStates_25 {n : Int} {d : Nat} {Q : Int → Hp → Prop} {h : Hp} {b0 : Int} : Ws (EF n) d mX9_keptStates Q 25 [(2, 0)] [(0, b0)] h = Ws (EF n) d mX9_keptStates Q 26 [(2, 0)] [(0, 1), (0, b0)] h := x_iconst dX9_keptStates_25 (by decide)
theorem s_X9_keptStates_26 {n : Int} {d : Nat} {Q : Int → Hp → Prop} {h : Hp} {b0 b1 : Int} : Ws (EF n) d mX9_keptStates Q 26 [(2, 0)] [(0, b0), (0, b1)] h = Ws (EF n) d mX9_keptStates Q 30 [(2, 0)] [(0, b0), (0, b1)] h := x_goto dX9_keptStates_26 (by decide) rfl
theorem b_X9_keptStates_0 {n : Int} {d : Nat} {Q : Int → Hp → Prop} {h : Hp} : Ws (EF n) d mX9_keptStates Q 0 [(2, 0)] [] h = (if h 37 6 = 0 then Ws (EF n) d mX9_keptStates Q 15 [(2, 0)] [(0, 0)] h else Ws (EF n) d mX9_keptStates Q 15 [(2, 0)] [(0, 1)] h) := (s_X9_keptStates_0).trans ((s_X9_keptStates_1).trans ((s_X9_keptStates_4).trans ((s_X9_keptStates_7).trans (ite_c (s_X9_keptStates_14) ((s_X9_keptStates_10).trans (s_X9_keptStates_11))))))
theorem b_X9_keptStates_15 {n : Int} {d : Nat} {Q : Int → Hp → Prop} {h : Hp} {b0 : Int} : Ws (EF n) d mX9_keptStates Q 15 [(2, 0)] [(0, b0)] h = (if h 41 6 = 0 then Q (w32 (b0 + 0)) h else Q (w32 (b0 + 1)) h) := (s_X9_keptStates_15).trans ((s_X9_keptStates_16).trans ((s_X9_keptStates_19).trans ((s_X9_keptStates_22).trans (ite_c ((s_X9_keptStates_29).trans ((s_X9_keptStates_30).trans (s_X9_keptStates_31))) ((s_X9_keptStates_25).trans ((s_X9_keptStates_26).trans ((s_X9_keptStates_30).trans (s_X9_keptStates_31))))))))
/-! X9_isName -/
theorem dX9_isName_0 : decode cX9_isName 0 = .ok (.iload_n 0, 1) := by decide +kernel
theorem dX9_isName_1 : decode cX9_isName 1 = .ok (.ifCond .lt 14, 3) := by decide +kernel
theorem dX9_isName_4 : decode cX9_isName 4 = .ok (.iload_n 0, 1) := by decide +kernel
theorem dX9_isName_5 : decode cX9_isName 5 = .ok (.sipush 336, 3) := by decide +kernel
theorem dX9_isName_8 : decode cX9_isName 8 = .ok (.if_icmp .ge 7, 3) := by decide +kernel
theorem dX9_isName_11 : decode cX9_isName 11 = .ok (.iconst 1, 1) := by decide +kernel
theorem dX9_isName_12 : decode cX9_isName 12 = .ok (.goto 4, 3) := by decide +kernel
theorem dX9_isName_15 : decode cX9_isName 15 = .ok (.iconst 0, 1) := by decide +kernel
theorem dX9_isName_16 : decode cX9_isName 16 = .ok (.ireturn, 1) := by decide +kernel
theorem s_X9_isName_0 {E : PvEnv} {d : Nat} {Q : Int → Hp → Prop} {h : Hp} {a0 : Int} : Ws E d mX9_isName Q 0 [(0, a0)] [] h = Ws E d mX9_isName Q 1 [(0, a0)] [(0, a0)] h := x_iload_n dX9_isName_0 rfl
theorem s_X9_isName_1 {E : PvEnv} {d : Nat} {Q : Int → Hp → Prop} {h : Hp} {a0 b0 : Int} : Ws E d mX9_isName Q 1 [(0, a0)] [(0, b0)] h = (if b0 < 0 then Ws E d mX9_isName Q 15 [(0, a0)] [] h else Ws E d mX9_isName Q 4 [(0, a0)] [] h) := x_if_lt dX9_isName_1 (by decide) rfl
theorem s_X9_isName_15 {E : PvEnv} {d : Nat} {Q : Int → Hp → Prop} {h : Hp} {a0 : Int} : Ws E d mX9_isName Q 15 [(0, a0)] [] h = Ws E d mX9_isName Q 16 [(0, a0)] [(0, 0)] h := x_iconst dX9_isName_15 (by decide)
theorem s_X9_isName_16 {E : PvEnv} {d : Nat} {Q : Int → Hp → Prop} {h : Hp} {a0 : Int} : Ws E d mX9_isName Q 16 [(0, a0)] [(0, 0)] h = Q 0 h := x_iretz dX9_isName_16 rfl (Or.inl rfl)
theorem s_X9_isName_4 {E : PvEnv} {d : Nat} {Q : Int → Hp → Prop} {h : Hp} {a0 : Int} : Ws E d mX9_isName Q 4 [(0, a0)] [] h = Ws E d mX9_isName Q 5 [(0, a0)] [(0, a0)] h := x_iload_n dX9_isName_4 rfl
theorem s_X9_isName_5 {E : PvEnv} {d : Nat} {Q : Int → Hp → Prop} {h : Hp} {a0 b0 : Int} : Ws E d mX9_isName Q 5 [(0, a0)] [(0, b0)] h = Ws E d mX9_isName Q 8 [(0, a0)] [(0, 336), (0, b0)] h := x_sipush dX9_isName_5 (by decide)
theorem s_X9_isName_8 {E : PvEnv} {d : Nat} {Q : Int → Hp → Prop} {h : Hp} {a0 b0 b1 : Int} : Ws E d mX9_isName Q 8 [(0, a0)] [(0, b0), (0, b1)] h = (if b1 < b0 then Ws E d mX9_isName Q 11 [(0, a0)] [] h else Ws E d mX9_isName Q 15 [(0, a0)] [] h) := x_icmp_ge dX9_isName_8 (by decide) rfl
theorem s_X9_isName_11 {E : PvEnv} {d : Nat} {Q : Int → Hp → Prop} {h : Hp} {a0 : Int} : Ws E d mX9_isName Q 11 [(0, a0)] [] h = Ws E d mX9_isName Q 12 [(0, a0)] [(0, 1)] h := x_iconst dX9_isName_11 (by decide)
theorem s_X9_isName_12 {E : PvEnv} {d : Nat} {Q : Int → Hp → Prop} {h : Hp} {a0 b0 : Int} : Ws E d mX9_isName Q 12 [(0, a0)] [(0, b0)] h = Ws E d mX9_isName Q 16 [(0, a0)] [(0, b0)] h := x_goto dX9_isName_12 (by decide) rfl
theorem s_X9_isName_16_1 {E : PvEnv} {d : Nat} {Q : Int → Hp → Prop} {h : Hp} {a0 : Int} : Ws E d mX9_isName Q 16 [(0, a0)] [(0, 1)] h = Q 1 h := x_iretz dX9_isName_16 rfl (Or.inr rfl)
theorem b_X9_isName_0 {E : PvEnv} {d : Nat} {Q : Int → Hp → Prop} {h : Hp} {a0 : Int} : Ws E d mX9_isName Q 0 [(0, a0)] [] h = (if a0 < 0 then Q 0 h else (if a0 < 336 then Q 1 h else Q 0 h)) := (s_X9_isName_0).trans ((s_X9_isName_1).trans (ite_c ((s_X9_isName_15).trans (s_X9_isName_16)) ((s_X9_isName_4).trans ((s_X9_isName_5).trans ((s_X9_isName_8).trans (ite_c ((s_X9_isName_11).trans ((s_X9_isName_12).trans (s_X9_isName_16_1))) ((s_X9_isName_15).trans (s_X9_isName_16))))))))
/-! X9_isAmount -/
theorem dX9_isAmount_0 : decode cX9_isAmount 0 = .ok (.iload_n 0, 1) := by decide +kernel
theorem dX9_isAmount_1 : decode cX9_isAmount 1 = .ok (.ifCond .lt 13, 3) := by decide +kernel
theorem dX9_isAmount_4 : decode cX9_isAmount 4 = .ok (.iload_n 0, 1) := by decide +kernel
theorem dX9_isAmount_5 : decode cX9_isAmount 5 = .ok (.ldc 183, 2) := by decide +kernel
theorem dX9_isAmount_7 : decode cX9_isAmount 7 = .ok (.if_icmp .gt 7, 3) := by decide +kernel
theorem dX9_isAmount_10 : decode cX9_isAmount 10 = .ok (.iconst 1, 1) := by decide +kernel
theorem dX9_isAmount_11 : decode cX9_isAmount 11 = .ok (.goto 4, 3) := by decide +kernel
theorem dX9_isAmount_14 : decode cX9_isAmount 14 = .ok (.iconst 0, 1) := by decide +kernel
theorem dX9_isAmount_15 : decode cX9_isAmount 15 = .ok (.ireturn, 1) := by decide +kernel
theorem s_X9_isAmount_0 {E : PvEnv} {d : Nat} {Q : Int → Hp → Prop} {h : Hp} {a0 : Int} : Ws E d mX9_isAmount Q 0 [(0, a0)] [] h = Ws E d mX9_isAmount Q 1 [(0, a0)] [(0, a0)] h := x_iload_n dX9_isAmount_0 rfl
theorem s_X9_isAmount_1 {E : PvEnv} {d : Nat} {Q : Int → Hp → Prop} {h : Hp} {a0 b0 : Int} : Ws E d mX9_isAmount Q 1 [(0, a0)] [(0, b0)] h = (if b0 < 0 then Ws E d mX9_isAmount Q 14 [(0, a0)] [] h else Ws E d mX9_isAmount Q 4 [(0, a0)] [] h) := x_if_lt dX9_isAmount_1 (by decide) rfl
theorem s_X9_isAmount_14 {E : PvEnv} {d : Nat} {Q : Int → Hp → Prop} {h : Hp} {a0 : Int} : Ws E d mX9_isAmount Q 14 [(0, a0)] [] h = Ws E d mX9_isAmount Q 15 [(0, a0)] [(0, 0)] h := x_iconst dX9_isAmount_14 (by decide)
theorem s_X9_isAmount_15 {E : PvEnv} {d : Nat} {Q : Int → Hp → Prop} {h : Hp} {a0 : Int} : Ws E d mX9_isAmount Q 15 [(0, a0)] [(0, 0)] h = Q 0 h := x_iretz dX9_isAmount_15 rfl (Or.inl rfl)
theorem s_X9_isAmount_4 {E : PvEnv} {d : Nat} {Q : Int → Hp → Prop} {h : Hp} {a0 : Int} : Ws E d mX9_isAmount Q 4 [(0, a0)] [] h = Ws E d mX9_isAmount Q 5 [(0, a0)] [(0, a0)] h := x_iload_n dX9_isAmount_4 rfl
theorem s_X9_isAmount_5 {E : PvEnv} {d : Nat} {Q : Int → Hp → Prop} {h : Hp} {a0 b0 : Int} : Ws E d mX9_isAmount Q 5 [(0, a0)] [(0, b0)] h = Ws E d mX9_isAmount Q 7 [(0, a0)] [(0, 1000000), (0, b0)] h := x_ldc dX9_isAmount_5 (by decide +kernel)
theorem s_X9_isAmount_7 {E : PvEnv} {d : Nat} {Q : Int → Hp → Prop} {h : Hp} {a0 b0 b1 : Int} : Ws E d mX9_isAmount Q 7 [(0, a0)] [(0, b0), (0, b1)] h = (if b0 < b1 then Ws E d mX9_isAmount Q 14 [(0, a0)] [] h else Ws E d mX9_isAmount Q 10 [(0, a0)] [] h) := x_icmp_gt dX9_isAmount_7 (by decide) rfl
theorem s_X9_isAmount_10 {E : PvEnv} {d : Nat} {Q : Int → Hp → Prop} {h : Hp} {a0 : Int} : Ws E d mX9_isAmount Q 10 [(0, a0)] [] h = Ws E d mX9_isAmount Q 11 [(0, a0)] [(0, 1)] h := x_iconst dX9_isAmount_10 (by decide)
theorem s_X9_isAmount_11 {E : PvEnv} {d : Nat} {Q : Int → Hp → Prop} {h : Hp} {a0 b0 : Int} : Ws E d mX9_isAmount Q 11 [(0, a0)] [(0, b0)] h = Ws E d mX9_isAmount Q 15 [(0, a0)] [(0, b0)] h := x_goto dX9_isAmount_11 (by decide) rfl
theorem s_X9_isAmount_15_1 {E : PvEnv} {d : Nat} {Q : Int → Hp → Prop} {h : Hp} {a0 : Int} : Ws E d mX9_isAmount Q 15 [(0, a0)] [(0, 1)] h = Q 1 h := x_iretz dX9_isAmount_15 rfl (Or.inr rfl)
theorem b_X9_isAmount_0 {E : PvEnv} {d : Nat} {Q : Int → Hp → Prop} {h : Hp} {a0 : Int} : Ws E d mX9_isAmount Q 0 [(0, a0)] [] h = (if a0 < 0 then Q 0 h else (if 1000000 < a0 then Q 0 h else Q 1 h)) := (s_X9_isAmount_0).trans ((s_X9_isAmount_1).trans (ite_c ((s_X9_isAmount_14).trans (s_X9_isAmount_15)) ((s_X9_isAmount_4).trans ((s_X9_isAmount_5).trans ((s_X9_isAmount_7).trans (ite_c ((s_X9_isAmount_14).trans (s_X9_isAmount_15)) ((s_X9_isAmount_10).trans ((s_X9_isAmount_11).trans (s_X9_isAmount_15_1)))))))))
/-! X9_isMachine -/
theorem dX9_isMachine_0 : decode cX9_isMachine 0 = .ok (.iload_n 0, 1) := by decide +kernel
theorem dX9_isMachine_1 : decode cX9_isMachine 1 = .ok (.ifCond .lt 13, 3) := by decide +kernel
theorem dX9_isMachine_4 : decode cX9_isMachine 4 = .ok (.iload_n 0, 1) := by decide +kernel
theorem dX9_isMachine_5 : decode cX9_isMachine 5 = .ok (.bipush 6, 2) := by decide +kernel
theorem dX9_isMachine_7 : decode cX9_isMachine 7 = .ok (.if_icmp .ge 7, 3) := by decide +kernel
theorem dX9_isMachine_10 : decode cX9_isMachine 10 = .ok (.iconst 1, 1) := by decide +kernel
theorem dX9_isMachine_11 : decode cX9_isMachine 11 = .ok (.goto 4, 3) := by decide +kernel
theorem dX9_isMachine_14 : decode cX9_isMachine 14 = .ok (.iconst 0, 1) := by decide +kernel
theorem dX9_isMachine_15 : decode cX9_isMachine 15 = .ok (.ireturn, 1) := by decide +kernel
theorem s_X9_isMachine_0 {E : PvEnv} {d : Nat} {Q : Int → Hp → Prop} {h : Hp} {a0 : Int} : Ws E d mX9_isMachine Q 0 [(0, a0)] [] h = Ws E d mX9_isMachine Q 1 [(0, a0)] [(0, a0)] h := x_iload_n dX9_isMachine_0 rfl
theorem s_X9_isMachine_1 {E : PvEnv} {d : Nat} {Q : Int → Hp → Prop} {h : Hp} {a0 b0 : Int} : Ws E d mX9_isMachine Q 1 [(0, a0)] [(0, b0)] h = (if b0 < 0 then Ws E d mX9_isMachine Q 14 [(0, a0)] [] h else Ws E d mX9_isMachine Q 4 [(0, a0)] [] h) := x_if_lt dX9_isMachine_1 (by decide) rfl
theorem s_X9_isMachine_14 {E : PvEnv} {d : Nat} {Q : Int → Hp → Prop} {h : Hp} {a0 : Int} : Ws E d mX9_isMachine Q 14 [(0, a0)] [] h = Ws E d mX9_isMachine Q 15 [(0, a0)] [(0, 0)] h := x_iconst dX9_isMachine_14 (by decide)
theorem s_X9_isMachine_15 {E : PvEnv} {d : Nat} {Q : Int → Hp → Prop} {h : Hp} {a0 : Int} : Ws E d mX9_isMachine Q 15 [(0, a0)] [(0, 0)] h = Q 0 h := x_iretz dX9_isMachine_15 rfl (Or.inl rfl)
theorem s_X9_isMachine_4 {E : PvEnv} {d : Nat} {Q : Int → Hp → Prop} {h : Hp} {a0 : Int} : Ws E d mX9_isMachine Q 4 [(0, a0)] [] h = Ws E d mX9_isMachine Q 5 [(0, a0)] [(0, a0)] h := x_iload_n dX9_isMachine_4 rfl
theorem s_X9_isMachine_5 {E : PvEnv} {d : Nat} {Q : Int → Hp → Prop} {h : Hp} {a0 b0 : Int} : Ws E d mX9_isMachine Q 5 [(0, a0)] [(0, b0)] h = Ws E d mX9_isMachine Q 7 [(0, a0)] [(0, 6), (0, b0)] h := x_bipush dX9_isMachine_5 (by decide)
theorem s_X9_isMachine_7 {E : PvEnv} {d : Nat} {Q : Int → Hp → Prop} {h : Hp} {a0 b0 b1 : Int} : Ws E d mX9_isMachine Q 7 [(0, a0)] [(0, b0), (0, b1)] h = (if b1 < b0 then Ws E d mX9_isMachine Q 10 [(0, a0)] [] h else Ws E d mX9_isMachine Q 14 [(0, a0)] [] h) := x_icmp_ge dX9_isMachine_7 (by decide) rfl
theorem s_X9_isMachine_10 {E : PvEnv} {d : Nat} {Q : Int → Hp → Prop} {h : Hp} {a0 : Int} : Ws E d mX9_isMachine Q 10 [(0, a0)] [] h = Ws E d mX9_isMachine Q 11 [(0, a0)] [(0, 1)] h := x_iconst dX9_isMachine_10 (by decide)
theorem s_X9_isMachine_11 {E : PvEnv} {d : Nat} {Q : Int → Hp → Prop} {h : Hp} {a0 b0 : Int} : Ws E d mX9_isMachine Q 11 [(0, a0)] [(0, b0)] h = Ws E d mX9_isMachine Q 15 [(0, a0)] [(0, b0)] h := x_goto dX9_isMachine_11 (by decide) rfl
theorem s_X9_isMachine_15_1 {E : PvEnv} {d : Nat} {Q : Int → Hp → Prop} {h : Hp} {a0 : Int} : Ws E d mX9_isMachine Q 15 [(0, a0)] [(0, 1)] h = Q 1 h := x_iretz dX9_isMachine_15 rfl (Or.inr rfl)
theorem b_X9_isMachine_0 {E : PvEnv} {d : Nat} {Q : Int → Hp → Prop} {h : Hp} {a0 : Int} : Ws E d mX9_isMachine Q 0 [(0, a0)] [] h = (if a0 < 0 then Q 0 h else (if a0 < 6 then Q 1 h else Q 0 h)) := (s_X9_isMachine_0).trans ((s_X9_isMachine_1).trans (ite_c ((s_X9_isMachine_14).trans (s_X9_isMachine_15)) ((s_X9_isMachine_4).trans ((s_X9_isMachine_5).trans ((s_X9_isMachine_7).trans (ite_c ((s_X9_isMachine_10).trans ((s_X9_isMachine_11).trans (s_X9_isMachine_15_1))) ((s_X9_isMachine_14).trans (s_X9_isMachine_15))))))))
/-! X9_isSlot -/
theorem dX9_isSlot_0 : decode cX9_isSlot 0 = .ok (.iload_n 0, 1) := by decide +kernel
theorem dX9_isSlot_1 : decode cX9_isSlot 1 = .ok (.ifCond .lt 12, 3) := by decide +kernel
theorem dX9_isSlot_4 : decode cX9_isSlot 4 = .ok (.iload_n 0, 1) := by decide +kernel
theorem dX9_isSlot_5 : decode cX9_isSlot 5 = .ok (.iconst 2, 1) := by decide +kernel
theorem dX9_isSlot_6 : decode cX9_isSlot 6 = .ok (.if_icmp .ge 7, 3) := by decide +kernel
theorem dX9_isSlot_9 : decode cX9_isSlot 9 = .ok (.iconst 1, 1) := by decide +kernel
theorem dX9_isSlot_10 : decode cX9_isSlot 10 = .ok (.goto 4, 3) := by decide +kernel
theorem dX9_isSlot_13 : decode cX9_isSlot 13 = .ok (.iconst 0, 1) := by decide +kernel
theorem dX9_isSlot_14 : decode cX9_isSlot 14 = .ok (.ireturn, 1) := by decide +kernel
theorem s_X9_isSlot_0 {E : PvEnv} {d : Nat} {Q : Int → Hp → Prop} {h : Hp} {a0 : Int} : Ws E d mX9_isSlot Q 0 [(0, a0)] [] h = Ws E d mX9_isSlot Q 1 [(0, a0)] [(0, a0)] h := x_iload_n dX9_isSlot_0 rfl
theorem s_X9_isSlot_1 {E : PvEnv} {d : Nat} {Q : Int → Hp → Prop} {h : Hp} {a0 b0 : Int} : Ws E d mX9_isSlot Q 1 [(0, a0)] [(0, b0)] h = (if b0 < 0 then Ws E d mX9_isSlot Q 13 [(0, a0)] [] h else Ws E d mX9_isSlot Q 4 [(0, a0)] [] h) := x_if_lt dX9_isSlot_1 (by decide) rfl
theorem s_X9_isSlot_13 {E : PvEnv} {d : Nat} {Q : Int → Hp → Prop} {h : Hp} {a0 : Int} : Ws E d mX9_isSlot Q 13 [(0, a0)] [] h = Ws E d mX9_isSlot Q 14 [(0, a0)] [(0, 0)] h := x_iconst dX9_isSlot_13 (by decide)
theorem s_X9_isSlot_14 {E : PvEnv} {d : Nat} {Q : Int → Hp → Prop} {h : Hp} {a0 : Int} : Ws E d mX9_isSlot Q 14 [(0, a0)] [(0, 0)] h = Q 0 h := x_iretz dX9_isSlot_14 rfl (Or.inl rfl)
theorem s_X9_isSlot_4 {E : PvEnv} {d : Nat} {Q : Int → Hp → Prop} {h : Hp} {a0 : Int} : Ws E d mX9_isSlot Q 4 [(0, a0)] [] h = Ws E d mX9_isSlot Q 5 [(0, a0)] [(0, a0)] h := x_iload_n dX9_isSlot_4 rfl
theorem s_X9_isSlot_5 {E : PvEnv} {d : Nat} {Q : Int → Hp → Prop} {h : Hp} {a0 b0 : Int} : Ws E d mX9_isSlot Q 5 [(0, a0)] [(0, b0)] h = Ws E d mX9_isSlot Q 6 [(0, a0)] [(0, 2), (0, b0)] h := x_iconst dX9_isSlot_5 (by decide)
theorem s_X9_isSlot_6 {E : PvEnv} {d : Nat} {Q : Int → Hp → Prop} {h : Hp} {a0 b0 b1 : Int} : Ws E d mX9_isSlot Q 6 [(0, a0)] [(0, b0), (0, b1)] h = (if b1 < b0 then Ws E d mX9_isSlot Q 9 [(0, a0)] [] h else Ws E d mX9_isSlot Q 13 [(0, a0)] [] h) := x_icmp_ge dX9_isSlot_6 (by decide) rfl
theorem s_X9_isSlot_9 {E : PvEnv} {d : Nat} {Q : Int → Hp → Prop} {h : Hp} {a0 : Int} : Ws E d mX9_isSlot Q 9 [(0, a0)] [] h = Ws E d mX9_isSlot Q 10 [(0, a0)] [(0, 1)] h := x_iconst dX9_isSlot_9 (by decide)
theorem s_X9_isSlot_10 {E : PvEnv} {d : Nat} {Q : Int → Hp → Prop} {h : Hp} {a0 b0 : Int} : Ws E d mX9_isSlot Q 10 [(0, a0)] [(0, b0)] h = Ws E d mX9_isSlot Q 14 [(0, a0)] [(0, b0)] h := x_goto dX9_isSlot_10 (by decide) rfl
theorem s_X9_isSlot_14_1 {E : PvEnv} {d : Nat} {Q : Int → Hp → Prop} {h : Hp} {a0 : Int} : Ws E d mX9_isSlot Q 14 [(0, a0)] [(0, 1)] h = Q 1 h := x_iretz dX9_isSlot_14 rfl (Or.inr rfl)
theorem b_X9_isSlot_0 {E : PvEnv} {d : Nat} {Q : Int → Hp → Prop} {h : Hp} {a0 : Int} : Ws E d mX9_isSlot Q 0 [(0, a0)] [] h = (if a0 < 0 then Q 0 h else (if a0 < 2 then Q 1 h else Q 0 h)) := (s_X9_isSlot_0).trans ((s_X9_isSlot_1).trans (ite_c ((s_X9_isSlot_13).trans (s_X9_isSlot_14)) ((s_X9_isSlot_4).trans ((s_X9_isSlot_5).trans ((s_X9_isSlot_6).trans (ite_c ((s_X9_isSlot_9).trans ((s_X9_isSlot_10).trans (s_X9_isSlot_14_1))) ((s_X9_isSlot_13).trans (s_X9_isSlot_14))))))))
/-! X9_isOnWorld -/
theorem dX9_isOnWorld_0 : decode cX9_isOnWorld 0 = .ok (.iload_n 0, 1) := by decide +kernel
theorem dX9_isOnWorld_1 : decode cX9_isOnWorld 1 = .ok (.ifCond .lt 23, 3) := by decide +kernel
theorem dX9_isOnWorld_4 : decode cX9_isOnWorld 4 = .ok (.iload_n 0, 1) := by decide +kernel
theorem dX9_isOnWorld_5 : decode cX9_isOnWorld 5 = .ok (.bipush 16, 2) := by decide +kernel
theorem dX9_isOnWorld_7 : decode cX9_isOnWorld 7 = .ok (.if_icmp .ge 17, 3) := by decide +kernel
theorem dX9_isOnWorld_10 : decode cX9_isOnWorld 10 = .ok (.iload_n 1, 1) := by decide +kernel
theorem dX9_isOnWorld_11 : decode cX9_isOnWorld 11 = .ok (.ifCond .lt 13, 3) := by decide +kernel
theorem dX9_isOnWorld_14 : decode cX9_isOnWorld 14 = .ok (.iload_n 1, 1) := by decide +kernel
theorem dX9_isOnWorld_15 : decode cX9_isOnWorld 15 = .ok (.bipush 16, 2) := by decide +kernel
theorem dX9_isOnWorld_17 : decode cX9_isOnWorld 17 = .ok (.if_icmp .ge 7, 3) := by decide +kernel
theorem dX9_isOnWorld_20 : decode cX9_isOnWorld 20 = .ok (.iconst 1, 1) := by decide +kernel
theorem dX9_isOnWorld_21 : decode cX9_isOnWorld 21 = .ok (.goto 4, 3) := by decide +kernel
theorem dX9_isOnWorld_24 : decode cX9_isOnWorld 24 = .ok (.iconst 0, 1) := by decide +kernel
theorem dX9_isOnWorld_25 : decode cX9_isOnWorld 25 = .ok (.ireturn, 1) := by decide +kernel
theorem s_X9_isOnWorld_0 {E : PvEnv} {d : Nat} {Q : Int → Hp → Prop} {h : Hp} {a0 a1 : Int} : Ws E d mX9_isOnWorld Q 0 [(0, a0), (0, a1)] [] h = Ws E d mX9_isOnWorld Q 1 [(0, a0), (0, a1)] [(0, a0)] h := x_iload_n dX9_isOnWorld_0 rfl
theorem s_X9_isOnWorld_1 {E : PvEnv} {d : Nat} {Q : Int → Hp → Prop} {h : Hp} {a0 a1 b0 : Int} : Ws E d mX9_isOnWorld Q 1 [(0, a0), (0, a1)] [(0, b0)] h = (if b0 < 0 then Ws E d mX9_isOnWorld Q 24 [(0, a0), (0, a1)] [] h else Ws E d mX9_isOnWorld Q 4 [(0, a0), (0, a1)] [] h) := x_if_lt dX9_isOnWorld_1 (by decide) rfl
theorem s_X9_isOnWorld_24 {E : PvEnv} {d : Nat} {Q : Int → Hp → Prop} {h : Hp} {a0 a1 : Int} : Ws E d mX9_isOnWorld Q 24 [(0, a0), (0, a1)] [] h = Ws E d mX9_isOnWorld Q 25 [(0, a0), (0, a1)] [(0, 0)] h := x_iconst dX9_isOnWorld_24 (by decide)
theorem s_X9_isOnWorld_25 {E : PvEnv} {d : Nat} {Q : Int → Hp → Prop} {h : Hp} {a0 a1 : Int} : Ws E d mX9_isOnWorld Q 25 [(0, a0), (0, a1)] [(0, 0)] h = Q 0 h := x_iretz dX9_isOnWorld_25 rfl (Or.inl rfl)
theorem s_X9_isOnWorld_4 {E : PvEnv} {d : Nat} {Q : Int → Hp → Prop} {h : Hp} {a0 a1 : Int} : Ws E d mX9_isOnWorld Q 4 [(0, a0), (0, a1)] [] h = Ws E d mX9_isOnWorld Q 5 [(0, a0), (0, a1)] [(0, a0)] h := x_iload_n dX9_isOnWorld_4 rfl
theorem s_X9_isOnWorld_5 {E : PvEnv} {d : Nat} {Q : Int → Hp → Prop} {h : Hp} {a0 a1 b0 : Int} : Ws E d mX9_isOnWorld Q 5 [(0, a0), (0, a1)] [(0, b0)] h = Ws E d mX9_isOnWorld Q 7 [(0, a0), (0, a1)] [(0, 16), (0, b0)] h := x_bipush dX9_isOnWorld_5 (by decide)
theorem s_X9_isOnWorld_7 {E : PvEnv} {d : Nat} {Q : Int → Hp → Prop} {h : Hp} {a0 a1 b0 b1 : Int} : Ws E d mX9_isOnWorld Q 7 [(0, a0), (0, a1)] [(0, b0), (0, b1)] h = (if b1 < b0 then Ws E d mX9_isOnWorld Q 10 [(0, a0), (0, a1)] [] h else Ws E d mX9_isOnWorld Q 24 [(0, a0), (0, a1)] [] h) := x_icmp_ge dX9_isOnWorld_7 (by decide) rfl
theorem s_X9_isOnWorld_10 {E : PvEnv} {d : Nat} {Q : Int → Hp → Prop} {h : Hp} {a0 a1 : Int} : Ws E d mX9_isOnWorld Q 10 [(0, a0), (0, a1)] [] h = Ws E d mX9_isOnWorld Q 11 [(0, a0), (0, a1)] [(0, a1)] h := x_iload_n dX9_isOnWorld_10 rfl
theorem s_X9_isOnWorld_11 {E : PvEnv} {d : Nat} {Q : Int → Hp → Prop} {h : Hp} {a0 a1 b0 : Int} : Ws E d mX9_isOnWorld Q 11 [(0, a0), (0, a1)] [(0, b0)] h = (if b0 < 0 then Ws E d mX9_isOnWorld Q 24 [(0, a0), (0, a1)] [] h else Ws E d mX9_isOnWorld Q 14 [(0, a0), (0, a1)] [] h) := x_if_lt dX9_isOnWorld_11 (by decide) rfl
theorem s_X9_isOnWorld_14 {E : PvEnv} {d : Nat} {Q : Int → Hp → Prop} {h : Hp} {a0 a1 : Int} : Ws E d mX9_isOnWorld Q 14 [(0, a0), (0, a1)] [] h = Ws E d mX9_isOnWorld Q 15 [(0, a0), (0, a1)] [(0, a1)] h := x_iload_n dX9_isOnWorld_14 rfl
theorem s_X9_isOnWorld_15 {E : PvEnv} {d : Nat} {Q : Int → Hp → Prop} {h : Hp} {a0 a1 b0 : Int} : Ws E d mX9_isOnWorld Q 15 [(0, a0), (0, a1)] [(0, b0)] h = Ws E d mX9_isOnWorld Q 17 [(0, a0), (0, a1)] [(0, 16), (0, b0)] h := x_bipush dX9_isOnWorld_15 (by decide)
theorem s_X9_isOnWorld_17 {E : PvEnv} {d : Nat} {Q : Int → Hp → Prop} {h : Hp} {a0 a1 b0 b1 : Int} : Ws E d mX9_isOnWorld Q 17 [(0, a0), (0, a1)] [(0, b0), (0, b1)] h = (if b1 < b0 then Ws E d mX9_isOnWorld Q 20 [(0, a0), (0, a1)] [] h else Ws E d mX9_isOnWorld Q 24 [(0, a0), (0, a1)] [] h) := x_icmp_ge dX9_isOnWorld_17 (by decide) rfl
theorem s_X9_isOnWorld_20 {E : PvEnv} {d : Nat} {Q : Int → Hp → Prop} {h : Hp} {a0 a1 : Int} : Ws E d mX9_isOnWorld Q 20 [(0, a0), (0, a1)] [] h = Ws E d mX9_isOnWorld Q 21 [(0, a0), (0, a1)] [(0, 1)] h := x_iconst dX9_isOnWorld_20 (by decide)
theorem s_X9_isOnWorld_21 {E : PvEnv} {d : Nat} {Q : Int → Hp → Prop} {h : Hp} {a0 a1 b0 : Int} : Ws E d mX9_isOnWorld Q 21 [(0, a0), (0, a1)] [(0, b0)] h = Ws E d mX9_isOnWorld Q 25 [(0, a0), (0, a1)] [(0, b0)] h := x_goto dX9_isOnWorld_21 (by decide) rfl
theorem s_X9_isOnWorld_25_1 {E : PvEnv} {d : Nat} {Q : Int → Hp → Prop} {h : Hp} {a0 a1 : Int} : Ws E d mX9_isOnWorld Q 25 [(0, a0), (0, a1)] [(0, 1)] h = Q 1 h := x_iretz dX9_isOnWorld_25 rfl (Or.inr rfl)
theorem b_X9_isOnWorld_0 {E : PvEnv} {d : Nat} {Q : Int → Hp → Prop} {h : Hp} {a0 a1 : Int} : Ws E d mX9_isOnWorld Q 0 [(0, a0), (0, a1)] [] h = (if a0 < 0 then Q 0 h else (if a0 < 16 then (if a1 < 0 then Q 0 h else (if a1 < 16 then Q 1 h else Q 0 h)) else Q 0 h)) := (s_X9_isOnWorld_0).trans ((s_X9_isOnWorld_1).trans (ite_c ((s_X9_isOnWorld_24).trans (s_X9_isOnWorld_25)) ((s_X9_isOnWorld_4).trans ((s_X9_isOnWorld_5).trans ((s_X9_isOnWorld_7).trans (ite_c ((s_X9_isOnWorld_10).trans ((s_X9_isOnWorld_11).trans (ite_c ((s_X9_isOnWorld_24).trans (s_X9_isOnWorld_25)) ((s_X9_isOnWorld_14).trans ((s_X9_isOnWorld_15).trans ((s_X9_isOnWorld_17).trans (ite_c ((s_X9_isOnWorld_20).trans ((s_X9_isOnWorld_21).trans (s_X9_isOnWorld_25_1))) ((s_X9_isOnWorld_24).trans (s_X9_isOnWorld_25))))))))) ((s_X9_isOnWorld_24).trans (s_X9_isOnWorld_25))))))))
/-! X9_firstChildOf -/
theorem dX9_firstChildOf_0 : decode cX9_firstChildOf 0 = .ok (.bipush 16, 2) := by decide +kernel
theorem dX9_firstChildOf_2 : decode cX9_firstChildOf 2 = .ok (.iconst 4, 1) := by decide +kernel
theorem dX9_firstChildOf_3 : decode cX9_firstChildOf 3 = .ok (.iload_n 0, 1) := by decide +kernel
theorem dX9_firstChildOf_4 : decode cX9_firstChildOf 4 = .ok (.imul, 1) := by decide +kernel
theorem dX9_firstChildOf_5 : decode cX9_firstChildOf 5 = .ok (.iadd, 1) := by decide +kernel
theorem dX9_firstChildOf_6 : decode cX9_firstChildOf 6 = .ok (.ireturn, 1) := by decide +kernel
theorem s_X9_firstChildOf_0 {E : PvEnv} {d : Nat} {Q : Int → Hp → Prop} {h : Hp} {a0 : Int} : Ws E d mX9_firstChildOf Q 0 [(0, a0)] [] h = Ws E d mX9_firstChildOf Q 2 [(0, a0)] [(0, 16)] h := x_bipush dX9_firstChildOf_0 (by decide)
theorem s_X9_firstChildOf_2 {E : PvEnv} {d : Nat} {Q : Int → Hp → Prop} {h : Hp} {a0 b0 : Int} : Ws E d mX9_firstChildOf Q 2 [(0, a0)] [(0, b0)] h = Ws E d mX9_firstChildOf Q 3 [(0, a0)] [(0, 4), (0, b0)] h := x_iconst dX9_firstChildOf_2 (by decide)
theorem s_X9_firstChildOf_3 {E : PvEnv} {d : Nat} {Q : Int → Hp → Prop} {h : Hp} {a0 b0 b1 : Int} : Ws E d mX9_firstChildOf Q 3 [(0, a0)] [(0, b0), (0, b1)] h = Ws E d mX9_firstChildOf Q 4 [(0, a0)] [(0, a0), (0, b0), (0, b1)] h := x_iload_n dX9_firstChildOf_3 rfl
theorem s_X9_firstChildOf_4 {E : PvEnv} {d : Nat} {Q : Int → Hp → Prop} {h : Hp} {a0 b0 b1 b2 : Int} : Ws E d mX9_firstChildOf Q 4 [(0, a0)] [(0, b0), (0, b1), (0, b2)] h = Ws E d mX9_firstChildOf Q 5 [(0, a0)] [(0, w32 (b1 * b0)), (0, b2)] h := x_imul dX9_firstChildOf_4
theorem s_X9_firstChildOf_5 {E : PvEnv} {d : Nat} {Q : Int → Hp → Prop} {h : Hp} {a0 b0 b1 : Int} : Ws E d mX9_firstChildOf Q 5 [(0, a0)] [(0, b0), (0, b1)] h = Ws E d mX9_firstChildOf Q 6 [(0, a0)] [(0, w32 (b1 + b0))] h := x_iadd dX9_firstChildOf_5
theorem s_X9_firstChildOf_6 {E : PvEnv} {d : Nat} {Q : Int → Hp → Prop} {h : Hp} {a0 b0 : Int} : Ws E d mX9_firstChildOf Q 6 [(0, a0)] [(0, b0)] h = Q b0 h := x_ireti dX9_firstChildOf_6 rfl
theorem b_X9_firstChildOf_0 {E : PvEnv} {d : Nat} {Q : Int → Hp → Prop} {h : Hp} {a0 : Int} : Ws E d mX9_firstChildOf Q 0 [(0, a0)] [] h = Q (w32 (16 + w32 (4 * a0))) h := (s_X9_firstChildOf_0).trans ((s_X9_firstChildOf_2).trans ((s_X9_firstChildOf_3).trans ((s_X9_firstChildOf_4).trans ((s_X9_firstChildOf_5).trans (s_X9_firstChildOf_6)))))
/-! X9_parentOf -/
theorem dX9_parentOf_0 : decode cX9_parentOf 0 = .ok (.iload_n 0, 1) := by decide +kernel
theorem dX9_parentOf_1 : decode cX9_parentOf 1 = .ok (.bipush 16, 2) := by decide +kernel
theorem dX9_parentOf_3 : decode cX9_parentOf 3 = .ok (.isub, 1) := by decide +kernel
theorem dX9_parentOf_4 : decode cX9_parentOf 4 = .ok (.iconst 4, 1) := by decide +kernel
theorem dX9_parentOf_5 : decode cX9_parentOf 5 = .ok (.idiv, 1) := by decide +kernel
theorem dX9_parentOf_6 : decode cX9_parentOf 6 = .ok (.ireturn, 1) := by decide +kernel
theorem s_X9_parentOf_0 {E : PvEnv} {d : Nat} {Q : Int → Hp → Prop} {h : Hp} {a0 : Int} : Ws E d mX9_parentOf Q 0 [(0, a0)] [] h = Ws E d mX9_parentOf Q 1 [(0, a0)] [(0, a0)] h := x_iload_n dX9_parentOf_0 rfl
theorem s_X9_parentOf_1 {E : PvEnv} {d : Nat} {Q : Int → Hp → Prop} {h : Hp} {a0 b0 : Int} : Ws E d mX9_parentOf Q 1 [(0, a0)] [(0, b0)] h = Ws E d mX9_parentOf Q 3 [(0, a0)] [(0, 16), (0, b0)] h := x_bipush dX9_parentOf_1 (by decide)
theorem s_X9_parentOf_3 {E : PvEnv} {d : Nat} {Q : Int → Hp → Prop} {h : Hp} {a0 b0 b1 : Int} : Ws E d mX9_parentOf Q 3 [(0, a0)] [(0, b0), (0, b1)] h = Ws E d mX9_parentOf Q 4 [(0, a0)] [(0, w32 (b1 - b0))] h := x_isub dX9_parentOf_3
theorem s_X9_parentOf_4 {E : PvEnv} {d : Nat} {Q : Int → Hp → Prop} {h : Hp} {a0 b0 : Int} : Ws E d mX9_parentOf Q 4 [(0, a0)] [(0, b0)] h = Ws E d mX9_parentOf Q 5 [(0, a0)] [(0, 4), (0, b0)] h := x_iconst dX9_parentOf_4 (by decide)
theorem s_X9_parentOf_5 {E : PvEnv} {d : Nat} {Q : Int → Hp → Prop} {h : Hp} {a0 b1 : Int} : Ws E d mX9_parentOf Q 5 [(0, a0)] [(0, 4), (0, b1)] h = Ws E d mX9_parentOf Q 6 [(0, a0)] [(0, w32 (Int.tdiv b1 4))] h := x_idivN dX9_parentOf_5 (by decide)
theorem s_X9_parentOf_6 {E : PvEnv} {d : Nat} {Q : Int → Hp → Prop} {h : Hp} {a0 b0 : Int} : Ws E d mX9_parentOf Q 6 [(0, a0)] [(0, b0)] h = Q b0 h := x_ireti dX9_parentOf_6 rfl
theorem b_X9_parentOf_0 {E : PvEnv} {d : Nat} {Q : Int → Hp → Prop} {h : Hp} {a0 : Int} : Ws E d mX9_parentOf Q 0 [(0, a0)] [] h = Q (w32 (Int.tdiv (w32 (a0 - 16)) 4)) h := (s_X9_parentOf_0).trans ((s_X9_parentOf_1).trans ((s_X9_parentOf_3).trans ((s_X9_parentOf_4).trans ((s_X9_parentOf_5).trans (s_X9_parentOf_6)))))
/-! X9_areOdds -/
theorem dX9_areOdds_0 : decode cX9_areOdds 0 = .ok (.iload_n 0, 1) := by decide +kernel
theorem dX9_areOdds_1 : decode cX9_areOdds 1 = .ok (.iconst 2, 1) := by decide +kernel
theorem dX9_areOdds_2 : decode cX9_areOdds 2 = .ok (.if_icmp .lt 23, 3) := by decide +kernel
theorem dX9_areOdds_5 : decode cX9_areOdds 5 = .ok (.iload_n 0, 1) := by decide +kernel
theorem dX9_areOdds_6 : decode cX9_areOdds 6 = .ok (.bipush 20, 2) := by decide +kernel
theorem dX9_areOdds_8 : decode cX9_areOdds 8 = .ok (.if_icmp .gt 17, 3) := by decide +kernel
theorem dX9_areOdds_11 : decode cX9_areOdds 11 = .ok (.iload_n 1, 1) := by decide +kernel
theorem dX9_areOdds_12 : decode cX9_areOdds 12 = .ok (.ifCond .lt 13, 3) := by decide +kernel
theorem dX9_areOdds_15 : decode cX9_areOdds 15 = .ok (.iload_n 1, 1) := by decide +kernel
theorem dX9_areOdds_16 : decode cX9_areOdds 16 = .ok (.bipush 20, 2) := by decide +kernel
theorem dX9_areOdds_18 : decode cX9_areOdds 18 = .ok (.if_icmp .gt 7, 3) := by decide +kernel
theorem dX9_areOdds_21 : decode cX9_areOdds 21 = .ok (.iconst 1, 1) := by decide +kernel
theorem dX9_areOdds_22 : decode cX9_areOdds 22 = .ok (.goto 4, 3) := by decide +kernel
theorem dX9_areOdds_25 : decode cX9_areOdds 25 = .ok (.iconst 0, 1) := by decide +kernel
theorem dX9_areOdds_26 : decode cX9_areOdds 26 = .ok (.ireturn, 1) := by decide +kernel
theorem s_X9_areOdds_0 {E : PvEnv} {d : Nat} {Q : Int → Hp → Prop} {h : Hp} {a0 a1 : Int} : Ws E d mX9_areOdds Q 0 [(0, a0), (0, a1)] [] h = Ws E d mX9_areOdds Q 1 [(0, a0), (0, a1)] [(0, a0)] h := x_iload_n dX9_areOdds_0 rfl
theorem s_X9_areOdds_1 {E : PvEnv} {d : Nat} {Q : Int → Hp → Prop} {h : Hp} {a0 a1 b0 : Int} : Ws E d mX9_areOdds Q 1 [(0, a0), (0, a1)] [(0, b0)] h = Ws E d mX9_areOdds Q 2 [(0, a0), (0, a1)] [(0, 2), (0, b0)] h := x_iconst dX9_areOdds_1 (by decide)
theorem s_X9_areOdds_2 {E : PvEnv} {d : Nat} {Q : Int → Hp → Prop} {h : Hp} {a0 a1 b0 b1 : Int} : Ws E d mX9_areOdds Q 2 [(0, a0), (0, a1)] [(0, b0), (0, b1)] h = (if b1 < b0 then Ws E d mX9_areOdds Q 25 [(0, a0), (0, a1)] [] h else Ws E d mX9_areOdds Q 5 [(0, a0), (0, a1)] [] h) := x_icmp_lt dX9_areOdds_2 (by decide) rfl
theorem s_X9_areOdds_25 {E : PvEnv} {d : Nat} {Q : Int → Hp → Prop} {h : Hp} {a0 a1 : Int} : Ws E d mX9_areOdds Q 25 [(0, a0), (0, a1)] [] h = Ws E d mX9_areOdds Q 26 [(0, a0), (0, a1)] [(0, 0)] h := x_iconst dX9_areOdds_25 (by decide)
theorem s_X9_areOdds_26 {E : PvEnv} {d : Nat} {Q : Int → Hp → Prop} {h : Hp} {a0 a1 : Int} : Ws E d mX9_areOdds Q 26 [(0, a0), (0, a1)] [(0, 0)] h = Q 0 h := x_iretz dX9_areOdds_26 rfl (Or.inl rfl)
theorem s_X9_areOdds_5 {E : PvEnv} {d : Nat} {Q : Int → Hp → Prop} {h : Hp} {a0 a1 : Int} : Ws E d mX9_areOdds Q 5 [(0, a0), (0, a1)] [] h = Ws E d mX9_areOdds Q 6 [(0, a0), (0, a1)] [(0, a0)] h := x_iload_n dX9_areOdds_5 rfl
theorem s_X9_areOdds_6 {E : PvEnv} {d : Nat} {Q : Int → Hp → Prop} {h : Hp} {a0 a1 b0 : Int} : Ws E d mX9_areOdds Q 6 [(0, a0), (0, a1)] [(0, b0)] h = Ws E d mX9_areOdds Q 8 [(0, a0), (0, a1)] [(0, 20), (0, b0)] h := x_bipush dX9_areOdds_6 (by decide)
theorem s_X9_areOdds_8 {E : PvEnv} {d : Nat} {Q : Int → Hp → Prop} {h : Hp} {a0 a1 b0 b1 : Int} : Ws E d mX9_areOdds Q 8 [(0, a0), (0, a1)] [(0, b0), (0, b1)] h = (if b0 < b1 then Ws E d mX9_areOdds Q 25 [(0, a0), (0, a1)] [] h else Ws E d mX9_areOdds Q 11 [(0, a0), (0, a1)] [] h) := x_icmp_gt dX9_areOdds_8 (by decide) rfl
theorem s_X9_areOdds_11 {E : PvEnv} {d : Nat} {Q : Int → Hp → Prop} {h : Hp} {a0 a1 : Int} : Ws E d mX9_areOdds Q 11 [(0, a0), (0, a1)] [] h = Ws E d mX9_areOdds Q 12 [(0, a0), (0, a1)] [(0, a1)] h := x_iload_n dX9_areOdds_11 rfl
theorem s_X9_areOdds_12 {E : PvEnv} {d : Nat} {Q : Int → Hp → Prop} {h : Hp} {a0 a1 b0 : Int} : Ws E d mX9_areOdds Q 12 [(0, a0), (0, a1)] [(0, b0)] h = (if b0 < 0 then Ws E d mX9_areOdds Q 25 [(0, a0), (0, a1)] [] h else Ws E d mX9_areOdds Q 15 [(0, a0), (0, a1)] [] h) := x_if_lt dX9_areOdds_12 (by decide) rfl
theorem s_X9_areOdds_15 {E : PvEnv} {d : Nat} {Q : Int → Hp → Prop} {h : Hp} {a0 a1 : Int} : Ws E d mX9_areOdds Q 15 [(0, a0), (0, a1)] [] h = Ws E d mX9_areOdds Q 16 [(0, a0), (0, a1)] [(0, a1)] h := x_iload_n dX9_areOdds_15 rfl
theorem s_X9_areOdds_16 {E : PvEnv} {d : Nat} {Q : Int → Hp → Prop} {h : Hp} {a0 a1 b0 : Int} : Ws E d mX9_areOdds Q 16 [(0, a0), (0, a1)] [(0, b0)] h = Ws E d mX9_areOdds Q 18 [(0, a0), (0, a1)] [(0, 20), (0, b0)] h := x_bipush dX9_areOdds_16 (by decide)
theorem s_X9_areOdds_18 {E : PvEnv} {d : Nat} {Q : Int → Hp → Prop} {h : Hp} {a0 a1 b0 b1 : Int} : Ws E d mX9_areOdds Q 18 [(0, a0), (0, a1)] [(0, b0), (0, b1)] h = (if b0 < b1 then Ws E d mX9_areOdds Q 25 [(0, a0), (0, a1)] [] h else Ws E d mX9_areOdds Q 21 [(0, a0), (0, a1)] [] h) := x_icmp_gt dX9_areOdds_18 (by decide) rfl
theorem s_X9_areOdds_21 {E : PvEnv} {d : Nat} {Q : Int → Hp → Prop} {h : Hp} {a0 a1 : Int} : Ws E d mX9_areOdds Q 21 [(0, a0), (0, a1)] [] h = Ws E d mX9_areOdds Q 22 [(0, a0), (0, a1)] [(0, 1)] h := x_iconst dX9_areOdds_21 (by decide)
theorem s_X9_areOdds_22 {E : PvEnv} {d : Nat} {Q : Int → Hp → Prop} {h : Hp} {a0 a1 b0 : Int} : Ws E d mX9_areOdds Q 22 [(0, a0), (0, a1)] [(0, b0)] h = Ws E d mX9_areOdds Q 26 [(0, a0), (0, a1)] [(0, b0)] h := x_goto dX9_areOdds_22 (by decide) rfl
theorem s_X9_areOdds_26_1 {E : PvEnv} {d : Nat} {Q : Int → Hp → Prop} {h : Hp} {a0 a1 : Int} : Ws E d mX9_areOdds Q 26 [(0, a0), (0, a1)] [(0, 1)] h = Q 1 h := x_iretz dX9_areOdds_26 rfl (Or.inr rfl)
theorem b_X9_areOdds_0 {E : PvEnv} {d : Nat} {Q : Int → Hp → Prop} {h : Hp} {a0 a1 : Int} : Ws E d mX9_areOdds Q 0 [(0, a0), (0, a1)] [] h = (if a0 < 2 then Q 0 h else (if 20 < a0 then Q 0 h else (if a1 < 0 then Q 0 h else (if 20 < a1 then Q 0 h else Q 1 h)))) := (s_X9_areOdds_0).trans ((s_X9_areOdds_1).trans ((s_X9_areOdds_2).trans (ite_c ((s_X9_areOdds_25).trans (s_X9_areOdds_26)) ((s_X9_areOdds_5).trans ((s_X9_areOdds_6).trans ((s_X9_areOdds_8).trans (ite_c ((s_X9_areOdds_25).trans (s_X9_areOdds_26)) ((s_X9_areOdds_11).trans ((s_X9_areOdds_12).trans (ite_c ((s_X9_areOdds_25).trans (s_X9_areOdds_26)) ((s_X9_areOdds_15).trans ((s_X9_areOdds_16).trans ((s_X9_areOdds_18).trans (ite_c ((s_X9_areOdds_25).trans (s_X9_areOdds_26)) ((s_X9_areOdds_21).trans ((s_X9_areOdds_22).trans (s_X9_areOdds_26_1)))))))))))))))))
/-! X9_power -/
theorem dX9_power_0 : decode cX9_power 0 = .ok (.lconst 1, 1) := by decide +kernel
theorem dX9_power_1 : decode cX9_power 1 = .ok (.lstore_n 3, 1) := by decide +kernel
theorem dX9_power_2 : decode cX9_power 2 = .ok (.iconst 0, 1) := by decide +kernel
theorem dX9_power_3 : decode cX9_power 3 = .ok (.istore 5, 2) := by decide +kernel
theorem dX9_power_5 : decode cX9_power 5 = .ok (.iload 5, 2) := by decide +kernel
theorem dX9_power_7 : decode cX9_power 7 = .ok (.iload_n 2, 1) := by decide +kernel
theorem dX9_power_8 : decode cX9_power 8 = .ok (.if_icmp .ge 13, 3) := by decide +kernel
theorem dX9_power_11 : decode cX9_power 11 = .ok (.lload_n 3, 1) := by decide +kernel
theorem dX9_power_12 : decode cX9_power 12 = .ok (.lload_n 0, 1) := by decide +kernel
theorem dX9_power_13 : decode cX9_power 13 = .ok (.lmul, 1) := by decide +kernel
theorem dX9_power_14 : decode cX9_power 14 = .ok (.lstore_n 3, 1) := by decide +kernel
theorem dX9_power_15 : decode cX9_power 15 = .ok (.iinc 5 1, 3) := by decide +kernel
theorem dX9_power_18 : decode cX9_power 18 = .ok (.goto (-13), 3) := by decide +kernel
theorem dX9_power_21 : decode cX9_power 21 = .ok (.lload_n 3, 1) := by decide +kernel
theorem dX9_power_22 : decode cX9_power 22 = .ok (.lreturn, 1) := by decide +kernel
theorem s_X9_power_0 {E : PvEnv} {d : Nat} {Q : Int → Hp → Prop} {h : Hp} {a0 a2 : Int} : Ws E d mX9_power Q 0 [(1, a0), (9, 0), (0, a2), (9, 0), (9, 0), (9, 0)] [] h = Ws E d mX9_power Q 1 [(1, a0), (9, 0), (0, a2), (9, 0), (9, 0), (9, 0)] [(1, 1)] h := x_lconst dX9_power_0 rfl
theorem s_X9_power_1 {E : PvEnv} {d : Nat} {Q : Int → Hp → Prop} {h : Hp} {a0 a2 b0 : Int} : Ws E d mX9_power Q 1 [(1, a0), (9, 0), (0, a2), (9, 0), (9, 0), (9, 0)] [(1, b0)] h = Ws E d mX9_power Q 2 [(1, a0), (9, 0), (0, a2), (1, b0), (9, 0), (9, 0)] [] h := x_lstore_n dX9_power_1 rfl
theorem s_X9_power_2 {E : PvEnv} {d : Nat} {Q : Int → Hp → Prop} {h : Hp} {a0 a2 a3 : Int} : Ws E d mX9_power Q 2 [(1, a0), (9, 0), (0, a2), (1, a3), (9, 0), (9, 0)] [] h = Ws E d mX9_power Q 3 [(1, a0), (9, 0), (0, a2), (1, a3), (9, 0), (9, 0)] [(0, 0)] h := x_iconst dX9_power_2 (by decide)
theorem s_X9_power_3 {E : PvEnv} {d : Nat} {Q : Int → Hp → Prop} {h : Hp} {a0 a2 a3 b0 : Int} : Ws E d mX9_power Q 3 [(1, a0), (9, 0), (0, a2), (1, a3), (9, 0), (9, 0)] [(0, b0)] h = Ws E d mX9_power Q 5 [(1, a0), (9, 0), (0, a2), (1, a3), (9, 0), (0, b0)] [] h := x_istore dX9_power_3 rfl
theorem s_X9_power_5 {E : PvEnv} {d : Nat} {Q : Int → Hp → Prop} {h : Hp} {a0 a2 a3 a5 : Int} : Ws E d mX9_power Q 5 [(1, a0), (9, 0), (0, a2), (1, a3), (9, 0), (0, a5)] [] h = Ws E d mX9_power Q 7 [(1, a0), (9, 0), (0, a2), (1, a3), (9, 0), (0, a5)] [(0, a5)] h := x_iload dX9_power_5 rfl
theorem s_X9_power_7 {E : PvEnv} {d : Nat} {Q : Int → Hp → Prop} {h : Hp} {a0 a2 a3 a5 b0 : Int} : Ws E d mX9_power Q 7 [(1, a0), (9, 0), (0, a2), (1, a3), (9, 0), (0, a5)] [(0, b0)] h = Ws E d mX9_power Q 8 [(1, a0), (9, 0), (0, a2), (1, a3), (9, 0), (0, a5)] [(0, a2), (0, b0)] h := x_iload_n dX9_power_7 rfl
theorem s_X9_power_8 {E : PvEnv} {d : Nat} {Q : Int → Hp → Prop} {h : Hp} {a0 a2 a3 a5 b0 b1 : Int} : Ws E d mX9_power Q 8 [(1, a0), (9, 0), (0, a2), (1, a3), (9, 0), (0, a5)] [(0, b0), (0, b1)] h = (if b1 < b0 then Ws E d mX9_power Q 11 [(1, a0), (9, 0), (0, a2), (1, a3), (9, 0), (0, a5)] [] h else Ws E d mX9_power Q 21 [(1, a0), (9, 0), (0, a2), (1, a3), (9, 0), (0, a5)] [] h) := x_icmp_ge dX9_power_8 (by decide) rfl
theorem s_X9_power_11 {E : PvEnv} {d : Nat} {Q : Int → Hp → Prop} {h : Hp} {a0 a2 a3 a5 : Int} : Ws E d mX9_power Q 11 [(1, a0), (9, 0), (0, a2), (1, a3), (9, 0), (0, a5)] [] h = Ws E d mX9_power Q 12 [(1, a0), (9, 0), (0, a2), (1, a3), (9, 0), (0, a5)] [(1, a3)] h := x_lload_n dX9_power_11 rfl
theorem s_X9_power_12 {E : PvEnv} {d : Nat} {Q : Int → Hp → Prop} {h : Hp} {a0 a2 a3 a5 b0 : Int} : Ws E d mX9_power Q 12 [(1, a0), (9, 0), (0, a2), (1, a3), (9, 0), (0, a5)] [(1, b0)] h = Ws E d mX9_power Q 13 [(1, a0), (9, 0), (0, a2), (1, a3), (9, 0), (0, a5)] [(1, a0), (1, b0)] h := x_lload_n dX9_power_12 rfl
theorem s_X9_power_13 {E : PvEnv} {d : Nat} {Q : Int → Hp → Prop} {h : Hp} {a0 a2 a3 a5 b0 b1 : Int} : Ws E d mX9_power Q 13 [(1, a0), (9, 0), (0, a2), (1, a3), (9, 0), (0, a5)] [(1, b0), (1, b1)] h = Ws E d mX9_power Q 14 [(1, a0), (9, 0), (0, a2), (1, a3), (9, 0), (0, a5)] [(1, w64 (b1 * b0))] h := x_lmul dX9_power_13
theorem s_X9_power_14 {E : PvEnv} {d : Nat} {Q : Int → Hp → Prop} {h : Hp} {a0 a2 a3 a5 b0 : Int} : Ws E d mX9_power Q 14 [(1, a0), (9, 0), (0, a2), (1, a3), (9, 0), (0, a5)] [(1, b0)] h = Ws E d mX9_power Q 15 [(1, a0), (9, 0), (0, a2), (1, b0), (9, 0), (0, a5)] [] h := x_lstore_n dX9_power_14 rfl
theorem s_X9_power_15 {E : PvEnv} {d : Nat} {Q : Int → Hp → Prop} {h : Hp} {a0 a2 a3 a5 : Int} : Ws E d mX9_power Q 15 [(1, a0), (9, 0), (0, a2), (1, a3), (9, 0), (0, a5)] [] h = Ws E d mX9_power Q 18 [(1, a0), (9, 0), (0, a2), (1, a3), (9, 0), (0, w32 (a5 + 1))] [] h := x_iinc dX9_power_15 rfl rfl
theorem s_X9_power_18 {E : PvEnv} {d : Nat} {Q : Int → Hp → Prop} {h : Hp} {a0 a2 a3 a5 : Int} : Ws E d mX9_power Q 18 [(1, a0), (9, 0), (0, a2), (1, a3), (9, 0), (0, a5)] [] h = Ws E d mX9_power Q 5 [(1, a0), (9, 0), (0, a2), (1, a3), (9, 0), (0, a5)] [] h := x_goto dX9_power_18 (by decide) rfl
theorem s_X9_power_21 {E : PvEnv} {d : Nat} {Q : Int → Hp → Prop} {h : Hp} {a0 a2 a3 a5 : Int} : Ws E d mX9_power Q 21 [(1, a0), (9, 0), (0, a2), (1, a3), (9, 0), (0, a5)] [] h = Ws E d mX9_power Q 22 [(1, a0), (9, 0), (0, a2), (1, a3), (9, 0), (0, a5)] [(1, a3)] h := x_lload_n dX9_power_21 rfl
theorem s_X9_power_22 {E : PvEnv} {d : Nat} {Q : Int → Hp → Prop} {h : Hp} {a0 a2 a3 a5 b0 : Int} : Ws E d mX9_power Q 22 [(1, a0), (9, 0), (0, a2), (1, a3), (9, 0), (0, a5)] [(1, b0)] h = Q b0 h := x_lret dX9_power_22 rfl
theorem b_X9_power_0 {E : PvEnv} {d : Nat} {Q : Int → Hp → Prop} {h : Hp} {a0 a2 : Int} : Ws E d mX9_power Q 0 [(1, a0), (9, 0), (0, a2), (9, 0), (9, 0), (9, 0)] [] h = Ws E d mX9_power Q 5 [(1, a0), (9, 0), (0, a2), (1, 1), (9, 0), (0, 0)] [] h := (s_X9_power_0).trans ((s_X9_power_1).trans ((s_X9_power_2).trans (s_X9_power_3)))
theorem b_X9_power_5 {E : PvEnv} {d : Nat} {Q : Int → Hp → Prop} {h : Hp} {a0 a2 a3 a5 : Int} : Ws E d mX9_power Q 5 [(1, a0), (9, 0), (0, a2), (1, a3), (9, 0), (0, a5)] [] h = (if a5 < a2 then Ws E d mX9_power Q 5 [(1, a0), (9, 0), (0, a2), (1, w64 (a3 * a0)), (9, 0), (0, w32 (a5 + 1))] [] h else Q a3 h) := (s_X9_power_5).trans ((s_X9_power_7).trans ((s_X9_power_8).trans (ite_c ((s_X9_power_11).trans ((s_X9_power_12).trans ((s_X9_power_13).trans ((s_X9_power_14).trans ((s_X9_power_15).trans (s_X9_power_18)))))) ((s_X9_power_21).trans (s_X9_power_22)))))
/-! X9_keepingUpper -/
theorem dX9_keepingUpper_0 : decode cX9_keepingUpper 0 = .ok (.iload_n 1, 1) := by decide +kernel
theorem dX9_keepingUpper_1 : decode cX9_keepingUpper 1 = .ok (.iconst 1, 1) := by decide +kernel
theorem dX9_keepingUpper_2 : decode cX9_keepingUpper 2 = .ok (.isub, 1) := by decide +kernel
theorem dX9_keepingUpper_3 : decode cX9_keepingUpper 3 = .ok (.i2l, 1) := by decide +kernel
theorem dX9_keepingUpper_4 : decode cX9_keepingUpper 4 = .ok (.iload_n 0, 1) := by decide +kernel
theorem dX9_keepingUpper_5 : decode cX9_keepingUpper 5 = .ok (.invokestatic 328, 3) := by decide +kernel
theorem dX9_keepingUpper_8 : decode cX9_keepingUpper 8 = .ok (.lstore_n 3, 1) := by decide +kernel
theorem dX9_keepingUpper_9 : decode cX9_keepingUpper 9 = .ok (.iload_n 1, 1) := by decide +kernel
theorem dX9_keepingUpper_10 : decode cX9_keepingUpper 10 = .ok (.i2l, 1) := by decide +kernel
theorem dX9_keepingUpper_11 : decode cX9_keepingUpper 11 = .ok (.iload_n 1, 1) := by decide +kernel
theorem dX9_keepingUpper_12 : decode cX9_keepingUpper 12 = .ok (.i2l, 1) := by decide +kernel
theorem dX9_keepingUpper_13 : decode cX9_keepingUpper 13 = .ok (.iload_n 0, 1) := by decide +kernel
theorem dX9_keepingUpper_14 : decode cX9_keepingUpper 14 = .ok (.invokestatic 328, 3) := by decide +kernel
theorem dX9_keepingUpper_17 : decode cX9_keepingUpper 17 = .ok (.lload_n 3, 1) := by decide +kernel
theorem dX9_keepingUpper_18 : decode cX9_keepingUpper 18 = .ok (.lsub, 1) := by decide +kernel
theorem dX9_keepingUpper_19 : decode cX9_keepingUpper 19 = .ok (.lmul, 1) := by decide +kernel
theorem dX9_keepingUpper_20 : decode cX9_keepingUpper 20 = .ok (.iload_n 2, 1) := by decide +kernel
theorem dX9_keepingUpper_21 : decode cX9_keepingUpper 21 = .ok (.i2l, 1) := by decide +kernel
theorem dX9_keepingUpper_22 : decode cX9_keepingUpper 22 = .ok (.lload_n 3, 1) := by decide +kernel
theorem dX9_keepingUpper_23 : decode cX9_keepingUpper 23 = .ok (.lmul, 1) := by decide +kernel
theorem dX9_keepingUpper_24 : decode cX9_keepingUpper 24 = .ok (.ladd, 1) := by decide +kernel
theorem dX9_keepingUpper_25 : decode cX9_keepingUpper 25 = .ok (.lreturn, 1) := by decide +kernel
theorem s_X9_keepingUpper_0 {E : PvEnv} {d : Nat} {Q : Int → Hp → Prop} {h : Hp} {a0 a1 a2 : Int} : Ws E d mX9_keepingUpper Q 0 [(0, a0), (0, a1), (0, a2), (9, 0), (9, 0)] [] h = Ws E d mX9_keepingUpper Q 1 [(0, a0), (0, a1), (0, a2), (9, 0), (9, 0)] [(0, a1)] h := x_iload_n dX9_keepingUpper_0 rfl
theorem s_X9_keepingUpper_1 {E : PvEnv} {d : Nat} {Q : Int → Hp → Prop} {h : Hp} {a0 a1 a2 b0 : Int} : Ws E d mX9_keepingUpper Q 1 [(0, a0), (0, a1), (0, a2), (9, 0), (9, 0)] [(0, b0)] h = Ws E d mX9_keepingUpper Q 2 [(0, a0), (0, a1), (0, a2), (9, 0), (9, 0)] [(0, 1), (0, b0)] h := x_iconst dX9_keepingUpper_1 (by decide)
theorem s_X9_keepingUpper_2 {E : PvEnv} {d : Nat} {Q : Int → Hp → Prop} {h : Hp} {a0 a1 a2 b0 b1 : Int} : Ws E d mX9_keepingUpper Q 2 [(0, a0), (0, a1), (0, a2), (9, 0), (9, 0)] [(0, b0), (0, b1)] h = Ws E d mX9_keepingUpper Q 3 [(0, a0), (0, a1), (0, a2), (9, 0), (9, 0)] [(0, w32 (b1 - b0))] h := x_isub dX9_keepingUpper_2
theorem s_X9_keepingUpper_3 {E : PvEnv} {d : Nat} {Q : Int → Hp → Prop} {h : Hp} {a0 a1 a2 b0 : Int} : Ws E d mX9_keepingUpper Q 3 [(0, a0), (0, a1), (0, a2), (9, 0), (9, 0)] [(0, b0)] h = Ws E d mX9_keepingUpper Q 4 [(0, a0), (0, a1), (0, a2), (9, 0), (9, 0)] [(1, b0)] h := x_i2l dX9_keepingUpper_3
theorem s_X9_keepingUpper_4 {E : PvEnv} {d : Nat} {Q : Int → Hp → Prop} {h : Hp} {a0 a1 a2 b0 : Int} : Ws E d mX9_keepingUpper Q 4 [(0, a0), (0, a1), (0, a2), (9, 0), (9, 0)] [(1, b0)] h = Ws E d mX9_keepingUpper Q 5 [(0, a0), (0, a1), (0, a2), (9, 0), (9, 0)] [(0, a0), (1, b0)] h := x_iload_n dX9_keepingUpper_4 rfl
theorem s_X9_keepingUpper_5 {E : PvEnv} {d : Nat} {Q : Int → Hp → Prop} {h : Hp} {a0 a1 a2 b0 b1 : Int} : Ws E d mX9_keepingUpper Q 5 [(0, a0), (0, a1), (0, a2), (9, 0), (9, 0)] [(0, b0), (1, b1)] h = wpS E d mX9_power [(1, b1), (0, b0)] h (fun r h' => Ws E d mX9_keepingUpper Q 8 [(0, a0), (0, a1), (0, a2), (9, 0), (9, 0)] [(1, r)] (h')) := x_cs dX9_keepingUpper_5 cl_9_328 (by decide) rfl rfl rfl (Nat.le_of_ble_eq_true rfl) ⟨by decide, by decide⟩ rfl rfl
theorem s_X9_keepingUpper_8 {E : PvEnv} {d : Nat} {Q : Int → Hp → Prop} {h : Hp} {a0 a1 a2 b0 : Int} : Ws E d mX9_keepingUpper Q 8 [(0, a0), (0, a1), (0, a2), (9, 0), (9, 0)] [(1, b0)] h = Ws E d mX9_keepingUpper Q 9 [(0, a0), (0, a1), (0, a2), (1, b0), (9, 0)] [] h := x_lstore_n dX9_keepingUpper_8 rfl
theorem s_X9_keepingUpper_9 {E : PvEnv} {d : Nat} {Q : Int → Hp → Prop} {h : Hp} {a0 a1 a2 a3 : Int} : Ws E d mX9_keepingUpper Q 9 [(0, a0), (0, a1), (0, a2), (1, a3), (9, 0)] [] h = Ws E d mX9_keepingUpper Q 10 [(0, a0), (0, a1), (0, a2), (1, a3), (9, 0)] [(0, a1)] h := x_iload_n dX9_keepingUpper_9 rfl
theorem s_X9_keepingUpper_10 {E : PvEnv} {d : Nat} {Q : Int → Hp → Prop} {h : Hp} {a0 a1 a2 a3 b0 : Int} : Ws E d mX9_keepingUpper Q 10 [(0, a0), (0, a1), (0, a2), (1, a3), (9, 0)] [(0, b0)] h = Ws E d mX9_keepingUpper Q 11 [(0, a0), (0, a1), (0, a2), (1, a3), (9, 0)] [(1, b0)] h := x_i2l dX9_keepingUpper_10
theorem s_X9_keepingUpper_11 {E : PvEnv} {d : Nat} {Q : Int → Hp → Prop} {h : Hp} {a0 a1 a2 a3 b0 : Int} : Ws E d mX9_keepingUpper Q 11 [(0, a0), (0, a1), (0, a2), (1, a3), (9, 0)] [(1, b0)] h = Ws E d mX9_keepingUpper Q 12 [(0, a0), (0, a1), (0, a2), (1, a3), (9, 0)] [(0, a1), (1, b0)] h := x_iload_n dX9_keepingUpper_11 rfl
theorem s_X9_keepingUpper_12 {E : PvEnv} {d : Nat} {Q : Int → Hp → Prop} {h : Hp} {a0 a1 a2 a3 b0 b1 : Int} : Ws E d mX9_keepingUpper Q 12 [(0, a0), (0, a1), (0, a2), (1, a3), (9, 0)] [(0, b0), (1, b1)] h = Ws E d mX9_keepingUpper Q 13 [(0, a0), (0, a1), (0, a2), (1, a3), (9, 0)] [(1, b0), (1, b1)] h := x_i2l dX9_keepingUpper_12
theorem s_X9_keepingUpper_13 {E : PvEnv} {d : Nat} {Q : Int → Hp → Prop} {h : Hp} {a0 a1 a2 a3 b0 b1 : Int} : Ws E d mX9_keepingUpper Q 13 [(0, a0), (0, a1), (0, a2), (1, a3), (9, 0)] [(1, b0), (1, b1)] h = Ws E d mX9_keepingUpper Q 14 [(0, a0), (0, a1), (0, a2), (1, a3), (9, 0)] [(0, a0), (1, b0), (1, b1)] h := x_iload_n dX9_keepingUpper_13 rfl
theorem s_X9_keepingUpper_14 {E : PvEnv} {d : Nat} {Q : Int → Hp → Prop} {h : Hp} {a0 a1 a2 a3 b0 b1 b2 : Int} : Ws E d mX9_keepingUpper Q 14 [(0, a0), (0, a1), (0, a2), (1, a3), (9, 0)] [(0, b0), (1, b1), (1, b2)] h = wpS E d mX9_power [(1, b1), (0, b0)] h (fun r h' => Ws E d mX9_keepingUpper Q 17 [(0, a0), (0, a1), (0, a2), (1, a3), (9, 0)] [(1, r), (1, b2)] (h')) := x_cs dX9_keepingUpper_14 cl_9_328 (by decide) rfl rfl rfl (Nat.le_of_ble_eq_true rfl) ⟨by decide, by decide⟩ rfl rfl
theorem s_X9_keepingUpper_17 {E : PvEnv} {d : Nat} {Q : Int → Hp → Prop} {h : Hp} {a0 a1 a2 a3 b0 b1 : Int} : Ws E d mX9_keepingUpper Q 17 [(0, a0), (0, a1), (0, a2), (1, a3), (9, 0)] [(1, b0), (1, b1)] h = Ws E d mX9_keepingUpper Q 18 [(0, a0), (0, a1), (0, a2), (1, a3), (9, 0)] [(1, a3), (1, b0), (1, b1)] h := x_lload_n dX9_keepingUpper_17 rfl
theorem s_X9_keepingUpper_18 {E : PvEnv} {d : Nat} {Q : Int → Hp → Prop} {h : Hp} {a0 a1 a2 a3 b0 b1 b2 : Int} : Ws E d mX9_keepingUpper Q 18 [(0, a0), (0, a1), (0, a2), (1, a3), (9, 0)] [(1, b0), (1, b1), (1, b2)] h = Ws E d mX9_keepingUpper Q 19 [(0, a0), (0, a1), (0, a2), (1, a3), (9, 0)] [(1, w64 (b1 - b0)), (1, b2)] h := x_lsub dX9_keepingUpper_18
theorem s_X9_keepingUpper_19 {E : PvEnv} {d : Nat} {Q : Int → Hp → Prop} {h : Hp} {a0 a1 a2 a3 b0 b1 : Int} : Ws E d mX9_keepingUpper Q 19 [(0, a0), (0, a1), (0, a2), (1, a3), (9, 0)] [(1, b0), (1, b1)] h = Ws E d mX9_keepingUpper Q 20 [(0, a0), (0, a1), (0, a2), (1, a3), (9, 0)] [(1, w64 (b1 * b0))] h := x_lmul dX9_keepingUpper_19
theorem s_X9_keepingUpper_20 {E : PvEnv} {d : Nat} {Q : Int → Hp → Prop} {h : Hp} {a0 a1 a2 a3 b0 : Int} : Ws E d mX9_keepingUpper Q 20 [(0, a0), (0, a1), (0, a2), (1, a3), (9, 0)] [(1, b0)] h = Ws E d mX9_keepingUpper Q 21 [(0, a0), (0, a1), (0, a2), (1, a3), (9, 0)] [(0, a2), (1, b0)] h := x_iload_n dX9_keepingUpper_20 rfl
theorem s_X9_keepingUpper_21 {E : PvEnv} {d : Nat} {Q : Int → Hp → Prop} {h : Hp} {a0 a1 a2 a3 b0 b1 : Int} : Ws E d mX9_keepingUpper Q 21 [(0, a0), (0, a1), (0, a2), (1, a3), (9, 0)] [(0, b0), (1, b1)] h = Ws E d mX9_keepingUpper Q 22 [(0, a0), (0, a1), (0, a2), (1, a3), (9, 0)] [(1, b0), (1, b1)] h := x_i2l dX9_keepingUpper_21
theorem s_X9_keepingUpper_22 {E : PvEnv} {d : Nat} {Q : Int → Hp → Prop} {h : Hp} {a0 a1 a2 a3 b0 b1 : Int} : Ws E d mX9_keepingUpper Q 22 [(0, a0), (0, a1), (0, a2), (1, a3), (9, 0)] [(1, b0), (1, b1)] h = Ws E d mX9_keepingUpper Q 23 [(0, a0), (0, a1), (0, a2), (1, a3), (9, 0)] [(1, a3), (1, b0), (1, b1)] h := x_lload_n dX9_keepingUpper_22 rfl
theorem s_X9_keepingUpper_23 {E : PvEnv} {d : Nat} {Q : Int → Hp → Prop} {h : Hp} {a0 a1 a2 a3 b0 b1 b2 : Int} : Ws E d mX9_keepingUpper Q 23 [(0, a0), (0, a1), (0, a2), (1, a3), (9, 0)] [(1, b0), (1, b1), (1, b2)] h = Ws E d mX9_keepingUpper Q 24 [(0, a0), (0, a1), (0, a2), (1, a3), (9, 0)] [(1, w64 (b1 * b0)), (1, b2)] h := x_lmul dX9_keepingUpper_23
theorem s_X9_keepingUpper_24 {E : PvEnv} {d : Nat} {Q : Int → Hp → Prop} {h : Hp} {a0 a1 a2 a3 b0 b1 : Int} : Ws E d mX9_keepingUpper Q 24 [(0, a0), (0, a1), (0, a2), (1, a3), (9, 0)] [(1, b0), (1, b1)] h = Ws E d mX9_keepingUpper Q 25 [(0, a0), (0, a1), (0, a2), (1, a3), (9, 0)] [(1, w64 (b1 + b0))] h := x_ladd dX9_keepingUpper_24
theorem s_X9_keepingUpper_25 {E : PvEnv} {d : Nat} {Q : Int → Hp → Prop} {h : Hp} {a0 a1 a2 a3 b0 : Int} : Ws E d mX9_keepingUpper Q 25 [(0, a0), (0, a1), (0, a2), (1, a3), (9, 0)] [(1, b0)] h = Q b0 h := x_lret dX9_keepingUpper_25 rfl
theorem b_X9_keepingUpper_0 {E : PvEnv} {d : Nat} {Q : Int → Hp → Prop} {h : Hp} {a0 a1 a2 : Int} : Ws E d mX9_keepingUpper Q 0 [(0, a0), (0, a1), (0, a2), (9, 0), (9, 0)] [] h = wpS E d mX9_power [(1, w32 (a1 - 1)), (0, a0)] h (fun r1 h1 => wpS E d mX9_power [(1, a1), (0, a0)] h1 (fun r2 h2 => Q (w64 (w64 (a1 * (w64 (r2 - r1))) + w64 (a2 * r1))) h2)) := (s_X9_keepingUpper_0).trans ((s_X9_keepingUpper_1).trans ((s_X9_keepingUpper_2).trans ((s_X9_keepingUpper_3).trans ((s_X9_keepingUpper_4).trans ((s_X9_keepingUpper_5).trans (call_c (fun r1 h1 => (s_X9_keepingUpper_8).trans ((s_X9_keepingUpper_9).trans ((s_X9_keepingUpper_10).trans ((s_X9_keepingUpper_11).trans ((s_X9_keepingUpper_12).trans ((s_X9_keepingUpper_13).trans ((s_X9_keepingUpper_14).trans (call_c (fun r2 h2 => (s_X9_keepingUpper_17).trans ((s_X9_keepingUpper_18).trans ((s_X9_keepingUpper_19).trans ((s_X9_keepingUpper_20).trans ((s_X9_keepingUpper_21).trans ((s_X9_keepingUpper_22).trans ((s_X9_keepingUpper_23).trans ((s_X9_keepingUpper_24).trans (s_X9_keepingUpper_25)))))))))))))))))))))))
/-! X9_takesLess -/
theorem dX9_takesLess_0 : decode cX9_takesLess 0 = .ok (.iload_n 0, 1) := by decide +kernel
theorem dX9_takesLess_1 : decode cX9_takesLess 1 = .ok (.iload_n 2, 1) := by decide +kernel
theorem dX9_takesLess_2 : decode cX9_takesLess 2 = .ok (.iload_n 3, 1) := by decide +kernel
theorem dX9_takesLess_3 : decode cX9_takesLess 3 = .ok (.invokestatic 324, 3) := by decide +kernel
theorem dX9_takesLess_6 : decode cX9_takesLess 6 = .ok (.iload_n 2, 1) := by decide +kernel
theorem dX9_takesLess_7 : decode cX9_takesLess 7 = .ok (.iconst 1, 1) := by decide +kernel
theorem dX9_takesLess_8 : decode cX9_takesLess 8 = .ok (.isub, 1) := by decide +kernel
theorem dX9_takesLess_9 : decode cX9_takesLess 9 = .ok (.i2l, 1) := by decide +kernel
theorem dX9_takesLess_10 : decode cX9_takesLess 10 = .ok (.bipush 8, 2) := by decide +kernel
theorem dX9_takesLess_12 : decode cX9_takesLess 12 = .ok (.iload_n 0, 1) := by decide +kernel
theorem dX9_takesLess_13 : decode cX9_takesLess 13 = .ok (.isub, 1) := by decide +kernel
theorem dX9_takesLess_14 : decode cX9_takesLess 14 = .ok (.invokestatic 328, 3) := by decide +kernel
theorem dX9_takesLess_17 : decode cX9_takesLess 17 = .ok (.lmul, 1) := by decide +kernel
theorem dX9_takesLess_18 : decode cX9_takesLess 18 = .ok (.iload_n 1, 1) := by decide +kernel
theorem dX9_takesLess_19 : decode cX9_takesLess 19 = .ok (.i2l, 1) := by decide +kernel
theorem dX9_takesLess_20 : decode cX9_takesLess 20 = .ok (.lmul, 1) := by decide +kernel
theorem dX9_takesLess_21 : decode cX9_takesLess 21 = .ok (.lstore 4, 2) := by decide +kernel
theorem dX9_takesLess_23 : decode cX9_takesLess 23 = .ok (.iload_n 1, 1) := by decide +kernel
theorem dX9_takesLess_24 : decode cX9_takesLess 24 = .ok (.iload_n 2, 1) := by decide +kernel
theorem dX9_takesLess_25 : decode cX9_takesLess 25 = .ok (.iload_n 3, 1) := by decide +kernel
theorem dX9_takesLess_26 : decode cX9_takesLess 26 = .ok (.invokestatic 324, 3) := by decide +kernel
theorem dX9_takesLess_29 : decode cX9_takesLess 29 = .ok (.iload_n 2, 1) := by decide +kernel
theorem dX9_takesLess_30 : decode cX9_takesLess 30 = .ok (.iconst 1, 1) := by decide +kernel
theorem dX9_takesLess_31 : decode cX9_takesLess 31 = .ok (.isub, 1) := by decide +kernel
theorem dX9_takesLess_32 : decode cX9_takesLess 32 = .ok (.i2l, 1) := by decide +kernel
theorem dX9_takesLess_33 : decode cX9_takesLess 33 = .ok (.bipush 8, 2) := by decide +kernel
theorem dX9_takesLess_35 : decode cX9_takesLess 35 = .ok (.iload_n 1, 1) := by decide +kernel
theorem dX9_takesLess_36 : decode cX9_takesLess 36 = .ok (.isub, 1) := by decide +kernel
theorem dX9_takesLess_37 : decode cX9_takesLess 37 = .ok (.invokestatic 328, 3) := by decide +kernel
theorem dX9_takesLess_40 : decode cX9_takesLess 40 = .ok (.lmul, 1) := by decide +kernel
theorem dX9_takesLess_41 : decode cX9_takesLess 41 = .ok (.iload_n 0, 1) := by decide +kernel
theorem dX9_takesLess_42 : decode cX9_takesLess 42 = .ok (.i2l, 1) := by decide +kernel
theorem dX9_takesLess_43 : decode cX9_takesLess 43 = .ok (.lmul, 1) := by decide +kernel
theorem dX9_takesLess_44 : decode cX9_takesLess 44 = .ok (.lstore 6, 2) := by decide +kernel
theorem dX9_takesLess_46 : decode cX9_takesLess 46 = .ok (.lload 4, 2) := by decide +kernel
theorem dX9_takesLess_48 : decode cX9_takesLess 48 = .ok (.lload 6, 2) := by decide +kernel
theorem dX9_takesLess_50 : decode cX9_takesLess 50 = .ok (.lcmp, 1) := by decide +kernel
theorem dX9_takesLess_51 : decode cX9_takesLess 51 = .ok (.ifCond .ge 7, 3) := by decide +kernel
theorem dX9_takesLess_54 : decode cX9_takesLess 54 = .ok (.iconst 1, 1) := by decide +kernel
theorem dX9_takesLess_55 : decode cX9_takesLess 55 = .ok (.goto 4, 3) := by decide +kernel
theorem dX9_takesLess_58 : decode cX9_takesLess 58 = .ok (.iconst 0, 1) := by decide +kernel
theorem dX9_takesLess_59 : decode cX9_takesLess 59 = .ok (.ireturn, 1) := by decide +kernel
theorem s_X9_takesLess_0 {E : PvEnv} {d : Nat} {Q : Int → Hp → Prop} {h : Hp} {a0 a1 a2 a3 : Int} : Ws E d mX9_takesLess Q 0 [(0, a0), (0, a1), (0, a2), (0, a3), (9, 0), (9, 0), (9, 0), (9, 0)] [] h = Ws E d mX9_takesLess Q 1 [(0, a0), (0, a1), (0, a2), (0, a3), (9, 0), (9, 0), (9, 0), (9, 0)] [(0, a0)] h := x_iload_n dX9_takesLess_0 rfl
theorem s_X9_takesLess_1 {E : PvEnv} {d : Nat} {Q : Int → Hp → Prop} {h : Hp} {a0 a1 a2 a3 b0 : Int} : Ws E d mX9_takesLess Q 1 [(0, a0), (0, a1), (0, a2), (0, a3), (9, 0), (9, 0), (9, 0), (9, 0)] [(0, b0)] h = Ws E d mX9_takesLess Q 2 [(0, a0), (0, a1), (0, a2), (0, a3), (9, 0), (9, 0), (9, 0), (9, 0)] [(0, a2), (0, b0)] h := x_iload_n dX9_takesLess_1 rfl
theorem s_X9_takesLess_2 {E : PvEnv} {d : Nat} {Q : Int → Hp → Prop} {h : Hp} {a0 a1 a2 a3 b0 b1 : Int} : Ws E d mX9_takesLess Q 2 [(0, a0), (0, a1), (0, a2), (0, a3), (9, 0), (9, 0), (9, 0), (9, 0)] [(0, b0), (0, b1)] h = Ws E d mX9_takesLess Q 3 [(0, a0), (0, a1), (0, a2), (0, a3), (9, 0), (9, 0), (9, 0), (9, 0)] [(0, a3), (0, b0), (0, b1)] h := x_iload_n dX9_takesLess_2 rfl
theorem s_X9_takesLess_3 {E : PvEnv} {d : Nat} {Q : Int → Hp → Prop} {h : Hp} {a0 a1 a2 a3 b0 b1 b2 : Int} : Ws E d mX9_takesLess Q 3 [(0, a0), (0, a1), (0, a2), (0, a3), (9, 0), (9, 0), (9, 0), (9, 0)] [(0, b0), (0, b1), (0, b2)] h = wpS E d mX9_keepingUpper [(0, b2), (0, b1), (0, b0)] h (fun r h' => Ws E d mX9_takesLess Q 6 [(0, a0), (0, a1), (0, a2), (0, a3), (9, 0), (9, 0), (9, 0), (9, 0)] [(1, r)] (h')) := x_cs dX9_takesLess_3 cl_9_324 (by decide) rfl rfl rfl (Nat.le_of_ble_eq_true rfl) ⟨by decide, by decide⟩ rfl rfl
theorem s_X9_takesLess_6 {E : PvEnv} {d : Nat} {Q : Int → Hp → Prop} {h : Hp} {a0 a1 a2 a3 b0 : Int} : Ws E d mX9_takesLess Q 6 [(0, a0), (0, a1), (0, a2), (0, a3), (9, 0), (9, 0), (9, 0), (9, 0)] [(1, b0)] h = Ws E d mX9_takesLess Q 7 [(0, a0), (0, a1), (0, a2), (0, a3), (9, 0), (9, 0), (9, 0), (9, 0)] [(0, a2), (1, b0)] h := x_iload_n dX9_takesLess_6 rfl
theorem s_X9_takesLess_7 {E : PvEnv} {d : Nat} {Q : Int → Hp → Prop} {h : Hp} {a0 a1 a2 a3 b0 b1 : Int} : Ws E d mX9_takesLess Q 7 [(0, a0), (0, a1), (0, a2), (0, a3), (9, 0), (9, 0), (9, 0), (9, 0)] [(0, b0), (1, b1)] h = Ws E d mX9_takesLess Q 8 [(0, a0), (0, a1), (0, a2), (0, a3), (9, 0), (9, 0), (9, 0), (9, 0)] [(0, 1), (0, b0), (1, b1)] h := x_iconst dX9_takesLess_7 (by decide)
theorem s_X9_takesLess_8 {E : PvEnv} {d : Nat} {Q : Int → Hp → Prop} {h : Hp} {a0 a1 a2 a3 b0 b1 b2 : Int} : Ws E d mX9_takesLess Q 8 [(0, a0), (0, a1), (0, a2), (0, a3), (9, 0), (9, 0), (9, 0), (9, 0)] [(0, b0), (0, b1), (1, b2)] h = Ws E d mX9_takesLess Q 9 [(0, a0), (0, a1), (0, a2), (0, a3), (9, 0), (9, 0), (9, 0), (9, 0)] [(0, w32 (b1 - b0)), (1, b2)] h := x_isub dX9_takesLess_8
theorem s_X9_takesLess_9 {E : PvEnv} {d : Nat} {Q : Int → Hp → Prop} {h : Hp} {a0 a1 a2 a3 b0 b1 : Int} : Ws E d mX9_takesLess Q 9 [(0, a0), (0, a1), (0, a2), (0, a3), (9, 0), (9, 0), (9, 0), (9, 0)] [(0, b0), (1, b1)] h = Ws E d mX9_takesLess Q 10 [(0, a0), (0, a1), (0, a2), (0, a3), (9, 0), (9, 0), (9, 0), (9, 0)] [(1, b0), (1, b1)] h := x_i2l dX9_takesLess_9
theorem s_X9_takesLess_10 {E : PvEnv} {d : Nat} {Q : Int → Hp → Prop} {h : Hp} {a0 a1 a2 a3 b0 b1 : Int} : Ws E d mX9_takesLess Q 10 [(0, a0), (0, a1), (0, a2), (0, a3), (9, 0), (9, 0), (9, 0), (9, 0)] [(1, b0), (1, b1)] h = Ws E d mX9_takesLess Q 12 [(0, a0), (0, a1), (0, a2), (0, a3), (9, 0), (9, 0), (9, 0), (9, 0)] [(0, 8), (1, b0), (1, b1)] h := x_bipush dX9_takesLess_10 (by decide)
theorem s_X9_takesLess_12 {E : PvEnv} {d : Nat} {Q : Int → Hp → Prop} {h : Hp} {a0 a1 a2 a3 b0 b1 b2 : Int} : Ws E d mX9_takesLess Q 12 [(0, a0), (0, a1), (0, a2), (0, a3), (9, 0), (9, 0), (9, 0), (9, 0)] [(0, b0), (1, b1), (1, b2)] h = Ws E d mX9_takesLess Q 13 [(0, a0), (0, a1), (0, a2), (0, a3), (9, 0), (9, 0), (9, 0), (9, 0)] [(0, a0), (0, b0), (1, b1), (1, b2)] h := x_iload_n dX9_takesLess_12 rfl
theorem s_X9_takesLess_13 {E : PvEnv} {d : Nat} {Q : Int → Hp → Prop} {h : Hp} {a0 a1 a2 a3 b0 b1 b2 b3 : Int} : Ws E d mX9_takesLess Q 13 [(0, a0), (0, a1), (0, a2), (0, a3), (9, 0), (9, 0), (9, 0), (9, 0)] [(0, b0), (0, b1), (1, b2), (1, b3)] h = Ws E d mX9_takesLess Q 14 [(0, a0), (0, a1), (0, a2), (0, a3), (9, 0), (9, 0), (9, 0), (9, 0)] [(0, w32 (b1 - b0)), (1, b2), (1, b3)] h := x_isub dX9_takesLess_13
theorem s_X9_takesLess_14 {E : PvEnv} {d : Nat} {Q : Int → Hp → Prop} {h : Hp} {a0 a1 a2 a3 b0 b1 b2 : Int} : Ws E d mX9_takesLess Q 14 [(0, a0), (0, a1), (0, a2), (0, a3), (9, 0), (9, 0), (9, 0), (9, 0)] [(0, b0), (1, b1), (1, b2)] h = wpS E d mX9_power [(1, b1), (0, b0)] h (fun r h' => Ws E d mX9_takesLess Q 17 [(0, a0), (0, a1), (0, a2), (0, a3), (9, 0), (9, 0), (9, 0), (9, 0)] [(1, r), (1, b2)] (h')) := x_cs dX9_takesLess_14 cl_9_328 (by decide) rfl rfl rfl (Nat.le_of_ble_eq_true rfl) ⟨by decide, by decide⟩ rfl rfl
theorem s_X9_takesLess_17 {E : PvEnv} {d : Nat} {Q : Int → Hp → Prop} {h : Hp} {a0 a1 a2 a3 b0 b1 : Int} : Ws E d mX9_takesLess Q 17 [(0, a0), (0, a1), (0, a2), (0, a3), (9, 0), (9, 0), (9, 0), (9, 0)] [(1, b0), (1, b1)] h = Ws E d mX9_takesLess Q 18 [(0, a0), (0, a1), (0, a2), (0, a3), (9, 0), (9, 0), (9, 0), (9, 0)] [(1, w64 (b1 * b0))] h := x_lmul dX9_takesLess_17
theorem s_X9_takesLess_18 {E : PvEnv} {d : Nat} {Q : Int → Hp → Prop} {h : Hp} {a0 a1 a2 a3 b0 : Int} : Ws E d mX9_takesLess Q 18 [(0, a0), (0, a1), (0, a2), (0, a3), (9, 0), (9, 0), (9, 0), (9, 0)] [(1, b0)] h = Ws E d mX9_takesLess Q 19 [(0, a0), (0, a1), (0, a2), (0, a3), (9, 0), (9, 0), (9, 0), (9, 0)] [(0, a1), (1, b0)] h := x_iload_n dX9_takesLess_18 rfl
theorem s_X9_takesLess_19 {E : PvEnv} {d : Nat} {Q : Int → Hp → Prop} {h : Hp} {a0 a1 a2 a3 b0 b1 : Int} : Ws E d mX9_takesLess Q 19 [(0, a0), (0, a1), (0, a2), (0, a3), (9, 0), (9, 0), (9, 0), (9, 0)] [(0, b0), (1, b1)] h = Ws E d mX9_takesLess Q 20 [(0, a0), (0, a1), (0, a2), (0, a3), (9, 0), (9, 0), (9, 0), (9, 0)] [(1, b0), (1, b1)] h := x_i2l dX9_takesLess_19
theorem s_X9_takesLess_20 {E : PvEnv} {d : Nat} {Q : Int → Hp → Prop} {h : Hp} {a0 a1 a2 a3 b0 b1 : Int} : Ws E d mX9_takesLess Q 20 [(0, a0), (0, a1), (0, a2), (0, a3), (9, 0), (9, 0), (9, 0), (9, 0)] [(1, b0), (1, b1)] h = Ws E d mX9_takesLess Q 21 [(0, a0), (0, a1), (0, a2), (0, a3), (9, 0), (9, 0), (9, 0), (9, 0)] [(1, w64 (b1 * b0))] h := x_lmul dX9_takesLess_20
theorem s_X9_takesLess_21 {E : PvEnv} {d : Nat} {Q : Int → Hp → Prop} {h : Hp} {a0 a1 a2 a3 b0 : Int} : Ws E d mX9_takesLess Q 21 [(0, a0), (0, a1), (0, a2), (0, a3), (9, 0), (9, 0), (9, 0), (9, 0)] [(1, b0)] h = Ws E d mX9_takesLess Q 23 [(0, a0), (0, a1), (0, a2), (0, a3), (1, b0), (9, 0), (9, 0), (9, 0)] [] h := x_lstore dX9_takesLess_21 rfl
theorem s_X9_takesLess_23 {E : PvEnv} {d : Nat} {Q : Int → Hp → Prop} {h : Hp} {a0 a1 a2 a3 a4 : Int} : Ws E d mX9_takesLess Q 23 [(0, a0), (0, a1), (0, a2), (0, a3), (1, a4), (9, 0), (9, 0), (9, 0)] [] h = Ws E d mX9_takesLess Q 24 [(0, a0), (0, a1), (0, a2), (0, a3), (1, a4), (9, 0), (9, 0), (9, 0)] [(0, a1)] h := x_iload_n dX9_takesLess_23 rfl
theorem s_X9_takesLess_24 {E : PvEnv} {d : Nat} {Q : Int → Hp → Prop} {h : Hp} {a0 a1 a2 a3 a4 b0 : Int} : Ws E d mX9_takesLess Q 24 [(0, a0), (0, a1), (0, a2), (0, a3), (1, a4), (9, 0), (9, 0), (9, 0)] [(0, b0)] h = Ws E d mX9_takesLess Q 25 [(0, a0), (0, a1), (0, a2), (0, a3), (1, a4), (9, 0), (9, 0), (9, 0)] [(0, a2), (0, b0)] h := x_iload_n dX9_takesLess_24 rfl
theorem s_X9_takesLess_25 {E : PvEnv} {d : Nat} {Q : Int → Hp → Prop} {h : Hp} {a0 a1 a2 a3 a4 b0 b1 : Int} : Ws E d mX9_takesLess Q 25 [(0, a0), (0, a1), (0, a2), (0, a3), (1, a4), (9, 0), (9, 0), (9, 0)] [(0, b0), (0, b1)] h = Ws E d mX9_takesLess Q 26 [(0, a0), (0, a1), (0, a2), (0, a3), (1, a4), (9, 0), (9, 0), (9, 0)] [(0, a3), (0, b0), (0, b1)] h := x_iload_n dX9_takesLess_25 rfl
theorem s_X9_takesLess_26 {E : PvEnv} {d : Nat} {Q : Int → Hp → Prop} {h : Hp} {a0 a1 a2 a3 a4 b0 b1 b2 : Int} : Ws E d mX9_takesLess Q 26 [(0, a0), (0, a1), (0, a2), (0, a3), (1, a4), (9, 0), (9, 0), (9, 0)] [(0, b0), (0, b1), (0, b2)] h = wpS E d mX9_keepingUpper [(0, b2), (0, b1), (0, b0)] h (fun r h' => Ws E d mX9_takesLess Q 29 [(0, a0), (0, a1), (0, a2), (0, a3), (1, a4), (9, 0), (9, 0), (9, 0)] [(1, r)] (h')) := x_cs dX9_takesLess_26 cl_9_324 (by decide) rfl rfl rfl (Nat.le_of_ble_eq_true rfl) ⟨by decide, by decide⟩ rfl rfl
theorem s_X9_takesLess_29 {E : PvEnv} {d : Nat} {Q : Int → Hp → Prop} {h : Hp} {a0 a1 a2 a3 a4 b0 : Int} : Ws E d mX9_takesLess Q 29 [(0, a0), (0, a1), (0, a2), (0, a3), (1, a4), (9, 0), (9, 0), (9, 0)] [(1, b0)] h = Ws E d mX9_takesLess Q 30 [(0, a0), (0, a1), (0, a2), (0, a3), (1, a4), (9, 0), (9, 0), (9, 0)] [(0, a2), (1, b0)] h := x_iload_n dX9_takesLess_29 rfl
theorem s_X9_takesLess_30 {E : PvEnv} {d : Nat} {Q : Int → Hp → Prop} {h : Hp} {a0 a1 a2 a3 a4 b0 b1 : Int} : Ws E d mX9_takesLess Q 30 [(0, a0), (0, a1), (0, a2), (0, a3), (1, a4), (9, 0), (9, 0), (9, 0)] [(0, b0), (1, b1)] h = Ws E d mX9_takesLess Q 31 [(0, a0), (0, a1), (0, a2), (0, a3), (1, a4), (9, 0), (9, 0), (9, 0)] [(0, 1), (0, b0), (1, b1)] h := x_iconst dX9_takesLess_30 (by decide)
theorem s_X9_takesLess_31 {E : PvEnv} {d : Nat} {Q : Int → Hp → Prop} {h : Hp} {a0 a1 a2 a3 a4 b0 b1 b2 : Int} : Ws E d mX9_takesLess Q 31 [(0, a0), (0, a1), (0, a2), (0, a3), (1, a4), (9, 0), (9, 0), (9, 0)] [(0, b0), (0, b1), (1, b2)] h = Ws E d mX9_takesLess Q 32 [(0, a0), (0, a1), (0, a2), (0, a3), (1, a4), (9, 0), (9, 0), (9, 0)] [(0, w32 (b1 - b0)), (1, b2)] h := x_isub dX9_takesLess_31
theorem s_X9_takesLess_32 {E : PvEnv} {d : Nat} {Q : Int → Hp → Prop} {h : Hp} {a0 a1 a2 a3 a4 b0 b1 : Int} : Ws E d mX9_takesLess Q 32 [(0, a0), (0, a1), (0, a2), (0, a3), (1, a4), (9, 0), (9, 0), (9, 0)] [(0, b0), (1, b1)] h = Ws E d mX9_takesLess Q 33 [(0, a0), (0, a1), (0, a2), (0, a3), (1, a4), (9, 0), (9, 0), (9, 0)] [(1, b0), (1, b1)] h := x_i2l dX9_takesLess_32
theorem s_X9_takesLess_33 {E : PvEnv} {d : Nat} {Q : Int → Hp → Prop} {h : Hp} {a0 a1 a2 a3 a4 b0 b1 : Int} : Ws E d mX9_takesLess Q 33 [(0, a0), (0, a1), (0, a2), (0, a3), (1, a4), (9, 0), (9, 0), (9, 0)] [(1, b0), (1, b1)] h = Ws E d mX9_takesLess Q 35 [(0, a0), (0, a1), (0, a2), (0, a3), (1, a4), (9, 0), (9, 0), (9, 0)] [(0, 8), (1, b0), (1, b1)] h := x_bipush dX9_takesLess_33 (by decide)
theorem s_X9_takesLess_35 {E : PvEnv} {d : Nat} {Q : Int → Hp → Prop} {h : Hp} {a0 a1 a2 a3 a4 b0 b1 b2 : Int} : Ws E d mX9_takesLess Q 35 [(0, a0), (0, a1), (0, a2), (0, a3), (1, a4), (9, 0), (9, 0), (9, 0)] [(0, b0), (1, b1), (1, b2)] h = Ws E d mX9_takesLess Q 36 [(0, a0), (0, a1), (0, a2), (0, a3), (1, a4), (9, 0), (9, 0), (9, 0)] [(0, a1), (0, b0), (1, b1), (1, b2)] h := x_iload_n dX9_takesLess_35 rfl
theorem s_X9_takesLess_36 {E : PvEnv} {d : Nat} {Q : Int → Hp → Prop} {h : Hp} {a0 a1 a2 a3 a4 b0 b1 b2 b3 : Int} : Ws E d mX9_takesLess Q 36 [(0, a0), (0, a1), (0, a2), (0, a3), (1, a4), (9, 0), (9, 0), (9, 0)] [(0, b0), (0, b1), (1, b2), (1, b3)] h = Ws E d mX9_takesLess Q 37 [(0, a0), (0, a1), (0, a2), (0, a3), (1, a4), (9, 0), (9, 0), (9, 0)] [(0, w32 (b1 - b0)), (1, b2), (1, b3)] h := x_isub dX9_takesLess_36
theorem s_X9_takesLess_37 {E : PvEnv} {d : Nat} {Q : Int → Hp → Prop} {h : Hp} {a0 a1 a2 a3 a4 b0 b1 b2 : Int} : Ws E d mX9_takesLess Q 37 [(0, a0), (0, a1), (0, a2), (0, a3), (1, a4), (9, 0), (9, 0), (9, 0)] [(0, b0), (1, b1), (1, b2)] h = wpS E d mX9_power [(1, b1), (0, b0)] h (fun r h' => Ws E d mX9_takesLess Q 40 [(0, a0), (0, a1), (0, a2), (0, a3), (1, a4), (9, 0), (9, 0), (9, 0)] [(1, r), (1, b2)] (h')) := x_cs dX9_takesLess_37 cl_9_328 (by decide) rfl rfl rfl (Nat.le_of_ble_eq_true rfl) ⟨by decide, by decide⟩ rfl rfl
theorem s_X9_takesLess_40 {E : PvEnv} {d : Nat} {Q : Int → Hp → Prop} {h : Hp} {a0 a1 a2 a3 a4 b0 b1 : Int} : Ws E d mX9_takesLess Q 40 [(0, a0), (0, a1), (0, a2), (0, a3), (1, a4), (9, 0), (9, 0), (9, 0)] [(1, b0), (1, b1)] h = Ws E d mX9_takesLess Q 41 [(0, a0), (0, a1), (0, a2), (0, a3), (1, a4), (9, 0), (9, 0), (9, 0)] [(1, w64 (b1 * b0))] h := x_lmul dX9_takesLess_40
theorem s_X9_takesLess_41 {E : PvEnv} {d : Nat} {Q : Int → Hp → Prop} {h : Hp} {a0 a1 a2 a3 a4 b0 : Int} : Ws E d mX9_takesLess Q 41 [(0, a0), (0, a1), (0, a2), (0, a3), (1, a4), (9, 0), (9, 0), (9, 0)] [(1, b0)] h = Ws E d mX9_takesLess Q 42 [(0, a0), (0, a1), (0, a2), (0, a3), (1, a4), (9, 0), (9, 0), (9, 0)] [(0, a0), (1, b0)] h := x_iload_n dX9_takesLess_41 rfl
theorem s_X9_takesLess_42 {E : PvEnv} {d : Nat} {Q : Int → Hp → Prop} {h : Hp} {a0 a1 a2 a3 a4 b0 b1 : Int} : Ws E d mX9_takesLess Q 42 [(0, a0), (0, a1), (0, a2), (0, a3), (1, a4), (9, 0), (9, 0), (9, 0)] [(0, b0), (1, b1)] h = Ws E d mX9_takesLess Q 43 [(0, a0), (0, a1), (0, a2), (0, a3), (1, a4), (9, 0), (9, 0), (9, 0)] [(1, b0), (1, b1)] h := x_i2l dX9_takesLess_42
theorem s_X9_takesLess_43 {E : PvEnv} {d : Nat} {Q : Int → Hp → Prop} {h : Hp} {a0 a1 a2 a3 a4 b0 b1 : Int} : Ws E d mX9_takesLess Q 43 [(0, a0), (0, a1), (0, a2), (0, a3), (1, a4), (9, 0), (9, 0), (9, 0)] [(1, b0), (1, b1)] h = Ws E d mX9_takesLess Q 44 [(0, a0), (0, a1), (0, a2), (0, a3), (1, a4), (9, 0), (9, 0), (9, 0)] [(1, w64 (b1 * b0))] h := x_lmul dX9_takesLess_43
theorem s_X9_takesLess_44 {E : PvEnv} {d : Nat} {Q : Int → Hp → Prop} {h : Hp} {a0 a1 a2 a3 a4 b0 : Int} : Ws E d mX9_takesLess Q 44 [(0, a0), (0, a1), (0, a2), (0, a3), (1, a4), (9, 0), (9, 0), (9, 0)] [(1, b0)] h = Ws E d mX9_takesLess Q 46 [(0, a0), (0, a1), (0, a2), (0, a3), (1, a4), (9, 0), (1, b0), (9, 0)] [] h := x_lstore dX9_takesLess_44 rfl
theorem s_X9_takesLess_46 {E : PvEnv} {d : Nat} {Q : Int → Hp → Prop} {h : Hp} {a0 a1 a2 a3 a4 a6 : Int} : Ws E d mX9_takesLess Q 46 [(0, a0), (0, a1), (0, a2), (0, a3), (1, a4), (9, 0), (1, a6), (9, 0)] [] h = Ws E d mX9_takesLess Q 48 [(0, a0), (0, a1), (0, a2), (0, a3), (1, a4), (9, 0), (1, a6), (9, 0)] [(1, a4)] h := x_lload dX9_takesLess_46 rfl
theorem s_X9_takesLess_48 {E : PvEnv} {d : Nat} {Q : Int → Hp → Prop} {h : Hp} {a0 a1 a2 a3 a4 a6 b0 : Int} : Ws E d mX9_takesLess Q 48 [(0, a0), (0, a1), (0, a2), (0, a3), (1, a4), (9, 0), (1, a6), (9, 0)] [(1, b0)] h = Ws E d mX9_takesLess Q 50 [(0, a0), (0, a1), (0, a2), (0, a3), (1, a4), (9, 0), (1, a6), (9, 0)] [(1, a6), (1, b0)] h := x_lload dX9_takesLess_48 rfl
theorem s_X9_takesLess_50 {E : PvEnv} {d : Nat} {Q : Int → Hp → Prop} {h : Hp} {a0 a1 a2 a3 a4 a6 b0 b1 : Int} : Ws E d mX9_takesLess Q 50 [(0, a0), (0, a1), (0, a2), (0, a3), (1, a4), (9, 0), (1, a6), (9, 0)] [(1, b0), (1, b1)] h = Ws E d mX9_takesLess Q 51 [(0, a0), (0, a1), (0, a2), (0, a3), (1, a4), (9, 0), (1, a6), (9, 0)] [(0, lcmpI b1 b0)] h := x_lcmp dX9_takesLess_50
theorem s_X9_takesLess_51 {E : PvEnv} {d : Nat} {Q : Int → Hp → Prop} {h : Hp} {a0 a1 a2 a3 a4 a6 b0 : Int} : Ws E d mX9_takesLess Q 51 [(0, a0), (0, a1), (0, a2), (0, a3), (1, a4), (9, 0), (1, a6), (9, 0)] [(0, b0)] h = (if b0 < 0 then Ws E d mX9_takesLess Q 54 [(0, a0), (0, a1), (0, a2), (0, a3), (1, a4), (9, 0), (1, a6), (9, 0)] [] h else Ws E d mX9_takesLess Q 58 [(0, a0), (0, a1), (0, a2), (0, a3), (1, a4), (9, 0), (1, a6), (9, 0)] [] h) := x_if_ge dX9_takesLess_51 (by decide) rfl
theorem s_X9_takesLess_54 {E : PvEnv} {d : Nat} {Q : Int → Hp → Prop} {h : Hp} {a0 a1 a2 a3 a4 a6 : Int} : Ws E d mX9_takesLess Q 54 [(0, a0), (0, a1), (0, a2), (0, a3), (1, a4), (9, 0), (1, a6), (9, 0)] [] h = Ws E d mX9_takesLess Q 55 [(0, a0), (0, a1), (0, a2), (0, a3), (1, a4), (9, 0), (1, a6), (9, 0)] [(0, 1)] h := x_iconst dX9_takesLess_54 (by decide)
theorem s_X9_takesLess_55 {E : PvEnv} {d : Nat} {Q : Int → Hp → Prop} {h : Hp} {a0 a1 a2 a3 a4 a6 b0 : Int} : Ws E d mX9_takesLess Q 55 [(0, a0), (0, a1), (0, a2), (0, a3), (1, a4), (9, 0), (1, a6), (9, 0)] [(0, b0)] h = Ws E d mX9_takesLess Q 59 [(0, a0), (0, a1), (0, a2), (0, a3), (1, a4), (9, 0), (1, a6), (9, 0)] [(0, b0)] h := x_goto dX9_takesLess_55 (by decide) rfl
theorem s_X9_takesLess_59 {E : PvEnv} {d : Nat} {Q : Int → Hp → Prop} {h : Hp} {a0 a1 a2 a3 a4 a6 : Int} : Ws E d mX9_takesLess Q 59 [(0, a0), (0, a1), (0, a2), (0, a3), (1, a4), (9, 0), (1, a6), (9, 0)] [(0, 1)] h = Q 1 h := x_iretz dX9_takesLess_59 rfl (Or.inr rfl)
theorem s_X9_takesLess_58 {E : PvEnv} {d : Nat} {Q : Int → Hp → Prop} {h : Hp} {a0 a1 a2 a3 a4 a6 : Int} : Ws E d mX9_takesLess Q 58 [(0, a0), (0, a1), (0, a2), (0, a3), (1, a4), (9, 0), (1, a6), (9, 0)] [] h = Ws E d mX9_takesLess Q 59 [(0, a0), (0, a1), (0, a2), (0, a3), (1, a4), (9, 0), (1, a6), (9, 0)] [(0, 0)] h := x_iconst dX9_takesLess_58 (by decide)
theorem s_X9_takesLess_59_1 {E : PvEnv} {d : Nat} {Q : Int → Hp → Prop} {h : Hp} {a0 a1 a2 a3 a4 a6 : Int} : Ws E d mX9_takesLess Q 59 [(0, a0), (0, a1), (0, a2), (0, a3), (1, a4), (9, 0), (1, a6), (9, 0)] [(0, 0)] h = Q 0 h := x_iretz dX9_takesLess_59 rfl (Or.inl rfl)
theorem b_X9_takesLess_0 {E : PvEnv} {d : Nat} {Q : Int → Hp → Prop} {h : Hp} {a0 a1 a2 a3 : Int} : Ws E d mX9_takesLess Q 0 [(0, a0), (0, a1), (0, a2), (0, a3), (9, 0), (9, 0), (9, 0), (9, 0)] [] h = wpS E d mX9_keepingUpper [(0, a0), (0, a2), (0, a3)] h (fun r1 h1 => wpS E d mX9_power [(1, w32 (a2 - 1)), (0, w32 (8 - a0))] h1 (fun r2 h2 => wpS E d mX9_keepingUpper [(0, a1), (0, a2), (0, a3)] h2 (fun r3 h3 => wpS E d mX9_power [(1, w32 (a2 - 1)), (0, w32 (8 - a1))] h3 (fun r4 h4 => (if lcmpI (w64 ((w64 (r1 * r2)) * a1)) (w64 ((w64 (r3 * r4)) * a0)) < 0 then Q 1 h4 else Q 0 h4))))) := (s_X9_takesLess_0).trans ((s_X9_takesLess_1).trans ((s_X9_takesLess_2).trans ((s_X9_takesLess_3).trans (call_c (fun r1 h1 => (s_X9_takesLess_6).trans ((s_X9_takesLess_7).trans ((s_X9_takesLess_8).trans ((s_X9_takesLess_9).trans ((s_X9_takesLess_10).trans ((s_X9_takesLess_12).trans ((s_X9_takesLess_13).trans ((s_X9_takesLess_14).trans (call_c (fun r2 h2 => (s_X9_takesLess_17).trans ((s_X9_takesLess_18).trans ((s_X9_takesLess_19).trans ((s_X9_takesLess_20).trans ((s_X9_takesLess_21).trans ((s_X9_takesLess_23).trans ((s_X9_takesLess_24).trans ((s_X9_takesLess_25).trans ((s_X9_takesLess_26).trans (call_c (fun r3 h3 => (s_X9_takesLess_29).trans ((s_X9_takesLess_30).trans ((s_X9_takesLess_31).trans ((s_X9_takesLess_32).trans ((s_X9_takesLess_33).trans ((s_X9_takesLess_35).trans ((s_X9_takesLess_36).trans ((s_X9_takesLess_37).trans (call_c (fun r4 h4 => (s_X9_takesLess_40).trans ((s_X9_takesLess_41).trans ((s_X9_takesLess_42).trans ((s_X9_takesLess_43).trans ((s_X9_takesLess_44).trans ((s_X9_takesLess_46).trans ((s_X9_takesLess_48).trans ((s_X9_takesLess_50).trans ((s_X9_takesLess_51).trans (ite_c ((s_X9_takesLess_54).trans ((s_X9_takesLess_55).trans (s_X9_takesLess_59))) ((s_X9_takesLess_58).trans (s_X9_takesLess_59_1))))))))))))))))))))))))))))))))))))))))))))
