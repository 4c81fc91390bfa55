/-! facts of the tables that the steps use (by program) -/
theorem EF_ref (n : Int) {a k v : Int} (h1 : a ≠ -2) (h2 : a ≠ -3) (h : refT a k = v) : EF n a k = v := by unfold EF; rw [if_neg h1, if_neg h2]; exact h
theorem EF_11 (n : Int) : ∀ k, EF n 11 k = refT 11 k := fun _ => EF_ref n (by decide) (by decide) rfl
theorem EF_50 (n : Int) : ∀ k, EF n 50 k = refT 50 k := fun _ => EF_ref n (by decide) (by decide) rfl
theorem rt_0_0 : refT 0 0 = 1 := by decide +kernel
theorem rt_0_1 : refT 0 1 = 4 := by decide +kernel
theorem rt_0_2 : refT 0 2 = 7 := by decide +kernel
theorem rt_0_3 : refT 0 3 = 9 := by decide +kernel
theorem rt_0_4 : refT 0 4 = 11 := by decide +kernel
theorem rt_0_5 : refT 0 5 = 20 := by decide +kernel
theorem rt_0_6 : refT 0 6 = 26 := by decide +kernel
theorem rt_0_7 : refT 0 7 = 30 := by decide +kernel
theorem rt_0_8 : refT 0 8 = 37 := by decide +kernel
theorem rt_0_9 : refT 0 9 = 41 := by decide +kernel
theorem rt_0_10 : refT 0 10 = 45 := by decide +kernel
theorem rt_0_11 : refT 0 11 = 48 := by decide +kernel
theorem rt_0_12 : refT 0 12 = 49 := by decide +kernel
theorem rt_0_13 : refT 0 13 = (-7) := by decide +kernel
theorem rt_0_14 : refT 0 14 = (-7) := by decide +kernel
theorem rt_1_0 : refT 1 0 = 2 := by decide +kernel
theorem rt_1_1 : refT 1 1 = 3 := by decide +kernel
theorem rt_4_0 : refT 4 0 = 5 := by decide +kernel
theorem rt_4_1 : refT 4 1 = 6 := by decide +kernel
theorem rt_7_0 : refT 7 0 = (-7) := by decide +kernel
theorem rt_7_1 : refT 7 1 = (-7) := by decide +kernel
theorem rt_7_2 : refT 7 2 = (-7) := by decide +kernel
theorem rt_7_3 : refT 7 3 = (-7) := by decide +kernel
theorem rt_7_4 : refT 7 4 = (-7) := by decide +kernel
theorem rt_9_0 : refT 9 0 = (-7) := by decide +kernel
theorem rt_9_1 : refT 9 1 = (-7) := by decide +kernel
theorem rt_9_2 : refT 9 2 = (-7) := by decide +kernel
theorem rt_9_3 : refT 9 3 = (-7) := by decide +kernel
theorem rt_9_4 : refT 9 4 = (-7) := by decide +kernel
theorem rt_9_5 : refT 9 5 = 10 := by decide +kernel
theorem rt_9_6 : refT 9 6 = (-7) := by decide +kernel
theorem rt_9_7 : refT 9 7 = (-7) := by decide +kernel
theorem rt_9_8 : refT 9 8 = (-7) := by decide +kernel
theorem rt_11_0 : refT 11 0 = 12 := by decide +kernel
theorem rt_11_1 : refT 11 1 = 13 := by decide +kernel
theorem rt_11_2 : refT 11 2 = 14 := by decide +kernel
theorem rt_11_3 : refT 11 3 = 15 := by decide +kernel
theorem rt_11_4 : refT 11 4 = 16 := by decide +kernel
theorem rt_11_5 : refT 11 5 = 17 := by decide +kernel
theorem rt_11_6 : refT 11 6 = 18 := by decide +kernel
theorem rt_11_7 : refT 11 7 = 19 := by decide +kernel
theorem rt_11_8 : refT 11 8 = (-7) := by decide +kernel
theorem rt_11_9 : refT 11 9 = (-7) := by decide +kernel
theorem rt_20_0 : refT 20 0 = 21 := by decide +kernel
theorem rt_20_1 : refT 20 1 = 22 := by decide +kernel
theorem rt_20_2 : refT 20 2 = 23 := by decide +kernel
theorem rt_20_3 : refT 20 3 = 24 := by decide +kernel
theorem rt_20_4 : refT 20 4 = 25 := by decide +kernel
theorem rt_20_5 : refT 20 5 = (-7) := by decide +kernel
theorem rt_20_6 : refT 20 6 = (-7) := by decide +kernel
theorem rt_26_0 : refT 26 0 = 27 := by decide +kernel
theorem rt_26_1 : refT 26 1 = 28 := by decide +kernel
theorem rt_26_2 : refT 26 2 = 29 := by decide +kernel
theorem rt_26_3 : refT 26 3 = (-7) := by decide +kernel
theorem rt_26_4 : refT 26 4 = (-7) := by decide +kernel
theorem rt_26_5 : refT 26 5 = (-7) := by decide +kernel
theorem rt_26_6 : refT 26 6 = (-7) := by decide +kernel
theorem rt_26_7 : refT 26 7 = (-7) := by decide +kernel
theorem rt_30_0 : refT 30 0 = 31 := by decide +kernel
theorem rt_30_1 : refT 30 1 = 32 := by decide +kernel
theorem rt_30_2 : refT 30 2 = 33 := by decide +kernel
theorem rt_30_3 : refT 30 3 = 34 := by decide +kernel
theorem rt_30_4 : refT 30 4 = 35 := by decide +kernel
theorem rt_30_5 : refT 30 5 = 36 := by decide +kernel
theorem rt_37_0 : refT 37 0 = 38 := by decide +kernel
theorem rt_37_1 : refT 37 1 = 39 := by decide +kernel
theorem rt_37_2 : refT 37 2 = 40 := by decide +kernel
theorem rt_37_3 : refT 37 3 = (-7) := by decide +kernel
theorem rt_37_4 : refT 37 4 = (-7) := by decide +kernel
theorem rt_37_5 : refT 37 5 = (-7) := by decide +kernel
theorem rt_37_6 : refT 37 6 = (-7) := by decide +kernel
theorem rt_41_0 : refT 41 0 = 42 := by decide +kernel
theorem rt_41_1 : refT 41 1 = 43 := by decide +kernel
theorem rt_41_2 : refT 41 2 = 44 := by decide +kernel
theorem rt_41_3 : refT 41 3 = (-7) := by decide +kernel
theorem rt_41_4 : refT 41 4 = (-7) := by decide +kernel
theorem rt_41_5 : refT 41 5 = (-7) := by decide +kernel
theorem rt_41_6 : refT 41 6 = (-7) := by decide +kernel
theorem rt_45_0 : refT 45 0 = (-7) := by decide +kernel
theorem rt_45_1 : refT 45 1 = (-7) := by decide +kernel
theorem rt_45_2 : refT 45 2 = (-7) := by decide +kernel
theorem rt_48_0 : refT 48 0 = (-7) := by decide +kernel
theorem rt_48_1 : refT 48 1 = (-7) := by decide +kernel
theorem rt_50_0 : refT 50 0 = (-7) := by decide +kernel
theorem rt_50_1 : refT 50 1 = 51 := by decide +kernel
theorem rt_50_2 : refT 50 2 = (-7) := by decide +kernel
theorem rt_50_3 : refT 50 3 = (-7) := by decide +kernel
theorem rt_50_4 : refT 50 4 = (-7) := by decide +kernel
theorem rt_50_5 : refT 50 5 = 52 := by decide +kernel
theorem rt_50_6 : refT 50 6 = 53 := by decide +kernel
theorem rt_50_7 : refT 50 7 = 54 := by decide +kernel
theorem rt_50_8 : refT 50 8 = 55 := by decide +kernel
theorem rt_50_9 : refT 50 9 = 56 := by decide +kernel
theorem rt_50_10 : refT 50 10 = (-7) := by decide +kernel
theorem rt_50_11 : refT 50 11 = (-7) := by decide +kernel
theorem rt_50_12 : refT 50 12 = (-7) := by decide +kernel
theorem rt_50_13 : refT 50 13 = (-7) := by decide +kernel
theorem rt_50_14 : refT 50 14 = (-7) := by decide +kernel
theorem rt_50_15 : refT 50 15 = (-7) := by decide +kernel
theorem rt_50_16 : refT 50 16 = (-7) := by decide +kernel
theorem rt_50_17 : refT 50 17 = (-7) := by decide +kernel
theorem rt_50_18 : refT 50 18 = (-7) := by decide +kernel
theorem rt_50_19 : refT 50 19 = (-7) := by decide +kernel
theorem rt_50_20 : refT 50 20 = (-7) := by decide +kernel
theorem rt_50_21 : refT 50 21 = (-7) := by decide +kernel
theorem rt_50_22 : refT 50 22 = 57 := by decide +kernel
theorem rt_50_23 : refT 50 23 = 58 := by decide +kernel
theorem rt_50_24 : refT 50 24 = 59 := by decide +kernel
theorem rt_50_25 : refT 50 25 = 60 := by decide +kernel
theorem rt_50_26 : refT 50 26 = 61 := by decide +kernel
theorem rt_50_27 : refT 50 27 = 62 := by decide +kernel
theorem rt_50_28 : refT 50 28 = (-7) := by decide +kernel
theorem rt_50_29 : refT 50 29 = (-7) := by decide +kernel
theorem rt_50_30 : refT 50 30 = 63 := by decide +kernel
theorem rt_50_31 : refT 50 31 = 64 := by decide +kernel
theorem rt_50_32 : refT 50 32 = (-7) := by decide +kernel
theorem rt_50_33 : refT 50 33 = (-7) := by decide +kernel
theorem rt_50_34 : refT 50 34 = 65 := by decide +kernel
theorem rt_50_35 : refT 50 35 = 66 := by decide +kernel
theorem rt_50_36 : refT 50 36 = 67 := by decide +kernel
theorem rt_50_37 : refT 50 37 = (-7) := by decide +kernel
theorem rt_50_38 : refT 50 38 = 68 := by decide +kernel
theorem rt_50_39 : refT 50 39 = 69 := by decide +kernel
theorem rt_50_40 : refT 50 40 = 70 := by decide +kernel
theorem rt_50_41 : refT 50 41 = 71 := by decide +kernel
theorem rt_50_42 : refT 50 42 = 72 := by decide +kernel
theorem rt_50_43 : refT 50 43 = (-7) := by decide +kernel
theorem rt_50_44 : refT 50 44 = (-7) := by decide +kernel
theorem rt_50_45 : refT 50 45 = 73 := by decide +kernel
theorem rt_50_46 : refT 50 46 = 74 := by decide +kernel
theorem rt_50_47 : refT 50 47 = (-7) := by decide +kernel
theorem rt_50_48 : refT 50 48 = 75 := by decide +kernel
theorem rt_50_49 : refT 50 49 = 76 := by decide +kernel
theorem rt_50_50 : refT 50 50 = 77 := by decide +kernel
theorem rt_50_51 : refT 50 51 = 78 := by decide +kernel
theorem rt_50_52 : refT 50 52 = 79 := by decide +kernel
theorem rt_50_53 : refT 50 53 = 80 := by decide +kernel
theorem rt_50_54 : refT 50 54 = 81 := by decide +kernel
theorem rt_50_55 : refT 50 55 = 82 := by decide +kernel
theorem rt_50_56 : refT 50 56 = 83 := by decide +kernel
theorem rt_50_57 : refT 50 57 = 84 := by decide +kernel
theorem rt_50_58 : refT 50 58 = 85 := by decide +kernel
theorem rt_50_59 : refT 50 59 = 86 := by decide +kernel
theorem rt_50_60 : refT 50 60 = 87 := by decide +kernel
theorem rt_50_61 : refT 50 61 = 88 := by decide +kernel
theorem rt_50_62 : refT 50 62 = (-7) := by decide +kernel
theorem sk_0 : shK 0 = 9 := by decide +kernel
theorem sn_0 : shN 0 = 15 := by decide +kernel
theorem al_0 (E : PvEnv) : arlen E 0 = 15 := (arlen_nn E (by decide)).trans sn_0
theorem sk_1 : shK 1 = 7 := by decide +kernel
theorem sn_1 : shN 1 = 2 := by decide +kernel
theorem al_1 (E : PvEnv) : arlen E 1 = 2 := (arlen_nn E (by decide)).trans sn_1
theorem sk_2 : shK 2 = 11 := by decide +kernel
theorem sn_2 : shN 2 = 6 := by decide +kernel
theorem al_2 (E : PvEnv) : arlen E 2 = 6 := (arlen_nn E (by decide)).trans sn_2
theorem sk_3 : shK 3 = 11 := by decide +kernel
theorem sn_3 : shN 3 = 240 := by decide +kernel
theorem al_3 (E : PvEnv) : arlen E 3 = 240 := (arlen_nn E (by decide)).trans sn_3
theorem sk_4 : shK 4 = 7 := by decide +kernel
theorem sn_4 : shN 4 = 2 := by decide +kernel
theorem al_4 (E : PvEnv) : arlen E 4 = 2 := (arlen_nn E (by decide)).trans sn_4
theorem sk_5 : shK 5 = 11 := by decide +kernel
theorem sn_5 : shN 5 = 4 := by decide +kernel
theorem al_5 (E : PvEnv) : arlen E 5 = 4 := (arlen_nn E (by decide)).trans sn_5
theorem sk_6 : shK 6 = 11 := by decide +kernel
theorem sn_6 : shN 6 = 160 := by decide +kernel
theorem al_6 (E : PvEnv) : arlen E 6 = 160 := (arlen_nn E (by decide)).trans sn_6
theorem sk_7 : shK 7 = 4 := by decide +kernel
theorem sn_7 : shN 7 = 9 := by decide +kernel
theorem al_7 (E : PvEnv) : arlen E 7 = 9 := (arlen_nn E (by decide)).trans sn_7
theorem sk_8 : shK 8 = 11 := by decide +kernel
theorem sn_8 : shN 8 = 40 := by decide +kernel
theorem al_8 (E : PvEnv) : arlen E 8 = 40 := (arlen_nn E (by decide)).trans sn_8
theorem sk_9 : shK 9 = 4 := by decide +kernel
theorem sn_9 : shN 9 = 9 := by decide +kernel
theorem al_9 (E : PvEnv) : arlen E 9 = 9 := (arlen_nn E (by decide)).trans sn_9
theorem sk_10 : shK 10 = 11 := by decide +kernel
theorem sn_10 : shN 10 = 40 := by decide +kernel
theorem al_10 (E : PvEnv) : arlen E 10 = 40 := (arlen_nn E (by decide)).trans sn_10
theorem sk_11 : shK 11 = 8 := by decide +kernel
theorem sn_11 : shN 11 = 10 := by decide +kernel
theorem al_11 (E : PvEnv) : arlen E 11 = 10 := (arlen_nn E (by decide)).trans sn_11
theorem sk_12 : shK 12 = 11 := by decide +kernel
theorem sn_12 : shN 12 = 336 := by decide +kernel
theorem al_12 (E : PvEnv) : arlen E 12 = 336 := (arlen_nn E (by decide)).trans sn_12
theorem sk_13 : shK 13 = 11 := by decide +kernel
theorem sn_13 : shN 13 = 336 := by decide +kernel
theorem al_13 (E : PvEnv) : arlen E 13 = 336 := (arlen_nn E (by decide)).trans sn_13
theorem sk_14 : shK 14 = 11 := by decide +kernel
theorem sn_14 : shN 14 = 336 := by decide +kernel
theorem al_14 (E : PvEnv) : arlen E 14 = 336 := (arlen_nn E (by decide)).trans sn_14
theorem sk_15 : shK 15 = 11 := by decide +kernel
theorem sn_15 : shN 15 = 336 := by decide +kernel
theorem al_15 (E : PvEnv) : arlen E 15 = 336 := (arlen_nn E (by decide)).trans sn_15
theorem sk_16 : shK 16 = 11 := by decide +kernel
theorem sn_16 : shN 16 = 336 := by decide +kernel
theorem al_16 (E : PvEnv) : arlen E 16 = 336 := (arlen_nn E (by decide)).trans sn_16
theorem sk_17 : shK 17 = 11 := by decide +kernel
theorem sn_17 : shN 17 = 336 := by decide +kernel
theorem al_17 (E : PvEnv) : arlen E 17 = 336 := (arlen_nn E (by decide)).trans sn_17
theorem sk_18 : shK 18 = 11 := by decide +kernel
theorem sn_18 : shN 18 = 336 := by decide +kernel
theorem al_18 (E : PvEnv) : arlen E 18 = 336 := (arlen_nn E (by decide)).trans sn_18
theorem sk_19 : shK 19 = 11 := by decide +kernel
theorem sn_19 : shN 19 = 256 := by decide +kernel
theorem al_19 (E : PvEnv) : arlen E 19 = 256 := (arlen_nn E (by decide)).trans sn_19
theorem sk_20 : shK 20 = 5 := by decide +kernel
theorem sn_20 : shN 20 = 7 := by decide +kernel
theorem al_20 (E : PvEnv) : arlen E 20 = 7 := (arlen_nn E (by decide)).trans sn_20
theorem sk_21 : shK 21 = 11 := by decide +kernel
theorem sn_21 : shN 21 = 337 := by decide +kernel
theorem al_21 (E : PvEnv) : arlen E 21 = 337 := (arlen_nn E (by decide)).trans sn_21
theorem sk_22 : shK 22 = 11 := by decide +kernel
theorem sn_22 : shN 22 = 960 := by decide +kernel
theorem al_22 (E : PvEnv) : arlen E 22 = 960 := (arlen_nn E (by decide)).trans sn_22
theorem sk_23 : shK 23 = 11 := by decide +kernel
theorem sn_23 : shN 23 = 960 := by decide +kernel
theorem al_23 (E : PvEnv) : arlen E 23 = 960 := (arlen_nn E (by decide)).trans sn_23
theorem sk_24 : shK 24 = 11 := by decide +kernel
theorem sn_24 : shN 24 = 336 := by decide +kernel
theorem al_24 (E : PvEnv) : arlen E 24 = 336 := (arlen_nn E (by decide)).trans sn_24
theorem sk_25 : shK 25 = 11 := by decide +kernel
theorem sn_25 : shN 25 = 256 := by decide +kernel
theorem al_25 (E : PvEnv) : arlen E 25 = 256 := (arlen_nn E (by decide)).trans sn_25
theorem sk_26 : shK 26 = 1 := by decide +kernel
theorem sn_26 : shN 26 = 8 := by decide +kernel
theorem al_26 (E : PvEnv) : arlen E 26 = 8 := (arlen_nn E (by decide)).trans sn_26
theorem sk_27 : shK 27 = 11 := by decide +kernel
theorem sn_27 : shN 27 = 336 := by decide +kernel
theorem al_27 (E : PvEnv) : arlen E 27 = 336 := (arlen_nn E (by decide)).trans sn_27
theorem sk_28 : shK 28 = 11 := by decide +kernel
theorem sn_28 : shN 28 = 336 := by decide +kernel
theorem al_28 (E : PvEnv) : arlen E 28 = 336 := (arlen_nn E (by decide)).trans sn_28
theorem sk_29 : shK 29 = 11 := by decide +kernel
theorem sn_29 : shN 29 = 336 := by decide +kernel
theorem al_29 (E : PvEnv) : arlen E 29 = 336 := (arlen_nn E (by decide)).trans sn_29
theorem sk_30 : shK 30 = 0 := by decide +kernel
theorem sn_30 : shN 30 = 6 := by decide +kernel
theorem al_30 (E : PvEnv) : arlen E 30 = 6 := (arlen_nn E (by decide)).trans sn_30
theorem sk_31 : shK 31 = 11 := by decide +kernel
theorem sn_31 : shN 31 = 6 := by decide +kernel
theorem al_31 (E : PvEnv) : arlen E 31 = 6 := (arlen_nn E (by decide)).trans sn_31
theorem sk_32 : shK 32 = 11 := by decide +kernel
theorem sn_32 : shN 32 = 6 := by decide +kernel
theorem al_32 (E : PvEnv) : arlen E 32 = 6 := (arlen_nn E (by decide)).trans sn_32
theorem sk_33 : shK 33 = 11 := by decide +kernel
theorem sn_33 : shN 33 = 6 := by decide +kernel
theorem al_33 (E : PvEnv) : arlen E 33 = 6 := (arlen_nn E (by decide)).trans sn_33
theorem sk_34 : shK 34 = 11 := by decide +kernel
theorem sn_34 : shN 34 = 6 := by decide +kernel
theorem al_34 (E : PvEnv) : arlen E 34 = 6 := (arlen_nn E (by decide)).trans sn_34
theorem sk_35 : shK 35 = 11 := by decide +kernel
theorem sn_35 : shN 35 = 6 := by decide +kernel
theorem al_35 (E : PvEnv) : arlen E 35 = 6 := (arlen_nn E (by decide)).trans sn_35
theorem sk_36 : shK 36 = 11 := by decide +kernel
theorem sn_36 : shN 36 = 6 := by decide +kernel
theorem al_36 (E : PvEnv) : arlen E 36 = 6 := (arlen_nn E (by decide)).trans sn_36
theorem sk_37 : shK 37 = 3 := by decide +kernel
theorem sn_37 : shN 37 = 7 := by decide +kernel
theorem al_37 (E : PvEnv) : arlen E 37 = 7 := (arlen_nn E (by decide)).trans sn_37
theorem sk_38 : shK 38 = 11 := by decide +kernel
theorem sn_38 : shN 38 = 336 := by decide +kernel
theorem al_38 (E : PvEnv) : arlen E 38 = 336 := (arlen_nn E (by decide)).trans sn_38
theorem sk_39 : shK 39 = 11 := by decide +kernel
theorem sn_39 : shN 39 = 336 := by decide +kernel
theorem al_39 (E : PvEnv) : arlen E 39 = 336 := (arlen_nn E (by decide)).trans sn_39
theorem sk_40 : shK 40 = 11 := by decide +kernel
theorem sn_40 : shN 40 = 336 := by decide +kernel
theorem al_40 (E : PvEnv) : arlen E 40 = 336 := (arlen_nn E (by decide)).trans sn_40
theorem sk_41 : shK 41 = 3 := by decide +kernel
theorem sn_41 : shN 41 = 7 := by decide +kernel
theorem al_41 (E : PvEnv) : arlen E 41 = 7 := (arlen_nn E (by decide)).trans sn_41
theorem sk_42 : shK 42 = 11 := by decide +kernel
theorem sn_42 : shN 42 = 336 := by decide +kernel
theorem al_42 (E : PvEnv) : arlen E 42 = 336 := (arlen_nn E (by decide)).trans sn_42
theorem sk_43 : shK 43 = 11 := by decide +kernel
theorem sn_43 : shN 43 = 336 := by decide +kernel
theorem al_43 (E : PvEnv) : arlen E 43 = 336 := (arlen_nn E (by decide)).trans sn_43
theorem sk_44 : shK 44 = 11 := by decide +kernel
theorem sn_44 : shN 44 = 336 := by decide +kernel
theorem al_44 (E : PvEnv) : arlen E 44 = 336 := (arlen_nn E (by decide)).trans sn_44
theorem sk_45 : shK 45 = 6 := by decide +kernel
theorem sn_45 : shN 45 = 3 := by decide +kernel
theorem al_45 (E : PvEnv) : arlen E 45 = 3 := (arlen_nn E (by decide)).trans sn_45
theorem sk_46 : shK 46 = 12 := by decide +kernel
theorem sn_46 : shN 46 = 336 := by decide +kernel
theorem al_46 (E : PvEnv) : arlen E 46 = 336 := (arlen_nn E (by decide)).trans sn_46
theorem sk_47 : shK 47 = 12 := by decide +kernel
theorem sn_47 : shN 47 = 336 := by decide +kernel
theorem al_47 (E : PvEnv) : arlen E 47 = 336 := (arlen_nn E (by decide)).trans sn_47
theorem sk_48 : shK 48 = 2 := by decide +kernel
theorem sn_48 : shN 48 = 2 := by decide +kernel
theorem al_48 (E : PvEnv) : arlen E 48 = 2 := (arlen_nn E (by decide)).trans sn_48
theorem sk_49 : shK 49 = 11 := by decide +kernel
theorem sn_49 : shN 49 = 6 := by decide +kernel
theorem al_49 (E : PvEnv) : arlen E 49 = 6 := (arlen_nn E (by decide)).trans sn_49
theorem sk_50 : shK 50 = 10 := by decide +kernel
theorem sn_50 : shN 50 = 63 := by decide +kernel
theorem al_50 (E : PvEnv) : arlen E 50 = 63 := (arlen_nn E (by decide)).trans sn_50
theorem sk_51 : shK 51 = 11 := by decide +kernel
theorem sn_51 : shN 51 = 6 := by decide +kernel
theorem al_51 (E : PvEnv) : arlen E 51 = 6 := (arlen_nn E (by decide)).trans sn_51
theorem sk_52 : shK 52 = 11 := by decide +kernel
theorem sn_52 : shN 52 = 6 := by decide +kernel
theorem al_52 (E : PvEnv) : arlen E 52 = 6 := (arlen_nn E (by decide)).trans sn_52
theorem sk_53 : shK 53 = 11 := by decide +kernel
theorem sn_53 : shN 53 = 240 := by decide +kernel
theorem al_53 (E : PvEnv) : arlen E 53 = 240 := (arlen_nn E (by decide)).trans sn_53
theorem sk_54 : shK 54 = 11 := by decide +kernel
theorem sn_54 : shN 54 = 40 := by decide +kernel
theorem al_54 (E : PvEnv) : arlen E 54 = 40 := (arlen_nn E (by decide)).trans sn_54
theorem sk_55 : shK 55 = 11 := by decide +kernel
theorem sn_55 : shN 55 = 4 := by decide +kernel
theorem al_55 (E : PvEnv) : arlen E 55 = 4 := (arlen_nn E (by decide)).trans sn_55
theorem sk_56 : shK 56 = 11 := by decide +kernel
theorem sn_56 : shN 56 = 160 := by decide +kernel
theorem al_56 (E : PvEnv) : arlen E 56 = 160 := (arlen_nn E (by decide)).trans sn_56
theorem sk_57 : shK 57 = 13 := by decide +kernel
theorem sn_57 : shN 57 = 336 := by decide +kernel
theorem al_57 (E : PvEnv) : arlen E 57 = 336 := (arlen_nn E (by decide)).trans sn_57
theorem sk_58 : shK 58 = 11 := by decide +kernel
theorem sn_58 : shN 58 = 336 := by decide +kernel
theorem al_58 (E : PvEnv) : arlen E 58 = 336 := (arlen_nn E (by decide)).trans sn_58
theorem sk_59 : shK 59 = 11 := by decide +kernel
theorem sn_59 : shN 59 = 336 := by decide +kernel
theorem al_59 (E : PvEnv) : arlen E 59 = 336 := (arlen_nn E (by decide)).trans sn_59
theorem sk_60 : shK 60 = 11 := by decide +kernel
theorem sn_60 : shN 60 = 336 := by decide +kernel
theorem al_60 (E : PvEnv) : arlen E 60 = 336 := (arlen_nn E (by decide)).trans sn_60
theorem sk_61 : shK 61 = 11 := by decide +kernel
theorem sn_61 : shN 61 = 336 := by decide +kernel
theorem al_61 (E : PvEnv) : arlen E 61 = 336 := (arlen_nn E (by decide)).trans sn_61
theorem sk_62 : shK 62 = 11 := by decide +kernel
theorem sn_62 : shN 62 = 256 := by decide +kernel
theorem al_62 (E : PvEnv) : arlen E 62 = 256 := (arlen_nn E (by decide)).trans sn_62
theorem sk_63 : shK 63 = 11 := by decide +kernel
theorem sn_63 : shN 63 = 16 := by decide +kernel
theorem al_63 (E : PvEnv) : arlen E 63 = 16 := (arlen_nn E (by decide)).trans sn_63
theorem sk_64 : shK 64 = 11 := by decide +kernel
theorem sn_64 : shN 64 = 16 := by decide +kernel
theorem al_64 (E : PvEnv) : arlen E 64 = 16 := (arlen_nn E (by decide)).trans sn_64
theorem sk_65 : shK 65 = 11 := by decide +kernel
theorem sn_65 : shN 65 = 1024 := by decide +kernel
theorem al_65 (E : PvEnv) : arlen E 65 = 1024 := (arlen_nn E (by decide)).trans sn_65
theorem sk_66 : shK 66 = 11 := by decide +kernel
theorem sn_66 : shN 66 = 1024 := by decide +kernel
theorem al_66 (E : PvEnv) : arlen E 66 = 1024 := (arlen_nn E (by decide)).trans sn_66
theorem sk_67 : shK 67 = 11 := by decide +kernel
theorem sn_67 : shN 67 = 1024 := by decide +kernel
theorem al_67 (E : PvEnv) : arlen E 67 = 1024 := (arlen_nn E (by decide)).trans sn_67
theorem sk_68 : shK 68 = 11 := by decide +kernel
theorem sn_68 : shN 68 = 1024 := by decide +kernel
theorem al_68 (E : PvEnv) : arlen E 68 = 1024 := (arlen_nn E (by decide)).trans sn_68
theorem sk_69 : shK 69 = 11 := by decide +kernel
theorem sn_69 : shN 69 = 1024 := by decide +kernel
theorem al_69 (E : PvEnv) : arlen E 69 = 1024 := (arlen_nn E (by decide)).trans sn_69
theorem sk_70 : shK 70 = 11 := by decide +kernel
theorem sn_70 : shN 70 = 1024 := by decide +kernel
theorem al_70 (E : PvEnv) : arlen E 70 = 1024 := (arlen_nn E (by decide)).trans sn_70
theorem sk_71 : shK 71 = 11 := by decide +kernel
theorem sn_71 : shN 71 = 336 := by decide +kernel
theorem al_71 (E : PvEnv) : arlen E 71 = 336 := (arlen_nn E (by decide)).trans sn_71
theorem sk_72 : shK 72 = 11 := by decide +kernel
theorem sn_72 : shN 72 = 336 := by decide +kernel
theorem al_72 (E : PvEnv) : arlen E 72 = 336 := (arlen_nn E (by decide)).trans sn_72
theorem sk_73 : shK 73 = 13 := by decide +kernel
theorem sn_73 : shN 73 = 336 := by decide +kernel
theorem al_73 (E : PvEnv) : arlen E 73 = 336 := (arlen_nn E (by decide)).trans sn_73
theorem sk_74 : shK 74 = 11 := by decide +kernel
theorem sn_74 : shN 74 = 6 := by decide +kernel
theorem al_74 (E : PvEnv) : arlen E 74 = 6 := (arlen_nn E (by decide)).trans sn_74
theorem sk_75 : shK 75 = 11 := by decide +kernel
theorem sn_75 : shN 75 = 256 := by decide +kernel
theorem al_75 (E : PvEnv) : arlen E 75 = 256 := (arlen_nn E (by decide)).trans sn_75
theorem sk_76 : shK 76 = 11 := by decide +kernel
theorem sn_76 : shN 76 = 6 := by decide +kernel
theorem al_76 (E : PvEnv) : arlen E 76 = 6 := (arlen_nn E (by decide)).trans sn_76
theorem sk_77 : shK 77 = 11 := by decide +kernel
theorem sn_77 : shN 77 = 6 := by decide +kernel
theorem al_77 (E : PvEnv) : arlen E 77 = 6 := (arlen_nn E (by decide)).trans sn_77
theorem sk_78 : shK 78 = 11 := by decide +kernel
theorem sn_78 : shN 78 = 6 := by decide +kernel
theorem al_78 (E : PvEnv) : arlen E 78 = 6 := (arlen_nn E (by decide)).trans sn_78
theorem sk_79 : shK 79 = 11 := by decide +kernel
theorem sn_79 : shN 79 = 6 := by decide +kernel
theorem al_79 (E : PvEnv) : arlen E 79 = 6 := (arlen_nn E (by decide)).trans sn_79
theorem sk_80 : shK 80 = 13 := by decide +kernel
theorem sn_80 : shN 80 = 36 := by decide +kernel
theorem al_80 (E : PvEnv) : arlen E 80 = 36 := (arlen_nn E (by decide)).trans sn_80
theorem sk_81 : shK 81 = 13 := by decide +kernel
theorem sn_81 : shN 81 = 2 := by decide +kernel
theorem al_81 (E : PvEnv) : arlen E 81 = 2 := (arlen_nn E (by decide)).trans sn_81
theorem sk_82 : shK 82 = 13 := by decide +kernel
theorem sn_82 : shN 82 = 672 := by decide +kernel
theorem al_82 (E : PvEnv) : arlen E 82 = 672 := (arlen_nn E (by decide)).trans sn_82
theorem sk_83 : shK 83 = 11 := by decide +kernel
theorem sn_83 : shN 83 = 672 := by decide +kernel
theorem al_83 (E : PvEnv) : arlen E 83 = 672 := (arlen_nn E (by decide)).trans sn_83
theorem sk_84 : shK 84 = 11 := by decide +kernel
theorem sn_84 : shN 84 = 672 := by decide +kernel
theorem al_84 (E : PvEnv) : arlen E 84 = 672 := (arlen_nn E (by decide)).trans sn_84
theorem sk_85 : shK 85 = 11 := by decide +kernel
theorem sn_85 : shN 85 = 672 := by decide +kernel
theorem al_85 (E : PvEnv) : arlen E 85 = 672 := (arlen_nn E (by decide)).trans sn_85
theorem sk_86 : shK 86 = 11 := by decide +kernel
theorem sn_86 : shN 86 = 2 := by decide +kernel
theorem al_86 (E : PvEnv) : arlen E 86 = 2 := (arlen_nn E (by decide)).trans sn_86
theorem sk_87 : shK 87 = 12 := by decide +kernel
theorem sn_87 : shN 87 = 336 := by decide +kernel
theorem al_87 (E : PvEnv) : arlen E 87 = 336 := (arlen_nn E (by decide)).trans sn_87
theorem sk_88 : shK 88 = 12 := by decide +kernel
theorem sn_88 : shN 88 = 336 := by decide +kernel
theorem al_88 (E : PvEnv) : arlen E 88 = 336 := (arlen_nn E (by decide)).trans sn_88
theorem fl_0_9 : fldT 0 9 = some (0, 0, 0, 2, 1) := by decide +kernel
theorem fl_0_15 : fldT 0 15 = some (0, 0, 1, 2, 1) := by decide +kernel
theorem fl_0_18 : fldT 0 18 = some (0, 0, 2, 2, 1) := by decide +kernel
theorem fl_0_21 : fldT 0 21 = some (0, 0, 3, 2, 1) := by decide +kernel
theorem fl_0_24 : fldT 0 24 = some (0, 0, 4, 2, 1) := by decide +kernel
theorem fl_0_27 : fldT 0 27 = some (0, 0, 5, 2, 1) := by decide +kernel
theorem fl_0_46 : fldT 0 46 = some (1, 8, 2, 2, 1) := by decide +kernel
theorem fl_0_49 : fldT 0 49 = some (1, 8, 1, 2, 1) := by decide +kernel
theorem fl_0_62 : fldT 0 62 = some (1, 8, 0, 2, 1) := by decide +kernel
theorem fl_0_73 : fldT 0 73 = some (1, 5, 6, 0, 0) := by decide +kernel
theorem fl_1_9 : fldT 1 9 = some (0, 1, 0, 2, 1) := by decide +kernel
theorem fl_1_15 : fldT 1 15 = some (0, 1, 1, 2, 1) := by decide +kernel
theorem fl_1_18 : fldT 1 18 = some (0, 1, 2, 2, 1) := by decide +kernel
theorem fl_1_21 : fldT 1 21 = some (0, 1, 5, 0, 0) := by decide +kernel
theorem fl_1_25 : fldT 1 25 = some (0, 1, 3, 0, 0) := by decide +kernel
theorem fl_1_41 : fldT 1 41 = some (1, 8, 0, 2, 1) := by decide +kernel
theorem fl_1_51 : fldT 1 51 = some (1, 8, 1, 2, 1) := by decide +kernel
theorem fl_1_54 : fldT 1 54 = some (1, 8, 6, 2, 1) := by decide +kernel
theorem fl_1_57 : fldT 1 57 = some (1, 5, 0, 2, 1) := by decide +kernel
theorem fl_1_62 : fldT 1 62 = some (1, 5, 1, 2, 1) := by decide +kernel
theorem fl_1_65 : fldT 1 65 = some (1, 4, 0, 0, 0) := by decide +kernel
theorem fl_1_70 : fldT 1 70 = some (1, 4, 1, 0, 0) := by decide +kernel
theorem fl_1_73 : fldT 1 73 = some (1, 5, 2, 2, 1) := by decide +kernel
theorem fl_1_80 : fldT 1 80 = some (1, 4, 2, 0, 0) := by decide +kernel
theorem fl_1_83 : fldT 1 83 = some (1, 5, 3, 2, 1) := by decide +kernel
theorem fl_1_86 : fldT 1 86 = some (0, 1, 4, 0, 0) := by decide +kernel
theorem fl_1_89 : fldT 1 89 = some (0, 1, 6, 1, 0) := by decide +kernel
theorem fl_1_97 : fldT 1 97 = some (0, 1, 7, 1, 0) := by decide +kernel
theorem fl_1_100 : fldT 1 100 = some (1, 8, 3, 2, 1) := by decide +kernel
theorem fl_2_7 : fldT 2 7 = some (0, 2, 1, 1, 0) := by decide +kernel
theorem fl_2_13 : fldT 2 13 = some (0, 2, 0, 1, 0) := by decide +kernel
theorem fl_3_9 : fldT 3 9 = some (0, 3, 0, 2, 1) := by decide +kernel
theorem fl_3_15 : fldT 3 15 = some (0, 3, 1, 2, 1) := by decide +kernel
theorem fl_3_18 : fldT 3 18 = some (0, 3, 2, 2, 1) := by decide +kernel
theorem fl_3_21 : fldT 3 21 = some (1, 8, 0, 2, 1) := by decide +kernel
theorem fl_3_30 : fldT 3 30 = some (1, 8, 1, 2, 1) := by decide +kernel
theorem fl_3_31 : fldT 3 31 = some (1, 8, 2, 2, 1) := by decide +kernel
theorem fl_3_32 : fldT 3 32 = some (1, 8, 8, 0, 0) := by decide +kernel
theorem fl_3_36 : fldT 3 36 = some (0, 3, 3, 0, 0) := by decide +kernel
theorem fl_3_41 : fldT 3 41 = some (0, 3, 4, 1, 0) := by decide +kernel
theorem fl_3_47 : fldT 3 47 = some (0, 3, 5, 1, 0) := by decide +kernel
theorem fl_3_49 : fldT 3 49 = some (0, 3, 6, 3, 0) := by decide +kernel
theorem fl_4_9 : fldT 4 9 = some (0, 4, 5, 2, 1) := by decide +kernel
theorem fl_4_18 : fldT 4 18 = some (0, 4, 0, 0, 0) := by decide +kernel
theorem fl_4_22 : fldT 4 22 = some (0, 4, 1, 0, 0) := by decide +kernel
theorem fl_4_25 : fldT 4 25 = some (0, 4, 2, 0, 0) := by decide +kernel
theorem fl_4_28 : fldT 4 28 = some (0, 4, 3, 0, 0) := by decide +kernel
theorem fl_4_31 : fldT 4 31 = some (0, 4, 4, 0, 0) := by decide +kernel
theorem fl_4_38 : fldT 4 38 = some (0, 4, 7, 0, 0) := by decide +kernel
theorem fl_4_41 : fldT 4 41 = some (0, 4, 6, 0, 0) := by decide +kernel
theorem fl_4_72 : fldT 4 72 = some (0, 4, 8, 0, 0) := by decide +kernel
theorem fl_5_9 : fldT 5 9 = some (0, 5, 0, 2, 1) := by decide +kernel
theorem fl_5_15 : fldT 5 15 = some (0, 5, 1, 2, 1) := by decide +kernel
theorem fl_5_18 : fldT 5 18 = some (0, 5, 2, 2, 1) := by decide +kernel
theorem fl_5_21 : fldT 5 21 = some (0, 5, 3, 2, 1) := by decide +kernel
theorem fl_5_24 : fldT 5 24 = some (0, 5, 4, 2, 1) := by decide +kernel
theorem fl_5_27 : fldT 5 27 = some (1, 8, 9, 3, 0) := by decide +kernel
theorem fl_5_33 : fldT 5 33 = some (0, 5, 5, 0, 0) := by decide +kernel
theorem fl_5_49 : fldT 5 49 = some (1, 8, 4, 2, 1) := by decide +kernel
theorem fl_5_52 : fldT 5 52 = some (1, 8, 5, 2, 1) := by decide +kernel
theorem fl_5_55 : fldT 5 55 = some (1, 8, 6, 2, 1) := by decide +kernel
theorem fl_5_66 : fldT 5 66 = some (0, 5, 6, 0, 0) := by decide +kernel
theorem fl_6_9 : fldT 6 9 = some (0, 6, 0, 2, 0) := by decide +kernel
theorem fl_6_15 : fldT 6 15 = some (0, 6, 1, 2, 0) := by decide +kernel
theorem fl_6_18 : fldT 6 18 = some (0, 6, 2, 1, 0) := by decide +kernel
theorem fl_6_34 : fldT 6 34 = some (1, 4, 1, 0, 0) := by decide +kernel
theorem fl_6_43 : fldT 6 43 = some (1, 8, 0, 2, 1) := by decide +kernel
theorem fl_6_47 : fldT 6 47 = some (1, 8, 6, 2, 1) := by decide +kernel
theorem fl_6_50 : fldT 6 50 = some (1, 4, 0, 0, 0) := by decide +kernel
theorem fl_6_55 : fldT 6 55 = some (1, 5, 0, 2, 1) := by decide +kernel
theorem fl_6_60 : fldT 6 60 = some (1, 5, 1, 2, 1) := by decide +kernel
theorem fl_6_63 : fldT 6 63 = some (1, 5, 2, 2, 1) := by decide +kernel
theorem fl_6_66 : fldT 6 66 = some (1, 4, 2, 0, 0) := by decide +kernel
theorem fl_6_69 : fldT 6 69 = some (1, 5, 3, 2, 1) := by decide +kernel
theorem fl_7_9 : fldT 7 9 = some (0, 7, 0, 2, 1) := by decide +kernel
theorem fl_7_15 : fldT 7 15 = some (0, 7, 1, 2, 1) := by decide +kernel
theorem fl_8_9 : fldT 8 9 = some (0, 8, 0, 2, 1) := by decide +kernel
theorem fl_8_15 : fldT 8 15 = some (0, 8, 1, 2, 1) := by decide +kernel
theorem fl_8_18 : fldT 8 18 = some (0, 8, 2, 2, 1) := by decide +kernel
theorem fl_8_21 : fldT 8 21 = some (0, 8, 3, 2, 1) := by decide +kernel
theorem fl_8_24 : fldT 8 24 = some (0, 8, 4, 2, 1) := by decide +kernel
theorem fl_8_27 : fldT 8 27 = some (0, 8, 5, 2, 1) := by decide +kernel
theorem fl_8_30 : fldT 8 30 = some (0, 8, 6, 2, 1) := by decide +kernel
theorem fl_8_33 : fldT 8 33 = some (0, 8, 7, 2, 1) := by decide +kernel
theorem fl_8_54 : fldT 8 54 = some (0, 8, 9, 3, 0) := by decide +kernel
theorem fl_8_69 : fldT 8 69 = some (0, 8, 8, 0, 0) := by decide +kernel
theorem fl_9_14 : fldT 9 14 = some (0, 9, 0, 2, 1) := by decide +kernel
theorem fl_9_18 : fldT 9 18 = some (0, 9, 1, 2, 1) := by decide +kernel
theorem fl_9_24 : fldT 9 24 = some (0, 9, 2, 2, 1) := by decide +kernel
theorem fl_9_28 : fldT 9 28 = some (0, 9, 3, 2, 1) := by decide +kernel
theorem fl_9_34 : fldT 9 34 = some (0, 9, 4, 2, 1) := by decide +kernel
theorem fl_9_41 : fldT 9 41 = some (0, 9, 5, 2, 1) := by decide +kernel
theorem fl_9_48 : fldT 9 48 = some (0, 9, 6, 2, 1) := by decide +kernel
theorem fl_9_55 : fldT 9 55 = some (0, 9, 7, 2, 1) := by decide +kernel
theorem fl_9_62 : fldT 9 62 = some (0, 9, 8, 2, 1) := by decide +kernel
theorem fl_9_66 : fldT 9 66 = some (0, 9, 9, 2, 1) := by decide +kernel
theorem fl_9_72 : fldT 9 72 = some (0, 9, 10, 2, 1) := by decide +kernel
theorem fl_9_79 : fldT 9 79 = some (0, 9, 11, 2, 1) := by decide +kernel
theorem fl_9_83 : fldT 9 83 = some (0, 9, 12, 2, 1) := by decide +kernel
theorem fl_9_110 : fldT 9 110 = some (0, 9, 14, 0, 0) := by decide +kernel
theorem fl_9_143 : fldT 9 143 = some (1, 8, 1, 2, 1) := by decide +kernel
theorem fl_9_149 : fldT 9 149 = some (1, 8, 0, 2, 1) := by decide +kernel
theorem fl_9_202 : fldT 9 202 = some (1, 8, 8, 0, 0) := by decide +kernel
theorem fl_9_205 : fldT 9 205 = some (1, 4, 3, 0, 0) := by decide +kernel
theorem fl_9_211 : fldT 9 211 = some (1, 4, 4, 0, 0) := by decide +kernel
theorem fl_9_225 : fldT 9 225 = some (1, 1, 6, 1, 0) := by decide +kernel
theorem fl_9_229 : fldT 9 229 = some (1, 1, 7, 1, 0) := by decide +kernel
theorem fl_9_239 : fldT 9 239 = some (1, 0, 0, 2, 1) := by decide +kernel
theorem fl_9_243 : fldT 9 243 = some (1, 8, 2, 2, 1) := by decide +kernel
theorem fl_9_259 : fldT 9 259 = some (1, 5, 6, 0, 0) := by decide +kernel
theorem fl_9_275 : fldT 9 275 = some (1, 0, 1, 2, 1) := by decide +kernel
theorem fl_9_278 : fldT 9 278 = some (1, 0, 2, 2, 1) := by decide +kernel
theorem fl_9_294 : fldT 9 294 = some (1, 3, 6, 3, 0) := by decide +kernel
theorem fl_9_343 : fldT 9 343 = some (1, 6, 0, 2, 0) := by decide +kernel
theorem fl_9_347 : fldT 9 347 = some (1, 6, 2, 1, 0) := by decide +kernel
theorem fl_9_353 : fldT 9 353 = some (1, 4, 2, 0, 0) := by decide +kernel
theorem fl_9_359 : fldT 9 359 = some (1, 2, 0, 1, 0) := by decide +kernel
theorem fl_9_362 : fldT 9 362 = some (1, 2, 1, 1, 0) := by decide +kernel
theorem fl_9_374 : fldT 9 374 = some (0, 9, 13, 0, 0) := by decide +kernel
theorem fl_10_7 : fldT 10 7 = some (0, 10, 1, 2, 1) := by decide +kernel
theorem fl_10_13 : fldT 10 13 = some (0, 10, 4, 1, 0) := by decide +kernel
theorem fl_10_17 : fldT 10 17 = some (0, 10, 5, 2, 1) := by decide +kernel
theorem fl_10_20 : fldT 10 20 = some (0, 10, 6, 2, 1) := by decide +kernel
theorem fl_10_23 : fldT 10 23 = some (0, 10, 7, 2, 1) := by decide +kernel
theorem fl_10_26 : fldT 10 26 = some (0, 10, 8, 2, 1) := by decide +kernel
theorem fl_10_29 : fldT 10 29 = some (0, 10, 9, 2, 1) := by decide +kernel
theorem fl_10_32 : fldT 10 32 = some (0, 10, 11, 0, 0) := by decide +kernel
theorem fl_10_36 : fldT 10 36 = some (0, 10, 13, 0, 0) := by decide +kernel
theorem fl_10_39 : fldT 10 39 = some (0, 10, 14, 0, 0) := by decide +kernel
theorem fl_10_42 : fldT 10 42 = some (0, 10, 22, 2, 1) := by decide +kernel
theorem fl_10_46 : fldT 10 46 = some (0, 10, 23, 2, 1) := by decide +kernel
theorem fl_10_49 : fldT 10 49 = some (0, 10, 24, 2, 1) := by decide +kernel
theorem fl_10_52 : fldT 10 52 = some (0, 10, 25, 2, 1) := by decide +kernel
theorem fl_10_55 : fldT 10 55 = some (0, 10, 26, 2, 1) := by decide +kernel
theorem fl_10_58 : fldT 10 58 = some (0, 10, 27, 2, 1) := by decide +kernel
theorem fl_10_61 : fldT 10 61 = some (0, 10, 30, 2, 1) := by decide +kernel
theorem fl_10_64 : fldT 10 64 = some (0, 10, 31, 2, 1) := by decide +kernel
theorem fl_10_67 : fldT 10 67 = some (0, 10, 34, 2, 1) := by decide +kernel
theorem fl_10_70 : fldT 10 70 = some (0, 10, 35, 2, 1) := by decide +kernel
theorem fl_10_73 : fldT 10 73 = some (0, 10, 36, 2, 1) := by decide +kernel
theorem fl_10_76 : fldT 10 76 = some (0, 10, 38, 2, 1) := by decide +kernel
theorem fl_10_79 : fldT 10 79 = some (0, 10, 39, 2, 1) := by decide +kernel
theorem fl_10_82 : fldT 10 82 = some (0, 10, 40, 2, 1) := by decide +kernel
theorem fl_10_85 : fldT 10 85 = some (0, 10, 41, 2, 1) := by decide +kernel
theorem fl_10_88 : fldT 10 88 = some (0, 10, 42, 2, 1) := by decide +kernel
theorem fl_10_91 : fldT 10 91 = some (0, 10, 45, 2, 1) := by decide +kernel
theorem fl_10_94 : fldT 10 94 = some (0, 10, 46, 2, 1) := by decide +kernel
theorem fl_10_97 : fldT 10 97 = some (0, 10, 48, 2, 1) := by decide +kernel
theorem fl_10_100 : fldT 10 100 = some (0, 10, 49, 2, 1) := by decide +kernel
theorem fl_10_103 : fldT 10 103 = some (0, 10, 50, 2, 1) := by decide +kernel
theorem fl_10_106 : fldT 10 106 = some (0, 10, 51, 2, 1) := by decide +kernel
theorem fl_10_109 : fldT 10 109 = some (0, 10, 52, 2, 1) := by decide +kernel
theorem fl_10_112 : fldT 10 112 = some (0, 10, 53, 2, 1) := by decide +kernel
theorem fl_10_115 : fldT 10 115 = some (0, 10, 54, 2, 1) := by decide +kernel
theorem fl_10_118 : fldT 10 118 = some (0, 10, 55, 2, 1) := by decide +kernel
theorem fl_10_121 : fldT 10 121 = some (0, 10, 56, 2, 1) := by decide +kernel
theorem fl_10_124 : fldT 10 124 = some (0, 10, 57, 2, 1) := by decide +kernel
theorem fl_10_127 : fldT 10 127 = some (0, 10, 58, 2, 1) := by decide +kernel
theorem fl_10_130 : fldT 10 130 = some (0, 10, 59, 2, 1) := by decide +kernel
theorem fl_10_133 : fldT 10 133 = some (0, 10, 60, 2, 1) := by decide +kernel
theorem fl_10_137 : fldT 10 137 = some (0, 10, 61, 2, 1) := by decide +kernel
theorem fl_10_144 : fldT 10 144 = some (0, 10, 0, 0, 0) := by decide +kernel
theorem fl_10_147 : fldT 10 147 = some (0, 10, 2, 0, 0) := by decide +kernel
theorem fl_10_150 : fldT 10 150 = some (0, 10, 3, 1, 0) := by decide +kernel
theorem fl_10_178 : fldT 10 178 = some (0, 10, 20, 0, 0) := by decide +kernel
theorem fl_10_181 : fldT 10 181 = some (0, 10, 21, 0, 0) := by decide +kernel
theorem fl_10_191 : fldT 10 191 = some (0, 10, 15, 0, 0) := by decide +kernel
theorem fl_10_194 : fldT 10 194 = some (0, 10, 16, 0, 0) := by decide +kernel
theorem fl_10_197 : fldT 10 197 = some (0, 10, 17, 0, 0) := by decide +kernel
theorem fl_10_200 : fldT 10 200 = some (0, 10, 18, 0, 0) := by decide +kernel
theorem fl_10_203 : fldT 10 203 = some (0, 10, 19, 0, 0) := by decide +kernel
theorem fl_10_212 : fldT 10 212 = some (0, 10, 10, 0, 0) := by decide +kernel
theorem fl_10_215 : fldT 10 215 = some (0, 10, 12, 0, 0) := by decide +kernel
theorem fl_10_260 : fldT 10 260 = some (0, 10, 28, 0, 0) := by decide +kernel
theorem fl_10_263 : fldT 10 263 = some (0, 10, 32, 0, 0) := by decide +kernel
theorem fl_10_266 : fldT 10 266 = some (0, 10, 29, 0, 0) := by decide +kernel
theorem fl_10_275 : fldT 10 275 = some (0, 10, 37, 0, 0) := by decide +kernel
theorem fl_10_284 : fldT 10 284 = some (0, 10, 33, 0, 0) := by decide +kernel
theorem fl_10_287 : fldT 10 287 = some (0, 10, 44, 1, 0) := by decide +kernel
theorem fl_10_290 : fldT 10 290 = some (0, 10, 43, 1, 0) := by decide +kernel
theorem fl_10_315 : fldT 10 315 = some (0, 10, 47, 0, 0) := by decide +kernel
theorem fl_10_373 : fldT 10 373 = some (0, 10, 62, 1, 0) := by decide +kernel
theorem cl_0_30 : calT 0 30 = some (1, mX9_isMachine) := rfl
theorem cl_0_34 : calT 0 34 = some (0, mX0_isIn) := rfl
theorem cl_0_38 : calT 0 38 = some (2, mX0_isSpare) := rfl
theorem cl_0_41 : calT 0 41 = some (2, mX8_isThere) := rfl
theorem cl_0_52 : calT 0 52 = some (9, mX9_init) := rfl
theorem cl_0_58 : calT 0 58 = some (2, mX0_workFor) := rfl
theorem cl_0_63 : calT 0 63 = some (2, mX0_slowness) := rfl
theorem cl_0_67 : calT 0 67 = some (2, mX8_giverAt) := rfl
theorem cl_0_70 : calT 0 70 = some (2, mX0_meet) := rfl
theorem cl_0_79 : calT 0 79 = some (2, mX8_cellsOfKind) := rfl
theorem cl_0_82 : calT 0 82 = some (2, mX0_leastLimit) := rfl
theorem cl_0_85 : calT 0 85 = some (2, mX0_takeUpTo) := rfl
theorem cl_0_89 : calT 0 89 = some (2, mX5_cellAt) := rfl
theorem cl_0_92 : calT 0 92 = some (1, mX9_isName) := rfl
theorem cl_0_95 : calT 0 95 = some (2, mX0_lookAround) := rfl
theorem cl_0_99 : calT 0 99 = some (2, mX0_workOf) := rfl
theorem cl_0_103 : calT 0 103 = some (8, mX9_init) := rfl
theorem cl_0_109 : calT 0 109 = some (2, mX0_workTick) := rfl
theorem cl_1_28 : calT 1 28 = some (2, mX8_isFlowing) := rfl
theorem cl_1_34 : calT 1 34 = some (2, mX1_sendFrom) := rfl
theorem cl_1_38 : calT 1 38 = some (2, mX8_isThere) := rfl
theorem cl_1_44 : calT 1 44 = some (2, mX1_amountBehind) := rfl
theorem cl_1_48 : calT 1 48 = some (1, mX9_isAmount) := rfl
theorem cl_1_76 : calT 1 76 = some (1, mX9_flowOf) := rfl
theorem cl_1_93 : calT 1 93 = some (2, mX1_settleCell) := rfl
theorem cl_1_103 : calT 1 103 = some (2, mX8_sidesBetween) := rfl
theorem cl_3_24 : calT 3 24 = some (8, mX9_init) := rfl
theorem cl_3_37 : calT 3 37 = some (2, mX8_sumOfAmounts) := rfl
theorem cl_3_44 : calT 3 44 = some (2, mX8_sumByNames) := rfl
theorem cl_3_53 : calT 3 53 = some (2, mX8_become) := rfl
theorem cl_3_57 : calT 3 57 = some (3, mX8_paintAll) := rfl
theorem cl_3_60 : calT 3 60 = some (2, mX8_isThere) := rfl
theorem cl_4_15 : calT 4 15 = some (2, mX4_clear) := rfl
theorem cl_4_34 : calT 4 34 = some (2, mX4_copySigns) := rfl
theorem cl_4_44 : calT 4 44 = some (2, mX4_readItem) := rfl
theorem cl_4_48 : calT 4 48 = some (2, mX7_sizeOf) := rfl
theorem cl_4_54 : calT 4 54 = some (2, mX7_get) := rfl
theorem cl_4_58 : calT 4 58 = some (2, mX4_sign) := rfl
theorem cl_4_68 : calT 4 68 = some (2, mX4_readNumber) := rfl
theorem cl_5_37 : calT 5 37 = some (2, mX8_isThere) := rfl
theorem cl_5_41 : calT 5 41 = some (2, mX5_linkAll) := rfl
theorem cl_5_45 : calT 5 45 = some (2, mX5_lineUp) := rfl
theorem cl_5_58 : calT 5 58 = some (2, mX5_link) := rfl
theorem cl_5_62 : calT 5 62 = some (2, mX8_ownerAt) := rfl
theorem cl_5_69 : calT 5 69 = some (0, mX5_evenBits) := rfl
theorem cl_5_73 : calT 5 73 = some (1, mX9_isName) := rfl
theorem cl_5_76 : calT 5 76 = some (2, mX8_isFlowing) := rfl
theorem cl_6_22 : calT 6 22 = some (2, mX8_isThere) := rfl
theorem cl_6_28 : calT 6 28 = some (2, mX6_stepBack) := rfl
theorem cl_6_40 : calT 6 40 = some (2, mX8_isFlowing) := rfl
theorem cl_7_18 : calT 7 18 = some (2, mX7_isNumber) := rfl
theorem cl_7_22 : calT 7 22 = some (2, mX7_isThere) := rfl
theorem cl_7_25 : calT 7 25 = some (2, mX7_hasPlaces) := rfl
theorem cl_7_29 : calT 7 29 = some (8, mX9_init) := rfl
theorem cl_7_37 : calT 7 37 = some (2, mX7_get) := rfl
theorem cl_8_43 : calT 8 43 = some (1, mX9_parentOf) := rfl
theorem cl_8_47 : calT 8 47 = some (2, mX8_isThere) := rfl
theorem cl_8_51 : calT 8 51 = some (2, mX8_paint) := rfl
theorem cl_8_58 : calT 8 58 = some (1, mX9_isOnWorld) := rfl
theorem cl_8_62 : calT 8 62 = some (1, mX9_isName) := rfl
theorem cl_8_65 : calT 8 65 = some (2, mX8_ownerAt) := rfl
theorem cl_8_73 : calT 8 73 = some (2, mX8_canPart) := rfl
theorem cl_8_76 : calT 8 76 = some (1, mX9_firstChildOf) := rfl
theorem cl_8_79 : calT 8 79 = some (2, mX8_hasFour) := rfl
theorem cl_8_82 : calT 8 82 = some (2, mX8_sumOfFour) := rfl
theorem cl_8_85 : calT 8 85 = some (2, mX8_cutInFour) := rfl
theorem cl_8_88 : calT 8 88 = some (2, mX8_hasFourFine) := rfl
theorem cl_8_91 : calT 8 91 = some (2, mX8_makeOneOfFour) := rfl
theorem cl_8_94 : calT 8 94 = some (0, mX8_overlap) := rfl
theorem cl_8_98 : calT 8 98 = some (9, mX9_init) := rfl
theorem cl_8_103 : calT 8 103 = some (10, mX9_init) := rfl
theorem cl_9_87 : calT 9 87 = some (2, mX7_isNumber) := rfl
theorem cl_9_91 : calT 9 91 = some (2, mX9_refuse) := rfl
theorem cl_9_95 : calT 9 95 = some (2, mX7_make) := rfl
theorem cl_9_99 : calT 9 99 = some (2, mX7_isThere) := rfl
theorem cl_9_102 : calT 9 102 = some (2, mX7_hasPlaces) := rfl
theorem cl_9_106 : calT 9 106 = some (2, mX7_swap) := rfl
theorem cl_9_114 : calT 9 114 = some (2, mX7_remove) := rfl
theorem cl_9_117 : calT 9 117 = some (2, mX7_bring) := rfl
theorem cl_9_121 : calT 9 121 = some (2, mX7_sizeOf) := rfl
theorem cl_9_124 : calT 9 124 = some (2, mX7_get) := rfl
theorem cl_9_128 : calT 9 128 = some (2, mX4_read) := rfl
theorem cl_9_132 : calT 9 132 = some (2, mX4_take) := rfl
theorem cl_9_136 : calT 9 136 = some (0, mX9_isName) := rfl
theorem cl_9_139 : calT 9 139 = some (0, mX9_isAmount) := rfl
theorem cl_9_142 : calT 9 142 = some (2, mX8_isThere) := rfl
theorem cl_9_146 : calT 9 146 = some (2, mX8_property) := rfl
theorem cl_9_152 : calT 9 152 = some (0, mX9_parentOf) := rfl
theorem cl_9_155 : calT 9 155 = some (2, mX8_markOf) := rfl
theorem cl_9_158 : calT 9 158 = some (0, mX9_isOnWorld) := rfl
theorem cl_9_162 : calT 9 162 = some (2, mX8_ownerAt) := rfl
theorem cl_9_165 : calT 9 165 = some (2, mX8_canPart) := rfl
theorem cl_9_168 : calT 9 168 = some (2, mX8_cutInFour) := rfl
theorem cl_9_171 : calT 9 171 = some (0, mX9_firstChildOf) := rfl
theorem cl_9_174 : calT 9 174 = some (2, mX8_hasFour) := rfl
theorem cl_9_177 : calT 9 177 = some (2, mX8_hasFourFine) := rfl
theorem cl_9_180 : calT 9 180 = some (2, mX8_sumOfFour) := rfl
theorem cl_9_184 : calT 9 184 = some (2, mX8_makeOneOfFour) := rfl
theorem cl_9_187 : calT 9 187 = some (2, mX9_turn) := rfl
theorem cl_9_190 : calT 9 190 = some (2, mX5_refresh) := rfl
theorem cl_9_194 : calT 9 194 = some (2, mX1_reckon) := rfl
theorem cl_9_198 : calT 9 198 = some (2, mX1_settle) := rfl
theorem cl_9_208 : calT 9 208 = some (2, mX8_partAbove) := rfl
theorem cl_9_214 : calT 9 214 = some (2, mX8_joinBelow) := rfl
theorem cl_9_217 : calT 9 217 = some (2, mX1_between) := rfl
theorem cl_9_221 : calT 9 221 = some (2, mX8_sumOfAmounts) := rfl
theorem cl_9_232 : calT 9 232 = some (0, mX9_isMachine) := rfl
theorem cl_9_235 : calT 9 235 = some (2, mX0_cellsOf) := rfl
theorem cl_9_240 : calT 9 240 = some (2, mX0_isSpare) := rfl
theorem cl_9_246 : calT 9 246 = some (2, mX0_workOf) := rfl
theorem cl_9_249 : calT 9 249 = some (2, mX0_greatestOf) := rfl
theorem cl_9_252 : calT 9 252 = some (2, mX0_sparesBelow) := rfl
theorem cl_9_255 : calT 9 255 = some (2, mX0_lookAround) := rfl
theorem cl_9_262 : calT 9 262 = some (2, mX5_cellAt) := rfl
theorem cl_9_265 : calT 9 265 = some (2, mX0_hasSpareIn) := rfl
theorem cl_9_268 : calT 9 268 = some (2, mX0_shareOut) := rfl
theorem cl_9_272 : calT 9 272 = some (2, mX0_workThrough) := rfl
theorem cl_9_281 : calT 9 281 = some (0, mX9_isSlot) := rfl
theorem cl_9_284 : calT 9 284 = some (2, mX9_keptIn) := rfl
theorem cl_9_288 : calT 9 288 = some (2, mX3_take) := rfl
theorem cl_9_290 : calT 9 290 = some (2, mX8_cellsThere) := rfl
theorem cl_9_298 : calT 9 298 = some (2, mX3_bringBack) := rfl
theorem cl_9_301 : calT 9 301 = some (2, mX3_hasSameCells) := rfl
theorem cl_9_305 : calT 9 305 = some (2, mX3_othersIn) := rfl
theorem cl_9_308 : calT 9 308 = some (2, mX3_moreIn) := rfl
theorem cl_9_311 : calT 9 311 = some (2, mX3_flippedIn) := rfl
theorem cl_9_314 : calT 9 314 = some (2, mX0_firstSpare) := rfl
theorem cl_9_317 : calT 9 317 = some (2, mX8_handOver) := rfl
theorem cl_9_321 : calT 9 321 = some (0, mX9_areOdds) := rfl
theorem cl_9_324 : calT 9 324 = some (0, mX9_keepingUpper) := rfl
theorem cl_9_328 : calT 9 328 = some (0, mX9_power) := rfl
theorem cl_9_332 : calT 9 332 = some (2, mX2_tell) := rfl
theorem cl_9_336 : calT 9 336 = some (0, mX9_takesLess) := rfl
theorem cl_9_340 : calT 9 340 = some (2, mX6_reckon) := rfl
theorem cl_9_350 : calT 9 350 = some (2, mX6_greatest) := rfl
theorem cl_9_356 : calT 9 356 = some (2, mX5_partnersOf) := rfl
theorem cl_9_381 : calT 9 381 = some (2, mX9_count) := rfl
theorem cl_9_384 : calT 9 384 = some (2, mX8_fold) := rfl
theorem cl_9_388 : calT 9 388 = some (2, mX4_fold) := rfl
theorem cl_9_389 : calT 9 389 = some (2, mX7_fold) := rfl
theorem cl_9_390 : calT 9 390 = some (2, mX8_become) := rfl
theorem cl_10_140 : calT 10 140 = some (2, mX10_come) := rfl
theorem cl_10_153 : calT 10 153 = some (0, mX10_in) := rfl
theorem cl_10_157 : calT 10 157 = some (0, mX10_isRow) := rfl
theorem cl_10_161 : calT 10 161 = some (2, mX10_meets) := rfl
theorem cl_10_165 : calT 10 165 = some (0, mX10_isText) := rfl
theorem cl_10_168 : calT 10 168 = some (2, mX10_askedRow) := rfl
theorem cl_10_171 : calT 10 171 = some (2, mX10_ask) := rfl
theorem cl_10_175 : calT 10 175 = some (2, mX10_askedText) := rfl
theorem cl_10_184 : calT 10 184 = some (2, mX10_here) := rfl
theorem cl_10_206 : calT 10 206 = some (2, mX10_readsItem) := rfl
theorem cl_10_209 : calT 10 209 = some (2, mX10_reads) := rfl
theorem cl_10_218 : calT 10 218 = some (0, mX10_side) := rfl
theorem cl_10_221 : calT 10 221 = some (0, mX10_parent) := rfl
theorem cl_10_224 : calT 10 224 = some (0, mX10_leftOf) := rfl
theorem cl_10_227 : calT 10 227 = some (0, mX10_topOf) := rfl
theorem cl_10_231 : calT 10 231 = some (0, mX10_isName) := rfl
theorem cl_10_234 : calT 10 234 = some (0, mX10_isAmount) := rfl
theorem cl_10_237 : calT 10 237 = some (2, mX10_askedCell) := rfl
theorem cl_10_240 : calT 10 240 = some (2, mX10_cellTells) := rfl
theorem cl_10_243 : calT 10 243 = some (0, mX10_child) := rfl
theorem cl_10_246 : calT 10 246 = some (2, mX10_doPart) := rfl
theorem cl_10_250 : calT 10 250 = some (2, mX10_together) := rfl
theorem cl_10_253 : calT 10 253 = some (2, mX10_doJoin) := rfl
theorem cl_10_256 : calT 10 256 = some (2, mX10_become) := rfl
theorem cl_10_269 : calT 10 269 = some (2, mX10_beside) := rfl
theorem cl_10_278 : calT 10 278 = some (2, mX10_setNear) := rfl
theorem cl_10_281 : calT 10 281 = some (2, mX10_flowOf) := rfl
theorem cl_10_293 : calT 10 293 = some (2, mX10_setFlows) := rfl
theorem cl_10_297 : calT 10 297 = some (2, mX10_takeFlows) := rfl
theorem cl_10_300 : calT 10 300 = some (0, mX10_isMachine) := rfl
theorem cl_10_303 : calT 10 303 = some (2, mX10_cellsOf) := rfl
theorem cl_10_306 : calT 10 306 = some (2, mX10_weighs) := rfl
theorem cl_10_309 : calT 10 309 = some (2, mX10_workOf) := rfl
theorem cl_10_312 : calT 10 312 = some (2, mX10_areUnlike) := rfl
theorem cl_10_318 : calT 10 318 = some (0, mX10_squareAt) := rfl
theorem cl_10_321 : calT 10 321 = some (2, mX10_setCurve) := rfl
theorem cl_10_324 : calT 10 324 = some (2, mX10_deals) := rfl
theorem cl_10_328 : calT 10 328 = some (2, mX10_setBeside) := rfl
theorem cl_10_331 : calT 10 331 = some (0, mX10_isSlot) := rfl
theorem cl_10_334 : calT 10 334 = some (2, mX10_counted) := rfl
theorem cl_10_337 : calT 10 337 = some (2, mX10_askedSlot) := rfl
theorem cl_10_340 : calT 10 340 = some (0, mX10_power) := rfl
theorem cl_10_344 : calT 10 344 = some (0, mX10_areOdds) := rfl
theorem cl_10_347 : calT 10 347 = some (0, mX10_expected) := rfl
theorem cl_10_351 : calT 10 351 = some (2, mX10_tells) := rfl
theorem cl_10_355 : calT 10 355 = some (0, mX10_isBelow) := rfl
theorem cl_10_359 : calT 10 359 = some (2, mX10_nextShare) := rfl
theorem cl_10_365 : calT 10 365 = some (2, mX10_setShares) := rfl
theorem cl_10_368 : calT 10 368 = some (2, mX10_counts) := rfl
theorem cl_10_378 : calT 10 378 = some (2, mX10_mix) := rfl
