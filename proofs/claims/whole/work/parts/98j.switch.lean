/-! the law, its switch (by program) -/
theorem t_L_law_33 {n : Int} {d : Nat} {Q : Int → Hp → Prop} {h : Hp} {L S : List PV} {x : Int} : Ws (EF n) d mL_law Q 33 L ((0, x) :: S) h = (if x = 0 then Ws (EF n) d mL_law Q 248 L S h else (if x = 1 then Ws (EF n) d mL_law Q 281 L S h else (if x = 2 then Ws (EF n) d mL_law Q 324 L S h else (if x = 3 then Ws (EF n) d mL_law Q 347 L S h else (if x = 4 then Ws (EF n) d mL_law Q 410 L S h else (if x = 5 then Ws (EF n) d mL_law Q 433 L S h else (if x = 6 then Ws (EF n) d mL_law Q 466 L S h else (if x = 7 then Ws (EF n) d mL_law Q 509 L S h else (if x = 8 then Ws (EF n) d mL_law Q 532 L S h else (if x = 9 then Ws (EF n) d mL_law Q 555 L S h else (if x = 10 then Ws (EF n) d mL_law Q 588 L S h else (if x = 11 then Ws (EF n) d mL_law Q 611 L S h else (if x = 12 then Ws (EF n) d mL_law Q 644 L S h else (if x = 13 then Ws (EF n) d mL_law Q 677 L S h else (if x = 14 then Ws (EF n) d mL_law Q 710 L S h else (if x = 15 then Ws (EF n) d mL_law Q 733 L S h else (if x = 16 then Ws (EF n) d mL_law Q 756 L S h else (if x = 17 then Ws (EF n) d mL_law Q 805 L S h else (if x = 18 then Ws (EF n) d mL_law Q 854 L S h else (if x = 19 then Ws (EF n) d mL_law Q 903 L S h else (if x = 20 then Ws (EF n) d mL_law Q 916 L S h else (if x = 21 then Ws (EF n) d mL_law Q 949 L S h else (if x = 22 then Ws (EF n) d mL_law Q 963 L S h else (if x = 23 then Ws (EF n) d mL_law Q 976 L S h else (if x = 24 then Ws (EF n) d mL_law Q 1000 L S h else (if x = 25 then Ws (EF n) d mL_law Q 1033 L S h else (if x = 26 then Ws (EF n) d mL_law Q 1066 L S h else (if x = 27 then Ws (EF n) d mL_law Q 1099 L S h else (if x = 28 then Ws (EF n) d mL_law Q 1122 L S h else (if x = 29 then Ws (EF n) d mL_law Q 1135 L S h else (if x = 30 then Ws (EF n) d mL_law Q 1158 L S h else (if x = 31 then Ws (EF n) d mL_law Q 1181 L S h else (if x = 32 then Ws (EF n) d mL_law Q 1214 L S h else (if x = 33 then Ws (EF n) d mL_law Q 1247 L S h else (if x = 34 then Ws (EF n) d mL_law Q 1270 L S h else (if x = 35 then Ws (EF n) d mL_law Q 1293 L S h else (if x = 36 then Ws (EF n) d mL_law Q 1326 L S h else (if x = 37 then Ws (EF n) d mL_law Q 1349 L S h else (if x = 38 then Ws (EF n) d mL_law Q 1372 L S h else (if x = 39 then Ws (EF n) d mL_law Q 1415 L S h else (if x = 40 then Ws (EF n) d mL_law Q 1448 L S h else (if x = 41 then Ws (EF n) d mL_law Q 1491 L S h else (if x = 42 then Ws (EF n) d mL_law Q 1524 L S h else (if x = 43 then Ws (EF n) d mL_law Q 1557 L S h else (if x = 44 then Ws (EF n) d mL_law Q 1570 L S h else (if x = 45 then Ws (EF n) d mL_law Q 1584 L S h else (if x = 46 then Ws (EF n) d mL_law Q 1598 L S h else (if x = 47 then Ws (EF n) d mL_law Q 1621 L S h else (if x = 48 then Ws (EF n) d mL_law Q 1634 L S h else (if x = 49 then Ws (EF n) d mL_law Q 1657 L S h else Ws (EF n) d mL_law Q 1671 L S h)))))))))))))))))))))))))))))))))))))))))))))))))) := by
  by_cases c0 : x = 0
  · subst c0
    rw [if_pos rfl]
    exact (x_tab (M := mL_law) dL_law_33).trans (and_tl (by decide))
  rw [if_neg c0]
  by_cases c1 : x = 1
  · subst c1
    rw [if_pos rfl]
    exact (x_tab (M := mL_law) dL_law_33).trans (and_tl (by decide))
  rw [if_neg c1]
  by_cases c2 : x = 2
  · subst c2
    rw [if_pos rfl]
    exact (x_tab (M := mL_law) dL_law_33).trans (and_tl (by decide))
  rw [if_neg c2]
  by_cases c3 : x = 3
  · subst c3
    rw [if_pos rfl]
    exact (x_tab (M := mL_law) dL_law_33).trans (and_tl (by decide))
  rw [if_neg c3]
  by_cases c4 : x = 4
  · subst c4
    rw [if_pos rfl]
    exact (x_tab (M := mL_law) dL_law_33).trans (and_tl (by decide))
  rw [if_neg c4]
  by_cases c5 : x = 5
  · subst c5
    rw [if_pos rfl]
    exact (x_tab (M := mL_law) dL_law_33).trans (and_tl (by decide))
  rw [if_neg c5]
  by_cases c6 : x = 6
  · subst c6
    rw [if_pos rfl]
    exact (x_tab (M := mL_law) dL_law_33).trans (and_tl (by decide))
  rw [if_neg c6]
  by_cases c7 : x = 7
  · subst c7
    rw [if_pos rfl]
    exact (x_tab (M := mL_law) dL_law_33).trans (and_tl (by decide))
  rw [if_neg c7]
  by_cases c8 : x = 8
  · subst c8
    rw [if_pos rfl]
    exact (x_tab (M := mL_law) dL_law_33).trans (and_tl (by decide))
  rw [if_neg c8]
  by_cases c9 : x = 9
  · subst c9
    rw [if_pos rfl]
    exact (x_tab (M := mL_law) dL_law_33).trans (and_tl (by decide))
  rw [if_neg c9]
  by_cases c10 : x = 10
  · subst c10
    rw [if_pos rfl]
    exact (x_tab (M := mL_law) dL_law_33).trans (and_tl (by decide))
  rw [if_neg c10]
  by_cases c11 : x = 11
  · subst c11
    rw [if_pos rfl]
    exact (x_tab (M := mL_law) dL_law_33).trans (and_tl (by decide))
  rw [if_neg c11]
  by_cases c12 : x = 12
  · subst c12
    rw [if_pos rfl]
    exact (x_tab (M := mL_law) dL_law_33).trans (and_tl (by decide))
  rw [if_neg c12]
  by_cases c13 : x = 13
  · subst c13
    rw [if_pos rfl]
    exact (x_tab (M := mL_law) dL_law_33).trans (and_tl (by decide))
  rw [if_neg c13]
  by_cases c14 : x = 14
  · subst c14
    rw [if_pos rfl]
    exact (x_tab (M := mL_law) dL_law_33).trans (and_tl (by decide))
  rw [if_neg c14]
  by_cases c15 : x = 15
  · subst c15
    rw [if_pos rfl]
    exact (x_tab (M := mL_law) dL_law_33).trans (and_tl (by decide))
  rw [if_neg c15]
  by_cases c16 : x = 16
  · subst c16
    rw [if_pos rfl]
    exact (x_tab (M := mL_law) dL_law_33).trans (and_tl (by decide))
  rw [if_neg c16]
  by_cases c17 : x = 17
  · subst c17
    rw [if_pos rfl]
    exact (x_tab (M := mL_law) dL_law_33).trans (and_tl (by decide))
  rw [if_neg c17]
  by_cases c18 : x = 18
  · subst c18
    rw [if_pos rfl]
    exact (x_tab (M := mL_law) dL_law_33).trans (and_tl (by decide))
  rw [if_neg c18]
  by_cases c19 : x = 19
  · subst c19
    rw [if_pos rfl]
    exact (x_tab (M := mL_law) dL_law_33).trans (and_tl (by decide))
  rw [if_neg c19]
  by_cases c20 : x = 20
  · subst c20
    rw [if_pos rfl]
    exact (x_tab (M := mL_law) dL_law_33).trans (and_tl (by decide))
  rw [if_neg c20]
  by_cases c21 : x = 21
  · subst c21
    rw [if_pos rfl]
    exact (x_tab (M := mL_law) dL_law_33).trans (and_tl (by decide))
  rw [if_neg c21]
  by_cases c22 : x = 22
  · subst c22
    rw [if_pos rfl]
    exact (x_tab (M := mL_law) dL_law_33).trans (and_tl (by decide))
  rw [if_neg c22]
  by_cases c23 : x = 23
  · subst c23
    rw [if_pos rfl]
    exact (x_tab (M := mL_law) dL_law_33).trans (and_tl (by decide))
  rw [if_neg c23]
  by_cases c24 : x = 24
  · subst c24
    rw [if_pos rfl]
    exact (x_tab (M := mL_law) dL_law_33).trans (and_tl (by decide))
  rw [if_neg c24]
  by_cases c25 : x = 25
  · subst c25
    rw [if_pos rfl]
    exact (x_tab (M := mL_law) dL_law_33).trans (and_tl (by decide))
  rw [if_neg c25]
  by_cases c26 : x = 26
  · subst c26
    rw [if_pos rfl]
    exact (x_tab (M := mL_law) dL_law_33).trans (and_tl (by decide))
  rw [if_neg c26]
  by_cases c27 : x = 27
  · subst c27
    rw [if_pos rfl]
    exact (x_tab (M := mL_law) dL_law_33).trans (and_tl (by decide))
  rw [if_neg c27]
  by_cases c28 : x = 28
  · subst c28
    rw [if_pos rfl]
    exact (x_tab (M := mL_law) dL_law_33).trans (and_tl (by decide))
  rw [if_neg c28]
  by_cases c29 : x = 29
  · subst c29
    rw [if_pos rfl]
    exact (x_tab (M := mL_law) dL_law_33).trans (and_tl (by decide))
  rw [if_neg c29]
  by_cases c30 : x = 30
  · subst c30
    rw [if_pos rfl]
    exact (x_tab (M := mL_law) dL_law_33).trans (and_tl (by decide))
  rw [if_neg c30]
  by_cases c31 : x = 31
  · subst c31
    rw [if_pos rfl]
    exact (x_tab (M := mL_law) dL_law_33).trans (and_tl (by decide))
  rw [if_neg c31]
  by_cases c32 : x = 32
  · subst c32
    rw [if_pos rfl]
    exact (x_tab (M := mL_law) dL_law_33).trans (and_tl (by decide))
  rw [if_neg c32]
  by_cases c33 : x = 33
  · subst c33
    rw [if_pos rfl]
    exact (x_tab (M := mL_law) dL_law_33).trans (and_tl (by decide))
  rw [if_neg c33]
  by_cases c34 : x = 34
  · subst c34
    rw [if_pos rfl]
    exact (x_tab (M := mL_law) dL_law_33).trans (and_tl (by decide))
  rw [if_neg c34]
  by_cases c35 : x = 35
  · subst c35
    rw [if_pos rfl]
    exact (x_tab (M := mL_law) dL_law_33).trans (and_tl (by decide))
  rw [if_neg c35]
  by_cases c36 : x = 36
  · subst c36
    rw [if_pos rfl]
    exact (x_tab (M := mL_law) dL_law_33).trans (and_tl (by decide))
  rw [if_neg c36]
  by_cases c37 : x = 37
  · subst c37
    rw [if_pos rfl]
    exact (x_tab (M := mL_law) dL_law_33).trans (and_tl (by decide))
  rw [if_neg c37]
  by_cases c38 : x = 38
  · subst c38
    rw [if_pos rfl]
    exact (x_tab (M := mL_law) dL_law_33).trans (and_tl (by decide))
  rw [if_neg c38]
  by_cases c39 : x = 39
  · subst c39
    rw [if_pos rfl]
    exact (x_tab (M := mL_law) dL_law_33).trans (and_tl (by decide))
  rw [if_neg c39]
  by_cases c40 : x = 40
  · subst c40
    rw [if_pos rfl]
    exact (x_tab (M := mL_law) dL_law_33).trans (and_tl (by decide))
  rw [if_neg c40]
  by_cases c41 : x = 41
  · subst c41
    rw [if_pos rfl]
    exact (x_tab (M := mL_law) dL_law_33).trans (and_tl (by decide))
  rw [if_neg c41]
  by_cases c42 : x = 42
  · subst c42
    rw [if_pos rfl]
    exact (x_tab (M := mL_law) dL_law_33).trans (and_tl (by decide))
  rw [if_neg c42]
  by_cases c43 : x = 43
  · subst c43
    rw [if_pos rfl]
    exact (x_tab (M := mL_law) dL_law_33).trans (and_tl (by decide))
  rw [if_neg c43]
  by_cases c44 : x = 44
  · subst c44
    rw [if_pos rfl]
    exact (x_tab (M := mL_law) dL_law_33).trans (and_tl (by decide))
  rw [if_neg c44]
  by_cases c45 : x = 45
  · subst c45
    rw [if_pos rfl]
    exact (x_tab (M := mL_law) dL_law_33).trans (and_tl (by decide))
  rw [if_neg c45]
  by_cases c46 : x = 46
  · subst c46
    rw [if_pos rfl]
    exact (x_tab (M := mL_law) dL_law_33).trans (and_tl (by decide))
  rw [if_neg c46]
  by_cases c47 : x = 47
  · subst c47
    rw [if_pos rfl]
    exact (x_tab (M := mL_law) dL_law_33).trans (and_tl (by decide))
  rw [if_neg c47]
  by_cases c48 : x = 48
  · subst c48
    rw [if_pos rfl]
    exact (x_tab (M := mL_law) dL_law_33).trans (and_tl (by decide))
  rw [if_neg c48]
  by_cases c49 : x = 49
  · subst c49
    rw [if_pos rfl]
    exact (x_tab (M := mL_law) dL_law_33).trans (and_tl (by decide))
  rw [if_neg c49]
  have e : swTab 1638 0 49 #[215, 248, 291, 314, 377, 400, 433, 476, 499, 522, 555, 578, 611, 644, 677, 700, 723, 772, 821, 870, 883, 916, 930, 943, 967, 1000, 1033, 1066, 1089, 1102, 1125, 1148, 1181, 1214, 1237, 1260, 1293, 1316, 1339, 1382, 1415, 1458, 1491, 1524, 1537, 1551, 1565, 1588, 1601, 1624] x = some 1638 := if_pos (by omega)
  rw [x_tab (M := mL_law) dL_law_33, e]
  exact and_tl (by decide)
