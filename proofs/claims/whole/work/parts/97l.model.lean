/-! constructors: the reference -/
theorem up_flr (f : Int → Int) {k : Int} (v : Int) (h0 : 0 ≤ k) : up (flr f k v) k v = flr f (k + 1) v := by
  funext i
  unfold up flr
  repeat' split
  all_goals first | rfl | (exfalso; omega)
theorem flr_0 (f : Int → Int) (v : Int) : flr f 0 v = f := by
  funext i
  unfold flr
  exact if_neg (by omega)
theorem j_X10 {E : PvEnv} {Lx dd : Nat} {h : Hp} {Q : Int → Hp → Prop} (hE : HM E Lx) (hn : h (-3) 0 = 51) (hq : ∀ g : Hp, Mk h g 50 51 89 13262 (up (up (up (up (up (up (up (up (up (up (up (up (up (up (up (up (up (up (up (up (up (up (up (up (up (up (up (up (up (up (up (up (up (up (up (up (up (up (up (up (up (up (h 50) 1 51) 4 1) 5 52) 6 53) 7 54) 8 55) 9 56) 11 1) 13 (-9)) 14 (-9)) 22 57) 23 58) 24 59) 25 60) 26 61) 27 62) 30 63) 31 64) 34 65) 35 66) 36 67) 38 68) 39 69) 40 70) 41 71) 42 72) 45 73) 46 74) 48 75) 49 76) 50 77) 51 78) 52 79) 53 80) 54 81) 55 82) 56 83) 57 84) 58 85) 59 86) 60 87) 61 88) (hrow (hrow (hrow (hrow (hrow (hrow (hrow (hrow (hrow (fun _ _ => 0) 52 (flr (fun _ => 0) 6 (-9))) 55 (flr (fun _ => 0) 4 (-9))) 57 (flr (fun _ => 0) 16 1)) 58 (flr (fun _ => 0) 16 0)) 59 (flr (fun _ => 0) 16 0)) 60 (flr (fun _ => 0) 16 0)) 61 (flr (fun _ => 0) 16 (-9))) 62 (ow (fun _ => 0) 16)) 78 (flr (fun _ => 0) 6 (-9))) → Q 0 g) : wpM E (dd + 4) mX10_init [(2, 50)] h Q := by
  have hc := wpM_mono E (dd + 3)
  obtain ⟨s, s3, s4⟩ := sl_h (M := mX10_init) (h := h) (by decide) hE
  have m1 : mMc mX10_init = 38 := rfl
  have m2 : mMs mX10_init = 13262 := rfl
  show WpC (setLim E mX10_init h) (dd + 3) mX10_init (wpM E (dd + 3)) (postM mX10_init h Q) 0 [(2, 50), (9, 0)] [] h
  rw [m1, hn] at s3
  rw [m2] at s4
  generalize setLim E mX10_init h = F at *
  refine y_obj hc dX10_init_0 dX10_init_1 (M' := mX9_init) rfl (by decide) (by omega) (by decide) ?_
  have K := Mk.rf hn (by decide : (0 : Int) ≤ 50) (by decide) (fun _ _ => 0)
  refine y_row (Lx := Lx) hc K (ty := .int) (n := 6) dX10_init_4 dX10_init_5 rfl (fun _ _ _ q => q) dX10_init_7 dX10_init_9 (pc' := 12) rfl sk_51 (by decide) sn_51 (by decide) s (by decide) (by omega) (by omega) fl_10_7 sk_50 (Or.inr ⟨rfl, rfl, rfl⟩) rfl (m' := 52) rfl (b' := 6) rfl ?_
  clear K
  intro g1 K
  refine y_set (Lx := Lx) hc K (t := 1) (v := 1) dX10_init_12 dX10_init_13 rfl (fun _ _ _ q => q) dX10_init_14 (pc' := 17) rfl s fl_10_13 (by decide) sk_50 ?_
  clear K
  intro g2 K
  refine y_row (Lx := Lx) hc K (ty := .int) (n := 6) dX10_init_17 dX10_init_18 rfl (fun _ _ _ q => q) dX10_init_20 dX10_init_22 (pc' := 25) rfl sk_52 (by decide) sn_52 (by decide) s (by decide) (by omega) (by omega) fl_10_17 sk_50 (Or.inr ⟨rfl, rfl, rfl⟩) rfl (m' := 53) rfl (b' := 12) rfl ?_
  clear K
  intro g3 K
  refine y_row (Lx := Lx) hc K (ty := .int) (n := 240) dX10_init_25 dX10_init_26 rfl (fun _ _ _ q => q) dX10_init_29 dX10_init_31 (pc' := 34) rfl sk_53 (by decide) sn_53 (by decide) s (by decide) (by omega) (by omega) fl_10_20 sk_50 (Or.inr ⟨rfl, rfl, rfl⟩) rfl (m' := 54) rfl (b' := 252) rfl ?_
  clear K
  intro g4 K
  refine y_row (Lx := Lx) hc K (ty := .int) (n := 40) dX10_init_34 dX10_init_35 rfl (fun _ _ _ q => q) dX10_init_37 dX10_init_39 (pc' := 42) rfl sk_54 (by decide) sn_54 (by decide) s (by decide) (by omega) (by omega) fl_10_23 sk_50 (Or.inr ⟨rfl, rfl, rfl⟩) rfl (m' := 55) rfl (b' := 292) rfl ?_
  clear K
  intro g5 K
  refine y_row (Lx := Lx) hc K (ty := .int) (n := 4) dX10_init_42 dX10_init_43 rfl (fun _ _ _ q => q) dX10_init_44 dX10_init_46 (pc' := 49) rfl sk_55 (by decide) sn_55 (by decide) s (by decide) (by omega) (by omega) fl_10_26 sk_50 (Or.inr ⟨rfl, rfl, rfl⟩) rfl (m' := 56) rfl (b' := 296) rfl ?_
  clear K
  intro g6 K
  refine y_row (Lx := Lx) hc K (ty := .int) (n := 160) dX10_init_49 dX10_init_50 rfl (fun _ _ _ q => q) dX10_init_53 dX10_init_55 (pc' := 58) rfl sk_56 (by decide) sn_56 (by decide) s (by decide) (by omega) (by omega) fl_10_29 sk_50 (Or.inr ⟨rfl, rfl, rfl⟩) rfl (m' := 57) rfl (b' := 456) rfl ?_
  clear K
  intro g7 K
  refine y_set (Lx := Lx) hc K (t := 0) (v := 1) dX10_init_58 dX10_init_59 rfl (fun _ _ _ q => q) dX10_init_60 (pc' := 63) rfl s fl_10_32 (by decide) sk_50 ?_
  clear K
  intro g8 K
  refine y_set (Lx := Lx) hc K (t := 0) (v := (-9)) dX10_init_63 dX10_init_64 rfl (fun S h kk q => by show kk _ _ ((0, w8 (-9)) :: S) h; rw [show w8 (-9) = -9 by decide]; exact q) dX10_init_66 (pc' := 69) rfl s fl_10_36 (by decide) sk_50 ?_
  clear K
  intro g9 K
  refine y_set (Lx := Lx) hc K (t := 0) (v := (-9)) dX10_init_69 dX10_init_70 rfl (fun S h kk q => by show kk _ _ ((0, w8 (-9)) :: S) h; rw [show w8 (-9) = -9 by decide]; exact q) dX10_init_72 (pc' := 75) rfl s fl_10_39 (by decide) sk_50 ?_
  clear K
  intro g10 K
  refine y_row (Lx := Lx) hc K (ty := .boolean) (n := 336) dX10_init_75 dX10_init_76 rfl (fun _ _ _ q => q) dX10_init_79 dX10_init_81 (pc' := 84) rfl sk_57 (by decide) sn_57 (by decide) s (by decide) (by omega) (by omega) fl_10_42 sk_50 (Or.inr ⟨rfl, rfl, rfl⟩) rfl (m' := 58) rfl (b' := 792) rfl ?_
  clear K
  intro g11 K
  refine y_row (Lx := Lx) hc K (ty := .int) (n := 336) dX10_init_84 dX10_init_85 rfl (fun _ _ _ q => q) dX10_init_88 dX10_init_90 (pc' := 93) rfl sk_58 (by decide) sn_58 (by decide) s (by decide) (by omega) (by omega) fl_10_46 sk_50 (Or.inr ⟨rfl, rfl, rfl⟩) rfl (m' := 59) rfl (b' := 1128) rfl ?_
  clear K
  intro g12 K
  refine y_row (Lx := Lx) hc K (ty := .int) (n := 336) dX10_init_93 dX10_init_94 rfl (fun _ _ _ q => q) dX10_init_97 dX10_init_99 (pc' := 102) rfl sk_59 (by decide) sn_59 (by decide) s (by decide) (by omega) (by omega) fl_10_49 sk_50 (Or.inr ⟨rfl, rfl, rfl⟩) rfl (m' := 60) rfl (b' := 1464) rfl ?_
  clear K
  intro g13 K
  refine y_row (Lx := Lx) hc K (ty := .int) (n := 336) dX10_init_102 dX10_init_103 rfl (fun _ _ _ q => q) dX10_init_106 dX10_init_108 (pc' := 111) rfl sk_60 (by decide) sn_60 (by decide) s (by decide) (by omega) (by omega) fl_10_52 sk_50 (Or.inr ⟨rfl, rfl, rfl⟩) rfl (m' := 61) rfl (b' := 1800) rfl ?_
  clear K
  intro g14 K
  refine y_row (Lx := Lx) hc K (ty := .int) (n := 336) dX10_init_111 dX10_init_112 rfl (fun _ _ _ q => q) dX10_init_115 dX10_init_117 (pc' := 120) rfl sk_61 (by decide) sn_61 (by decide) s (by decide) (by omega) (by omega) fl_10_55 sk_50 (Or.inr ⟨rfl, rfl, rfl⟩) rfl (m' := 62) rfl (b' := 2136) rfl ?_
  clear K
  intro g15 K
  refine y_row (Lx := Lx) hc K (ty := .int) (n := 256) dX10_init_120 dX10_init_121 rfl (fun _ _ _ q => q) dX10_init_124 dX10_init_126 (pc' := 129) rfl sk_62 (by decide) sn_62 (by decide) s (by decide) (by omega) (by omega) fl_10_58 sk_50 (Or.inr ⟨rfl, rfl, rfl⟩) rfl (m' := 63) rfl (b' := 2392) rfl ?_
  clear K
  intro g16 K
  refine y_row (Lx := Lx) hc K (ty := .int) (n := 16) dX10_init_129 dX10_init_130 rfl (fun _ _ _ q => q) dX10_init_132 dX10_init_134 (pc' := 137) rfl sk_63 (by decide) sn_63 (by decide) s (by decide) (by omega) (by omega) fl_10_61 sk_50 (Or.inr ⟨rfl, rfl, rfl⟩) rfl (m' := 64) rfl (b' := 2408) rfl ?_
  clear K
  intro g17 K
  refine y_row (Lx := Lx) hc K (ty := .int) (n := 16) dX10_init_137 dX10_init_138 rfl (fun _ _ _ q => q) dX10_init_140 dX10_init_142 (pc' := 145) rfl sk_64 (by decide) sn_64 (by decide) s (by decide) (by omega) (by omega) fl_10_64 sk_50 (Or.inr ⟨rfl, rfl, rfl⟩) rfl (m' := 65) rfl (b' := 2424) rfl ?_
  clear K
  intro g18 K
  refine y_row (Lx := Lx) hc K (ty := .int) (n := 1024) dX10_init_145 dX10_init_146 rfl (fun _ _ _ q => q) dX10_init_149 dX10_init_151 (pc' := 154) rfl sk_65 (by decide) sn_65 (by decide) s (by decide) (by omega) (by omega) fl_10_67 sk_50 (Or.inr ⟨rfl, rfl, rfl⟩) rfl (m' := 66) rfl (b' := 3448) rfl ?_
  clear K
  intro g19 K
  refine y_row (Lx := Lx) hc K (ty := .int) (n := 1024) dX10_init_154 dX10_init_155 rfl (fun _ _ _ q => q) dX10_init_158 dX10_init_160 (pc' := 163) rfl sk_66 (by decide) sn_66 (by decide) s (by decide) (by omega) (by omega) fl_10_70 sk_50 (Or.inr ⟨rfl, rfl, rfl⟩) rfl (m' := 67) rfl (b' := 4472) rfl ?_
  clear K
  intro g20 K
  refine y_row (Lx := Lx) hc K (ty := .int) (n := 1024) dX10_init_163 dX10_init_164 rfl (fun _ _ _ q => q) dX10_init_167 dX10_init_169 (pc' := 172) rfl sk_67 (by decide) sn_67 (by decide) s (by decide) (by omega) (by omega) fl_10_73 sk_50 (Or.inr ⟨rfl, rfl, rfl⟩) rfl (m' := 68) rfl (b' := 5496) rfl ?_
  clear K
  intro g21 K
  refine y_row (Lx := Lx) hc K (ty := .int) (n := 1024) dX10_init_172 dX10_init_173 rfl (fun _ _ _ q => q) dX10_init_176 dX10_init_178 (pc' := 181) rfl sk_68 (by decide) sn_68 (by decide) s (by decide) (by omega) (by omega) fl_10_76 sk_50 (Or.inr ⟨rfl, rfl, rfl⟩) rfl (m' := 69) rfl (b' := 6520) rfl ?_
  clear K
  intro g22 K
  refine y_row (Lx := Lx) hc K (ty := .int) (n := 1024) dX10_init_181 dX10_init_182 rfl (fun _ _ _ q => q) dX10_init_185 dX10_init_187 (pc' := 190) rfl sk_69 (by decide) sn_69 (by decide) s (by decide) (by omega) (by omega) fl_10_79 sk_50 (Or.inr ⟨rfl, rfl, rfl⟩) rfl (m' := 70) rfl (b' := 7544) rfl ?_
  clear K
  intro g23 K
  refine y_row (Lx := Lx) hc K (ty := .int) (n := 1024) dX10_init_190 dX10_init_191 rfl (fun _ _ _ q => q) dX10_init_194 dX10_init_196 (pc' := 199) rfl sk_70 (by decide) sn_70 (by decide) s (by decide) (by omega) (by omega) fl_10_82 sk_50 (Or.inr ⟨rfl, rfl, rfl⟩) rfl (m' := 71) rfl (b' := 8568) rfl ?_
  clear K
  intro g24 K
  refine y_row (Lx := Lx) hc K (ty := .int) (n := 336) dX10_init_199 dX10_init_200 rfl (fun _ _ _ q => q) dX10_init_203 dX10_init_205 (pc' := 208) rfl sk_71 (by decide) sn_71 (by decide) s (by decide) (by omega) (by omega) fl_10_85 sk_50 (Or.inr ⟨rfl, rfl, rfl⟩) rfl (m' := 72) rfl (b' := 8904) rfl ?_
  clear K
  intro g25 K
  refine y_row (Lx := Lx) hc K (ty := .int) (n := 336) dX10_init_208 dX10_init_209 rfl (fun _ _ _ q => q) dX10_init_212 dX10_init_214 (pc' := 217) rfl sk_72 (by decide) sn_72 (by decide) s (by decide) (by omega) (by omega) fl_10_88 sk_50 (Or.inr ⟨rfl, rfl, rfl⟩) rfl (m' := 73) rfl (b' := 9240) rfl ?_
  clear K
  intro g26 K
  refine y_row (Lx := Lx) hc K (ty := .boolean) (n := 336) dX10_init_217 dX10_init_218 rfl (fun _ _ _ q => q) dX10_init_221 dX10_init_223 (pc' := 226) rfl sk_73 (by decide) sn_73 (by decide) s (by decide) (by omega) (by omega) fl_10_91 sk_50 (Or.inr ⟨rfl, rfl, rfl⟩) rfl (m' := 74) rfl (b' := 9576) rfl ?_
  clear K
  intro g27 K
  refine y_row (Lx := Lx) hc K (ty := .int) (n := 6) dX10_init_226 dX10_init_227 rfl (fun _ _ _ q => q) dX10_init_229 dX10_init_231 (pc' := 234) rfl sk_74 (by decide) sn_74 (by decide) s (by decide) (by omega) (by omega) fl_10_94 sk_50 (Or.inr ⟨rfl, rfl, rfl⟩) rfl (m' := 75) rfl (b' := 9582) rfl ?_
  clear K
  intro g28 K
  refine y_row (Lx := Lx) hc K (ty := .int) (n := 256) dX10_init_234 dX10_init_235 rfl (fun _ _ _ q => q) dX10_init_238 dX10_init_240 (pc' := 243) rfl sk_75 (by decide) sn_75 (by decide) s (by decide) (by omega) (by omega) fl_10_97 sk_50 (Or.inr ⟨rfl, rfl, rfl⟩) rfl (m' := 76) rfl (b' := 9838) rfl ?_
  clear K
  intro g29 K
  refine y_row (Lx := Lx) hc K (ty := .int) (n := 6) dX10_init_243 dX10_init_244 rfl (fun _ _ _ q => q) dX10_init_246 dX10_init_248 (pc' := 251) rfl sk_76 (by decide) sn_76 (by decide) s (by decide) (by omega) (by omega) fl_10_100 sk_50 (Or.inr ⟨rfl, rfl, rfl⟩) rfl (m' := 77) rfl (b' := 9844) rfl ?_
  clear K
  intro g30 K
  refine y_row (Lx := Lx) hc K (ty := .int) (n := 6) dX10_init_251 dX10_init_252 rfl (fun _ _ _ q => q) dX10_init_254 dX10_init_256 (pc' := 259) rfl sk_77 (by decide) sn_77 (by decide) s (by decide) (by omega) (by omega) fl_10_103 sk_50 (Or.inr ⟨rfl, rfl, rfl⟩) rfl (m' := 78) rfl (b' := 9850) rfl ?_
  clear K
  intro g31 K
  refine y_row (Lx := Lx) hc K (ty := .int) (n := 6) dX10_init_259 dX10_init_260 rfl (fun _ _ _ q => q) dX10_init_262 dX10_init_264 (pc' := 267) rfl sk_78 (by decide) sn_78 (by decide) s (by decide) (by omega) (by omega) fl_10_106 sk_50 (Or.inr ⟨rfl, rfl, rfl⟩) rfl (m' := 79) rfl (b' := 9856) rfl ?_
  clear K
  intro g32 K
  refine y_row (Lx := Lx) hc K (ty := .int) (n := 6) dX10_init_267 dX10_init_268 rfl (fun _ _ _ q => q) dX10_init_270 dX10_init_272 (pc' := 275) rfl sk_79 (by decide) sn_79 (by decide) s (by decide) (by omega) (by omega) fl_10_109 sk_50 (Or.inr ⟨rfl, rfl, rfl⟩) rfl (m' := 80) rfl (b' := 9862) rfl ?_
  clear K
  intro g33 K
  refine y_row (Lx := Lx) hc K (ty := .boolean) (n := 36) dX10_init_275 dX10_init_276 rfl (fun _ _ _ q => q) dX10_init_278 dX10_init_280 (pc' := 283) rfl sk_80 (by decide) sn_80 (by decide) s (by decide) (by omega) (by omega) fl_10_112 sk_50 (Or.inr ⟨rfl, rfl, rfl⟩) rfl (m' := 81) rfl (b' := 9898) rfl ?_
  clear K
  intro g34 K
  refine y_row (Lx := Lx) hc K (ty := .boolean) (n := 2) dX10_init_283 dX10_init_284 rfl (fun _ _ _ q => q) dX10_init_285 dX10_init_287 (pc' := 290) rfl sk_81 (by decide) sn_81 (by decide) s (by decide) (by omega) (by omega) fl_10_115 sk_50 (Or.inr ⟨rfl, rfl, rfl⟩) rfl (m' := 82) rfl (b' := 9900) rfl ?_
  clear K
  intro g35 K
  refine y_row (Lx := Lx) hc K (ty := .boolean) (n := 672) dX10_init_290 dX10_init_291 rfl (fun _ _ _ q => q) dX10_init_294 dX10_init_296 (pc' := 299) rfl sk_82 (by decide) sn_82 (by decide) s (by decide) (by omega) (by omega) fl_10_118 sk_50 (Or.inr ⟨rfl, rfl, rfl⟩) rfl (m' := 83) rfl (b' := 10572) rfl ?_
  clear K
  intro g36 K
  refine y_row (Lx := Lx) hc K (ty := .int) (n := 672) dX10_init_299 dX10_init_300 rfl (fun _ _ _ q => q) dX10_init_303 dX10_init_305 (pc' := 308) rfl sk_83 (by decide) sn_83 (by decide) s (by decide) (by omega) (by omega) fl_10_121 sk_50 (Or.inr ⟨rfl, rfl, rfl⟩) rfl (m' := 84) rfl (b' := 11244) rfl ?_
  clear K
  intro g37 K
  refine y_row (Lx := Lx) hc K (ty := .int) (n := 672) dX10_init_308 dX10_init_309 rfl (fun _ _ _ q => q) dX10_init_312 dX10_init_314 (pc' := 317) rfl sk_84 (by decide) sn_84 (by decide) s (by decide) (by omega) (by omega) fl_10_124 sk_50 (Or.inr ⟨rfl, rfl, rfl⟩) rfl (m' := 85) rfl (b' := 11916) rfl ?_
  clear K
  intro g38 K
  refine y_row (Lx := Lx) hc K (ty := .int) (n := 672) dX10_init_317 dX10_init_318 rfl (fun _ _ _ q => q) dX10_init_321 dX10_init_323 (pc' := 326) rfl sk_85 (by decide) sn_85 (by decide) s (by decide) (by omega) (by omega) fl_10_127 sk_50 (Or.inr ⟨rfl, rfl, rfl⟩) rfl (m' := 86) rfl (b' := 12588) rfl ?_
  clear K
  intro g39 K
  refine y_row (Lx := Lx) hc K (ty := .int) (n := 2) dX10_init_326 dX10_init_327 rfl (fun _ _ _ q => q) dX10_init_328 dX10_init_330 (pc' := 333) rfl sk_86 (by decide) sn_86 (by decide) s (by decide) (by omega) (by omega) fl_10_130 sk_50 (Or.inr ⟨rfl, rfl, rfl⟩) rfl (m' := 87) rfl (b' := 12590) rfl ?_
  clear K
  intro g40 K
  refine y_row (Lx := Lx) hc K (ty := .long) (n := 336) dX10_init_333 dX10_init_334 rfl (fun _ _ _ q => q) dX10_init_337 dX10_init_339 (pc' := 342) rfl sk_87 (by decide) sn_87 (by decide) s (by decide) (by omega) (by omega) fl_10_133 sk_50 (Or.inr ⟨rfl, rfl, rfl⟩) rfl (m' := 88) rfl (b' := 12926) rfl ?_
  clear K
  intro g41 K
  refine y_row (Lx := Lx) hc K (ty := .long) (n := 336) dX10_init_342 dX10_init_343 rfl (fun _ _ _ q => q) dX10_init_346 dX10_init_348 (pc' := 351) rfl sk_88 (by decide) sn_88 (by decide) s (by decide) (by omega) (by omega) fl_10_137 sk_50 (Or.inr ⟨rfl, rfl, rfl⟩) rfl (m' := 89) rfl (b' := 13262) rfl ?_
  clear K
  intro g42 K
  have hP : ∀ kk, EP Lx 50 50 kk = refT 50 kk := EP_o (by decide)
  refine W_switch (E := EP Lx 50) (Lx := Lx) (Q := postM mX10_init h Q) (EP_still (by decide)) rfl s.1 hE.1 (by rw [K.1.2.1]; decide) (EP_refs K.2.2.2.1 [(50, 1, 51), (50, 5, 52), (50, 6, 53), (50, 7, 54), (50, 8, 55), (50, 9, 56), (50, 22, 57), (50, 23, 58), (50, 24, 59), (50, 25, 60), (50, 26, 61), (50, 27, 62), (50, 30, 63), (50, 31, 64), (50, 34, 65), (50, 35, 66), (50, 36, 67), (50, 38, 68), (50, 39, 69), (50, 40, 70), (50, 41, 71), (50, 42, 72), (50, 45, 73), (50, 46, 74), (50, 48, 75), (50, 49, 76), (50, 50, 77), (50, 51, 78), (50, 52, 79), (50, 53, 80), (50, 54, 81), (50, 55, 82), (50, 56, 83), (50, 57, 84), (50, 58, 85), (50, 59, 86), (50, 60, 87), (50, 61, 88)] (by decide) ?_) (fun _ _ _ _ _ q => q) ?_
  · intro q hq'
    simp only [List.mem_cons, List.not_mem_nil, or_false] at hq'
    rcases hq' with rfl | rfl | rfl | rfl | rfl | rfl | rfl | rfl | rfl | rfl | rfl | rfl | rfl | rfl | rfl | rfl | rfl | rfl | rfl | rfl | rfl | rfl | rfl | rfl | rfl | rfl | rfl | rfl | rfl | rfl | rfl | rfl | rfl | rfl | rfl | rfl | rfl | rfl
    all_goals rfl
  rw [b_X10_init_e_351 hP]
  have l1 := flr_loop (P := fun i g => Ws (EP Lx 50) (dd + 3) mX10_init (postM mX10_init h Q) 353 [(2, 50), (0, i)] [] g) 52 (-9) 6 (fun kk g hk => by
    show Ws (EP Lx 50) (dd + 3) mX10_init (postM mX10_init h Q) 353 [(2, 50), (0, (kk : Int))] [] g = Ws (EP Lx 50) (dd + 3) mX10_init (postM mX10_init h Q) 353 [(2, 50), (0, (kk : Int) + 1)] [] (hst g 52 kk (-9))
    rw [b_X10_init_e_353 hP, if_pos (by omega), and_tl (by omega), w32_of (by omega) (by omega)]) g42
  refine l1.mpr ?_
  show Ws (EP Lx 50) (dd + 3) mX10_init (postM mX10_init h Q) 353 [(2, 50), (0, ((6 : Nat) : Int))] [] _
  rw [b_X10_init_e_353 hP, if_neg (by decide)]
  have e1 : g42 52 = fun _ => 0 := K.2.2.1 52 (by decide) (by decide)
  rw [e1]
  have K1 := K.re (r := 52) (by decide) (by decide) (flr (fun _ => 0) ((6 : Nat) : Int) (-9))
  obtain ⟨y1, f1⟩ : ∃ y : Hp, y = hrow g42 52 (flr (fun _ => 0) ((6 : Nat) : Int) (-9)) := ⟨_, rfl⟩
  rw [← f1] at K1 ⊢
  have l2 := flr_loop (P := fun i g => Ws (EP Lx 50) (dd + 3) mX10_init (postM mX10_init h Q) 375 [(2, 50), (0, i)] [] g) 55 (-9) 4 (fun kk g hk => by
    show Ws (EP Lx 50) (dd + 3) mX10_init (postM mX10_init h Q) 375 [(2, 50), (0, (kk : Int))] [] g = Ws (EP Lx 50) (dd + 3) mX10_init (postM mX10_init h Q) 375 [(2, 50), (0, (kk : Int) + 1)] [] (hst g 55 kk (-9))
    rw [b_X10_init_e_375 hP, if_pos (by omega), and_tl (by omega), w32_of (by omega) (by omega)]) y1
  refine l2.mpr ?_
  show Ws (EP Lx 50) (dd + 3) mX10_init (postM mX10_init h Q) 375 [(2, 50), (0, ((4 : Nat) : Int))] [] _
  rw [b_X10_init_e_375 hP, if_neg (by decide)]
  have e2 : y1 55 = fun _ => 0 := K1.2.2.1 55 (by decide) (by decide)
  rw [e2]
  have K2 := K1.re (r := 55) (by decide) (by decide) (flr (fun _ => 0) ((4 : Nat) : Int) (-9))
  obtain ⟨y2, f2⟩ : ∃ y : Hp, y = hrow y1 55 (flr (fun _ => 0) ((4 : Nat) : Int) (-9)) := ⟨_, rfl⟩
  rw [← f2] at K2 ⊢
  have l3 := loop_n (P := fun i => Ws (EP Lx 50) (dd + 3) mX10_init (postM mX10_init h Q) 396 [(2, 50), (0, (i : Int))] [] (mv y2 (flr (fun _ => 0) i 1) (flr (fun _ => 0) i 0) (flr (fun _ => 0) i 0) (flr (fun _ => 0) i 0) (flr (fun _ => 0) i (-9)) (ow (fun _ => 0) i))) 16 (fun i hi => by
    show Ws (EP Lx 50) (dd + 3) mX10_init (postM mX10_init h Q) 396 [(2, 50), (0, (i : Int))] [] (mv y2 (flr (fun _ => 0) (i : Int) 1) (flr (fun _ => 0) (i : Int) 0) (flr (fun _ => 0) (i : Int) 0) (flr (fun _ => 0) (i : Int) 0) (flr (fun _ => 0) (i : Int) (-9)) (ow (fun _ => 0) (i : Int))) = Ws (EP Lx 50) (dd + 3) mX10_init (postM mX10_init h Q) 396 [(2, 50), (0, ((i + 1 : Nat) : Int))] [] (mv y2 (flr (fun _ => 0) ((i + 1 : Nat) : Int) 1) (flr (fun _ => 0) ((i + 1 : Nat) : Int) 0) (flr (fun _ => 0) ((i + 1 : Nat) : Int) 0) (flr (fun _ => 0) ((i + 1 : Nat) : Int) 0) (flr (fun _ => 0) ((i + 1 : Nat) : Int) (-9)) (ow (fun _ => 0) ((i + 1 : Nat) : Int)))
    rw [b_X10_init_e_396 hP, if_pos (by omega), e_m_come hP (show isN (i : Int) by unfold isN; omega), if_pos (by omega), up_flr _ _ (by omega), up_flr _ _ (by omega), up_flr _ _ (by omega), pnt_ow _ (by omega) (by omega), w32_of (by omega) (by omega)]
    rfl)
  have w : ∀ r : Int, 57 ≤ r → r < 63 → y2 r = fun _ => 0 := fun r q1 q2 => by
    have q := K2.2.2.1 r (by omega) (by omega)
    rw [q, hrow_at, if_neg (by omega), hrow_at, if_neg (by omega)]
  have l0 : (mv y2 (flr (fun _ => 0) ((0 : Nat) : Int) 1) (flr (fun _ => 0) ((0 : Nat) : Int) 0) (flr (fun _ => 0) ((0 : Nat) : Int) 0) (flr (fun _ => 0) ((0 : Nat) : Int) 0) (flr (fun _ => 0) ((0 : Nat) : Int) (-9)) (ow (fun _ => 0) ((0 : Nat) : Int))) = y2 := by
    rw [show ((0 : Nat) : Int) = 0 from rfl, flr_0, flr_0, flr_0, ow_0]
    unfold mv
    rw [← w 57 (by decide) (by decide), hrow_self]
    rw [show y2 57 = y2 58 from (w 57 (by decide) (by decide)).trans (w 58 (by decide) (by decide)).symm, hrow_self]
    rw [show y2 58 = y2 59 from (w 58 (by decide) (by decide)).trans (w 59 (by decide) (by decide)).symm, hrow_self]
    rw [show y2 59 = y2 60 from (w 59 (by decide) (by decide)).trans (w 60 (by decide) (by decide)).symm, hrow_self]
    rw [show y2 60 = y2 61 from (w 60 (by decide) (by decide)).trans (w 61 (by decide) (by decide)).symm, hrow_self]
    rw [show y2 61 = y2 62 from (w 61 (by decide) (by decide)).trans (w 62 (by decide) (by decide)).symm, hrow_self]
  rw [l0] at l3
  refine l3.mpr ?_
  show Ws (EP Lx 50) (dd + 3) mX10_init (postM mX10_init h Q) 396 [(2, 50), (0, ((16 : Nat) : Int))] [] (mv y2 (flr (fun _ => 0) ((16 : Nat) : Int) 1) (flr (fun _ => 0) ((16 : Nat) : Int) 0) (flr (fun _ => 0) ((16 : Nat) : Int) 0) (flr (fun _ => 0) ((16 : Nat) : Int) 0) (flr (fun _ => 0) ((16 : Nat) : Int) (-9)) (ow (fun _ => 0) ((16 : Nat) : Int)))
  rw [b_X10_init_e_396 hP, if_neg (by decide)]
  have K3 := (((((K2.re (r := 57) (by decide) (by decide) (flr (fun _ => 0) 16 1)).re (r := 58) (by decide) (by decide) (flr (fun _ => 0) 16 0)).re (r := 59) (by decide) (by decide) (flr (fun _ => 0) 16 0)).re (r := 60) (by decide) (by decide) (flr (fun _ => 0) 16 0)).re (r := 61) (by decide) (by decide) (flr (fun _ => 0) 16 (-9))).re (r := 62) (by decide) (by decide) (ow (fun _ => 0) 16)
  obtain ⟨y3, f3⟩ : ∃ y : Hp, y = (mv y2 (flr (fun _ => 0) ((16 : Nat) : Int) 1) (flr (fun _ => 0) ((16 : Nat) : Int) 0) (flr (fun _ => 0) ((16 : Nat) : Int) 0) (flr (fun _ => 0) ((16 : Nat) : Int) 0) (flr (fun _ => 0) ((16 : Nat) : Int) (-9)) (ow (fun _ => 0) ((16 : Nat) : Int))) := ⟨_, rfl⟩
  change Mk h (mv y2 (flr (fun _ => 0) ((16 : Nat) : Int) 1) (flr (fun _ => 0) ((16 : Nat) : Int) 0) (flr (fun _ => 0) ((16 : Nat) : Int) 0) (flr (fun _ => 0) ((16 : Nat) : Int) 0) (flr (fun _ => 0) ((16 : Nat) : Int) (-9)) (ow (fun _ => 0) ((16 : Nat) : Int))) _ _ _ _ _ _ at K3
  rw [← f3] at K3 ⊢
  have l4 := flr_loop (P := fun i g => Ws (EP Lx 50) (dd + 3) mX10_init (postM mX10_init h Q) 417 [(2, 50), (0, i)] [] g) 78 (-9) 6 (fun kk g hk => by
    show Ws (EP Lx 50) (dd + 3) mX10_init (postM mX10_init h Q) 417 [(2, 50), (0, (kk : Int))] [] g = Ws (EP Lx 50) (dd + 3) mX10_init (postM mX10_init h Q) 417 [(2, 50), (0, (kk : Int) + 1)] [] (hst g 78 kk (-9))
    rw [b_X10_init_e_417 hP, if_pos (by omega), and_tl (by omega), w32_of (by omega) (by omega)]) y3
  refine l4.mpr ?_
  show Ws (EP Lx 50) (dd + 3) mX10_init (postM mX10_init h Q) 417 [(2, 50), (0, ((6 : Nat) : Int))] [] _
  rw [b_X10_init_e_417 hP, if_neg (by decide)]
  have e4 : y3 78 = fun _ => 0 := K3.2.2.1 78 (by decide) (by decide)
  rw [e4]
  have K4 := K3.re (r := 78) (by decide) (by decide) (flr (fun _ => 0) ((6 : Nat) : Int) (-9))
  obtain ⟨y4, f4⟩ : ∃ y : Hp, y = hrow y3 78 (flr (fun _ => 0) ((6 : Nat) : Int) (-9)) := ⟨_, rfl⟩
  rw [← f4] at K4 ⊢
  exact y_post (by decide) K4 (by rw [m1]; rfl) (by rw [m2]; rfl) (hq _ K4)
