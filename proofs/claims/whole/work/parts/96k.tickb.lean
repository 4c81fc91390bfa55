/-! tick -/
theorem MF_of {h g : Hp} (hC : Cpl h) (e62 : g 62 = h 62) (e57 : g 57 = h 57) (e59 : g 59 = h 59) (e58 : g 58 = h 58) (e50 : g 50 = h 50) : MF (h 12) (h 13) (h 19) (h 7 0) (h 7 1) (h 7 2) g := by
  obtain ⟨c1, c2, c3, c4, c5, c6, c7, c8, c9, c10, c11, c12, c13, c14, c15⟩ := hC
  refine ⟨⟨fun s h0 h1 => ?_, fun c hc => ?_, fun c hc => (c7.2.1 c hc.1 hc.2).1.1, ?_, ?_, ?_⟩, fun c hc kc => ?_⟩
  · rw [e62]; exact c7.2.2.2 s h0 h1
  · rw [e57, e59]; exact ⟨cw_T c7 hc, fun k => (cw_e c7 hc k).1⟩
  · rw [e50]; exact c5.1.1
  · rw [e50]; exact c5.1.2.1
  · rw [e50]; exact c5.1.2.2
  · rw [e58]; exact (cw_e c7 hc kc).2.1
theorem mt_c {T K A X g c g' c' : Int → Int} (e : ∀ j : Int, isN j → g j = g' j ∧ c j = c' j) : mtA T K A g c 336 = mtA T K A g' c' 336 ∧ mtX T K A X c 336 = mtX T K A X c' 336 := by
  constructor
  · funext j
    unfold mtA
    by_cases z : 0 ≤ j ∧ j < ((336 : Nat) : Int)
    · rw [(e j ⟨z.1, by omega⟩).1, (e j ⟨z.1, by omega⟩).2]
    · rw [if_neg (fun q => z q.1), if_neg (fun q => z q.1)]
  · funext j
    unfold mtX
    by_cases z : 0 ≤ j ∧ j < ((336 : Nat) : Int)
    · rw [(e j ⟨z.1, by omega⟩).2]
    · rw [if_neg (fun q => z q.1), if_neg (fun q => z q.1)]
theorem Cpl_tick {h FF : Hp} {t : Int} (hC : Cpl h) (FO : ∀ a : Int, (a < 11 ∨ (15 < a ∧ a < 19) ∨ (19 < a ∧ a < 26) ∨ (29 < a ∧ a < 50) ∨ (50 < a ∧ a < 57) ∨ 73 < a) → FF a = h a) (F50 : ∀ i : Int, (i < 28 ∨ 44 < i) → FF 50 i = h 50 i) (w : CWld (FF 11 8) (FF 50 28) (FF 12) (FF 13) (FF 14) (FF 15) (FF 19) (FF 57) (FF 58) (FF 59) (FF 60) (FF 61) (FF 62)) (l : CLay (FF 11 9) (h 20 6) (h 21) (h 22) (h 23) (h 24) (h 25) (FF 12) (FF 19)) (f : CFlo (FF 26 4) (FF 26 5) (FF 27) (FF 50 33) (FF 65) (FF 66) (FF 67)) (o : FF 50 43 = FF 26 6 ∧ FF 50 44 = FF 26 7) : Cpl FF := by
  obtain ⟨c1, c2, c3, c4, c5, c6, c7, c8, c9, c10, c11, c12, c13, c14, c15⟩ := hC
  unfold Cpl
  rw [FO 0 (by decide), FO 49 (by decide), FO 2 (by decide), FO 3 (by decide), FO 5 (by decide), FO 6 (by decide), FO 7 (by decide), FO 16 (by decide), FO 17 (by decide), FO 18 (by decide), FO 20 (by decide), FO 21 (by decide), FO 22 (by decide), FO 23 (by decide), FO 24 (by decide), FO 25 (by decide), FO 31 (by decide), FO 32 (by decide), FO 33 (by decide), FO 37 (by decide), FO 38 (by decide), FO 39 (by decide), FO 40 (by decide), FO 41 (by decide), FO 42 (by decide), FO 43 (by decide), FO 44 (by decide), FO 45 (by decide), FO 48 (by decide), FO 51 (by decide), FO 52 (by decide), FO 53 (by decide), FO 55 (by decide), FO 56 (by decide), FO 74 (by decide), FO 78 (by decide), FO 79 (by decide), FO 81 (by decide), FO 82 (by decide), FO 83 (by decide), FO 84 (by decide), FO 85 (by decide), FO 86 (by decide), F50 0 (by decide), F50 2 (by decide), F50 3 (by decide), F50 4 (by decide), F50 10 (by decide), F50 11 (by decide), F50 12 (by decide), F50 13 (by decide), F50 14 (by decide)]
  exact ⟨c1, c2, c3, c4, c5, c6, w, l, f, o, c11, c12, c13, c14, c15⟩
