/-! from the still mode to the machine's: the references of the table stand in the heap -/
def RefsOK (E : PvEnv) (h : Hp) : Prop := ∀ a f : Int, 0 ≤ a → E a f ≠ -7 → h a f = E a f
def StillE (E : PvEnv) : Prop := E (-3) 0 ≠ -7 ∧ E (-3) 1 ≤ 0 ∧ ∀ a f : Int, 0 ≤ a → E a f ≠ -7 → shK a ≤ 10
def Inv3 (E : PvEnv) (n1 b1 : Int) (h : Hp) : Prop := RefsOK E h ∧ h (-3) 0 = n1 ∧ h (-3) 1 = b1
theorem Inv3.st {E : PvEnv} {n1 b1 : Int} {h : Hp} (hi : Inv3 E n1 b1 h) {a i v : Int} (ha : 0 ≤ a) (hE : E a i = -7) : Inv3 E n1 b1 (hst h a i v) := by
  refine ⟨fun a' f h0 h1 => ?_, by rw [hst_m3 h ha]; exact hi.2.1, by rw [hst_m3 h ha]; exact hi.2.2⟩
  unfold hst
  rw [if_neg (fun z => by rw [z.1, z.2] at h1; exact h1 hE)]
  exact hi.1 a' f h0 h1
section SW
variable {E E0 E1 : PvEnv} {Lx : Nat} {n1 b1 : Int} {d : Nat} {M : MRec} {Q : Int → Hp → Prop}
theorem exI_switch (hS : StillE E) (hE : E (-2) 0 = (Lx : Int)) (h0 : HpMode E0 Lx) (hn : 0 ≤ n1) {cal cal1 : PCal} {Q' : Int → Hp → Prop} (hcal : ∀ (M' : MRec) (As : List PV) (h : Hp) (Q : Int → Hp → Prop), mMc M' = 0 → Inv3 E n1 b1 h → cal M' As h Q → cal1 M' As h (fun r h' => Inv3 E n1 b1 h' ∧ Q r h')) (hmono : MonoC cal1) {k k' : PKont} (hk : ∀ pc L S h, Inv3 E n1 b1 h → k pc L S h → k' pc L S h) (hQ : ∀ r h, Inv3 E n1 b1 h → Q r h → Q' r h) {pc : Nat} {L S : List PV} {h : Hp} (hi : Inv3 E n1 b1 h) (hx : exI E d M cal Q k pc L S h) : exI E0 d M cal1 Q' k' pc L S h := by
  have hal : ∀ {r : Int}, arlen E r = arlen E0 r := fun {r} => by unfold arlen; rw [hE, h0.1]
  have hEr : ∀ {r i : Int}, 0 ≤ r → 11 ≤ shK r → E r i = -7 := fun {r i} hr hs => by
    by_cases z : E r i = -7
    · exact z
    · have := hS.2.2 r i hr z; omega
  unfold exI at *
  split at hx
  · rename_i i len hd
    split at hx
    · rename_i hl
      rw [if_pos hl]
      have hps : (match ps (mO M) i L S with | some q => k (pc + len) q.1 q.2 h | none => False) → (match ps (mO M) i L S with | some q => k' (pc + len) q.1 q.2 h | none => False) := fun hx => by
        cases e : ps (mO M) i L S with
        | none => rw [e] at hx; exact hx
        | some q => rw [e] at hx; exact hk _ _ _ _ hi hx
      have hret : ∀ t, exRet M t S h Q → exRet M t S h Q' := fun t hx => by
        unfold exRet at *
        split at hx
        · exact ⟨hx.1, hQ _ _ hi hx.2⟩
        · exact hx.elim
      have hld : ∀ kd t, exLd E kd t pc L S h k → exLd E0 kd t pc L S h k' := fun kd t hx => by
        unfold exLd at *
        split at hx
        · exact ⟨⟨hx.1.1, hx.1.2.1, by rw [← hal]; exact hx.1.2.2⟩, hk _ _ _ _ hi hx.2⟩
        · exact hx.elim
      have hst : ∀ kd t, 11 ≤ kd → exSt E kd t pc L S h k → exSt E0 kd t pc L S h k' := fun kd t hkd hx => by
        unfold exSt at *
        split at hx
        · obtain ⟨⟨⟨q1, q2, q3⟩, q4, q5, q6⟩, q7⟩ := hx
          exact ⟨⟨⟨q1, q2, by rw [← hal]; exact q3⟩, q4, q5, q6⟩, hk _ _ _ _ (hi.st q5 (hEr q5 (by omega))) q7⟩
        · exact hx.elim
      have hjp : ∀ off, pjump pc off L S h k → pjump pc off L S h k' := fun off hx => ⟨hx.1, hk _ _ _ _ hi hx.2⟩
      have hcl : ∀ kind idx, exCall E d M cal kind idx pc L S h k → exCall E0 d M cal1 kind idx pc L S h k' := fun kind idx hx => by
        unfold exCall at *
        split at hx
        · rename_i kd M' e
          split at hx
          · rename_i e6
            rw [if_pos e6]
            split at hx
            · exact ⟨hx.1, hk _ _ _ _ hi hx.2⟩
            · exact hx.elim
          · rename_i e6
            rw [if_neg e6]
            split at hx
            · rename_i e8
              rw [if_pos e8]
              split at hx
              · rename_i n dp a sp a0 S'
                refine ⟨hx.1, hk _ _ _ _ ⟨fun a' f z0 z1 => ?_, ?_, ?_⟩ hx.2⟩
                · unfold hcpy
                  rw [if_neg (fun z => by have := hS.2.2 a' f z0 z1; have := hx.1.2.1.1; rw [z.1] at *; omega)]
                  exact hi.1 a' f z0 z1
                · unfold hcpy; rw [if_neg (fun z => by have := hx.1.2.1.2.2.1; omega)]; exact hi.2.1
                · unfold hcpy; rw [if_neg (fun z => by have := hx.1.2.1.2.2.1; omega)]; exact hi.2.2
              · exact hx.elim
            · rename_i e8
              rw [if_neg e8]
              split at hx
              · rename_i e9
                rw [if_pos e9]
                split at hx
                · exact ⟨hx.1, hk _ _ _ _ hi hx.2⟩
                · exact hx.elim
              · rename_i e9
                rw [if_neg e9]
                split at hx
                · rename_i e10
                  rw [if_pos e10]
                  split at hx
                  · exact ⟨hx.1, hk _ _ _ _ hi hx.2⟩
                  · exact hx.elim
                · rename_i e10
                  rw [if_neg e10]
                  obtain ⟨⟨a1, a2, a3, a4, a5, a6, a7⟩, hc⟩ := hx
                  have hz : mMc M' = 0 := by
                    by_cases z : mMc M' = 0
                    · exact z
                    · have h1 := (a6 z).2.1
                      have h2 := hS.2.1
                      have h3 := hi.2.1
                      omega
                  exact ⟨⟨a1, a2, a3, a4, a5, fun z => absurd hz z, a7⟩, hmono _ _ _ _ _ (fun r h' hr => hk _ _ _ _ hr.1 hr.2) (hcal M' _ h _ hz hi hc)⟩
        · exact hx.elim
      cases i with
      | goto off => exact hjp off hx
      | if_icmp c off =>
        simp only [ex1] at hx ⊢
        split at hx
        · refine ⟨hx.1, ?_⟩
          have h2 := hx.2
          split
          · rename_i e; rw [if_pos e] at h2; exact hk _ _ _ _ hi h2
          · rename_i e; rw [if_neg e] at h2; exact hk _ _ _ _ hi h2
        · exact hx.elim
      | ifCond c off =>
        simp only [ex1] at hx ⊢
        split at hx
        · refine ⟨hx.1, ?_⟩
          have h2 := hx.2
          split
          · rename_i e; rw [if_pos e] at h2; exact hk _ _ _ _ hi h2
          · rename_i e; rw [if_neg e] at h2; exact hk _ _ _ _ hi h2
        · exact hx.elim
      | tableswitch df lo hi' offs =>
        simp only [ex1] at hx ⊢
        split at hx
        · split at hx
          · exact ⟨hx.1, hk _ _ _ _ hi hx.2⟩
          · exact hx.elim
        · exact hx.elim
      | lookupswitch df prs =>
        simp only [ex1] at hx ⊢
        split at hx
        · exact ⟨hx.1, hx.2.1, hk _ _ _ _ hi hx.2.2⟩
        · exact hx.elim
      | idiv =>
        simp only [ex1] at hx ⊢
        split at hx
        · exact ⟨hx.1, hk _ _ _ _ hi hx.2⟩
        · exact hx.elim
      | irem =>
        simp only [ex1] at hx ⊢
        split at hx
        · exact ⟨hx.1, hk _ _ _ _ hi hx.2⟩
        · exact hx.elim
      | ldiv =>
        simp only [ex1] at hx ⊢
        split at hx
        · exact ⟨hx.1, hk _ _ _ _ hi hx.2⟩
        · exact hx.elim
      | lrem =>
        simp only [ex1] at hx ⊢
        split at hx
        · exact ⟨hx.1, hk _ _ _ _ hi hx.2⟩
        · exact hx.elim
      | getfield idx =>
        have hx : exGet E M idx pc L S h k := hx
        show exGet E0 M idx pc L S h k'
        unfold exGet at *
        split at hx
        · rename_i a S' _
          split at hx
          · rename_i ns ci f ty fin hf
            obtain ⟨ha, hkk⟩ := hx
            have ha0 : 0 ≤ a := by have := shK_nn ha (by have := (fld_ok hf).2.1; omega); have := (fld_ok hf).2.1; omega
            refine ⟨ha, hk _ _ _ _ hi ?_⟩
            have hne : ¬ (ty = 2 ∧ E0 a f ≠ -7) := by rw [h0.2 a f ha0]; simp
            rw [if_neg hne]
            by_cases z : ty = 2 ∧ E a f ≠ -7
            · rw [if_pos z, ← hi.1 a f ha0 z.2] at hkk; exact hkk
            · rw [if_neg z] at hkk; exact hkk
          · exact hx.elim
        · exact hx.elim
      | putfield idx =>
        have hx : exPut E M idx pc L S h k := hx
        show exPut E0 M idx pc L S h k'
        unfold exPut at *
        split at hx
        · rename_i t v a S' _
          split at hx
          · rename_i ns ci f ty fin hf
            obtain ⟨⟨q1, q2, q3, q4, q5, q6⟩, hkk⟩ := hx
            have ha0 : 0 ≤ a := by have := shK_nn q1 (by have := (fld_ok hf).2.1; omega); have := (fld_ok hf).2.1; omega
            exact ⟨⟨q1, q2, q3, h0.2 a f ha0, q5, q6⟩, hk _ _ _ _ (hi.st ha0 q4) hkk⟩
          · exact hx.elim
        · exact hx.elim
      | iaload => exact hld 11 0 hx
      | laload => exact hld 12 1 hx
      | baload => exact hld 13 0 hx
      | iastore => exact hst 11 0 (by omega) hx
      | lastore => exact hst 12 1 (by omega) hx
      | bastore => exact hst 13 0 (by omega) hx
      | arraylength =>
        have hx : exLen E pc L S h k := hx
        show exLen E0 pc L S h k'
        unfold exLen at *
        split at hx
        · exact ⟨hx.1, hx.2.1, by rw [← hal]; exact hk _ _ _ _ hi hx.2.2⟩
        · exact hx.elim
      | new idx =>
        have hx : exNew E M idx pc L S h k := hx
        unfold exNew at hx
        split at hx
        · exact absurd hx.1.2.2.1 hS.1
        · exact hx.elim
      | newarray ty =>
        have hx : exNewa E M ty pc L S h k := hx
        unfold exNewa at hx
        split at hx
        · exact absurd hx.1.2.2.2.2.1 hS.1
        · exact hx.elim
      | invokestatic idx => exact hcl 0 idx hx
      | invokevirtual idx => exact hcl 2 idx hx
      | invokespecial idx => exact hcl 4 idx hx
      | ireturn => exact hret 0 hx
      | lreturn => exact hret 1 hx
      | areturn => exact hret 2 hx
      | return_ =>
        simp only [ex1] at hx ⊢
        split at hx
        · exact ⟨hx.1, hQ _ _ hi hx.2⟩
        · exact hx.elim
      | _ => exact hps hx
    · exact hx.elim
  · exact hx.elim
theorem W_switch0 (hS : StillE E) (hE : E (-2) 0 = (Lx : Int)) (h0 : HpMode E0 Lx) (hn : 0 ≤ n1) {cal cal1 : PCal} {Q' : Int → Hp → Prop} (hcal : ∀ (M' : MRec) (As : List PV) (h : Hp) (Q : Int → Hp → Prop), mMc M' = 0 → Inv3 E n1 b1 h → cal M' As h Q → cal1 M' As h (fun r h' => Inv3 E n1 b1 h' ∧ Q r h')) (hmono : MonoC cal1) (hQ : ∀ r h, Inv3 E n1 b1 h → Q r h → Q' r h) {pc : Nat} {L S : List PV} {h : Hp} (hi : Inv3 E n1 b1 h) (hx : WpC E d M cal Q pc L S h) : WpC E0 d M cal1 Q' pc L S h :=
  hx (fun pc L S h => Inv3 E n1 b1 h → WpC E0 d M cal1 Q' pc L S h) (fun _ _ _ _ hy hi' => WpC_fold hmono (exI_switch hS hE h0 hn hcal hmono (fun _ _ _ _ hj hz => hz hj) hQ hi' hy)) hi
theorem wpM_switch (hS : StillE E) (hE : E (-2) 0 = (Lx : Int)) (h0 : HpMode E0 Lx) (hn : 0 ≤ n1) : ∀ (d : Nat) (M : MRec) (As : List PV) (h : Hp) (Q : Int → Hp → Prop), mMc M = 0 → Inv3 E n1 b1 h → wpS E d M As h Q → wpM E0 d M As h (fun r h' => Inv3 E n1 b1 h' ∧ Q r h')
  | 0, _, _, _, _, _, _, hx => hx
  | d + 1, M, As, h, Q, hm, hi, hx => by
    show WpC (setLim E0 M h) d M (wpM E0 d) (postM M h _) 0 (initL (mX M) As) [] h
    have e1 : setLim E0 M h = E0 := by unfold setLim; rw [if_pos hm]
    rw [e1]
    refine W_switch0 hS hE h0 hn (wpM_switch hS hE h0 hn d) (wpM_mono E0 d) (fun r h' hj hq => ?_) hi hx
    unfold postM
    rw [if_pos hm]
    exact ⟨⟨by rw [hj.2.1, hi.2.1], by rw [hj.2.2, hi.2.2]⟩, hj, hq⟩
/-- in the middle of a method -/
theorem W_switch (hS : StillE E) (hE : E (-2) 0 = (Lx : Int)) (h0 : HpMode E0 Lx) (h1 : HpMode E1 Lx) {Q' : Int → Hp → Prop} {pc : Nat} {L S : List PV} {h : Hp} (hn : 0 ≤ h (-3) 0) (hr : RefsOK E h) (hQ : ∀ r h', RefsOK E h' → h' (-3) 0 = h (-3) 0 → h' (-3) 1 = h (-3) 1 → Q r h' → Q' r h') (hx : Ws E d M Q pc L S h) : WpC E0 d M (wpM E1 d) Q' pc L S h :=
  W_switch0 (n1 := h (-3) 0) (b1 := h (-3) 1) hS hE h0 hn (wpM_switch hS hE h1 hn d) (wpM_mono E1 d) (fun r h' hj hq => hQ r h' hj.1 hj.2.1 hj.2.2 hq) ⟨hr, rfl, rfl⟩ hx
end SW
