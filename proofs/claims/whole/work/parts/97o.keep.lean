/-! the script is never written -/
section KP
variable {E : PvEnv} {d : Nat} {M : MRec} {Q : Int → Hp → Prop}
theorem exI_keep (hS : E (-3) 0 ≠ -7) {x : Int → Int} {cal : PCal} {Q' : Int → Hp → Prop} (hcal : ∀ (M' : MRec) (As : List PV) (h : Hp) (Q : Int → Hp → Prop), h (-2) = x → cal M' As h Q → cal M' As h (fun r h' => h' (-2) = x ∧ Q r h')) (hmono : MonoC cal) {k k' : PKont} (hk : ∀ pc L S h, h (-2) = x → k pc L S h → k' pc L S h) (hQ : ∀ r h, h (-2) = x → Q r h → Q' r h) {pc : Nat} {L S : List PV} {h : Hp} (hi : h (-2) = x) (hx : exI E d M cal Q k pc L S h) : exI E d M cal Q' k' pc L S h := by
  have hst2 : ∀ {a i v : Int}, 0 ≤ a → hst h a i v (-2) = x := fun {a i v} ha => by rw [hst_off _ (by omega)]; exact hi
  unfold exI at *
  split at hx
  · rename_i i len hd
    split at hx
    · rename_i hl
      rw [if_pos hl]
      have hps : (match ps (mO M) i L S with | some q => k (pc + len) q.1 q.2 h | none => False) → (match ps (mO M) i L S with | some q => k' (pc + len) q.1 q.2 h | none => False) := fun hx => by
        cases e : ps (mO M) i L S with
        | none => rw [e] at hx; exact hx
        | some q => rw [e] at hx; exact hk _ _ _ _ hi hx
      have hret : ∀ t, exRet M t S h Q → exRet M t S h Q' := fun t hx => by
        unfold exRet at *
        split at hx
        · exact ⟨hx.1, hQ _ _ hi hx.2⟩
        · exact hx.elim
      have hld : ∀ kd t, exLd E kd t pc L S h k → exLd E kd t pc L S h k' := fun kd t hx => by
        unfold exLd at *
        split at hx
        · exact ⟨hx.1, hk _ _ _ _ hi hx.2⟩
        · exact hx.elim
      have hst : ∀ kd t, exSt E kd t pc L S h k → exSt E kd t pc L S h k' := fun kd t hx => by
        unfold exSt at *
        split at hx
        · exact ⟨hx.1, hk _ _ _ _ (hst2 hx.1.2.2.1) hx.2⟩
        · exact hx.elim
      have hjp : ∀ off, pjump pc off L S h k → pjump pc off L S h k' := fun off hx => ⟨hx.1, hk _ _ _ _ hi hx.2⟩
      have hcl : ∀ kind idx, exCall E d M cal kind idx pc L S h k → exCall E d M cal kind idx pc L S h k' := fun kind idx hx => by
        unfold exCall at *
        split at hx
        · rename_i kd M' e
          split at hx
          · rename_i e6
            rw [if_pos e6]
            split at hx
            · exact ⟨hx.1, hk _ _ _ _ hi hx.2⟩
            · exact hx.elim
          · rename_i e6
            rw [if_neg e6]
            split at hx
            · rename_i e8
              rw [if_pos e8]
              split at hx
              · rename_i n dp a sp a0 S'
                refine ⟨hx.1, hk _ _ _ _ ?_ hx.2⟩
                funext i
                unfold hcpy
                rw [if_neg (fun z => by have := hx.1.2.1.2.2.1; omega), hi]
              · exact hx.elim
            · rename_i e8
              rw [if_neg e8]
              split at hx
              · rename_i e9
                rw [if_pos e9]
                split at hx
                · exact ⟨hx.1, hk _ _ _ _ hi hx.2⟩
                · exact hx.elim
              · rename_i e9
                rw [if_neg e9]
                split at hx
                · rename_i e10
                  rw [if_pos e10]
                  split at hx
                  · exact ⟨hx.1, hk _ _ _ _ hi hx.2⟩
                  · exact hx.elim
                · rename_i e10
                  rw [if_neg e10]
                  exact ⟨hx.1, hmono _ _ _ _ _ (fun r h' hr => hk _ _ _ _ hr.1 hr.2) (hcal M' _ h _ hi hx.2)⟩
        · exact hx.elim
      cases i with
      | goto off => exact hjp off hx
      | if_icmp c off =>
        simp only [ex1] at hx ⊢
        split at hx
        · refine ⟨hx.1, ?_⟩
          have h2 := hx.2
          split
          · rename_i e; rw [if_pos e] at h2; exact hk _ _ _ _ hi h2
          · rename_i e; rw [if_neg e] at h2; exact hk _ _ _ _ hi h2
        · exact hx.elim
      | ifCond c off =>
        simp only [ex1] at hx ⊢
        split at hx
        · refine ⟨hx.1, ?_⟩
          have h2 := hx.2
          split
          · rename_i e; rw [if_pos e] at h2; exact hk _ _ _ _ hi h2
          · rename_i e; rw [if_neg e] at h2; exact hk _ _ _ _ hi h2
        · exact hx.elim
      | tableswitch df lo hi' offs =>
        simp only [ex1] at hx ⊢
        split at hx
        · split at hx
          · exact ⟨hx.1, hk _ _ _ _ hi hx.2⟩
          · exact hx.elim
        · exact hx.elim
      | lookupswitch df prs =>
        simp only [ex1] at hx ⊢
        split at hx
        · exact ⟨hx.1, hx.2.1, hk _ _ _ _ hi hx.2.2⟩
        · exact hx.elim
      | idiv =>
        simp only [ex1] at hx ⊢
        split at hx
        · exact ⟨hx.1, hk _ _ _ _ hi hx.2⟩
        · exact hx.elim
      | irem =>
        simp only [ex1] at hx ⊢
        split at hx
        · exact ⟨hx.1, hk _ _ _ _ hi hx.2⟩
        · exact hx.elim
      | ldiv =>
        simp only [ex1] at hx ⊢
        split at hx
        · exact ⟨hx.1, hk _ _ _ _ hi hx.2⟩
        · exact hx.elim
      | lrem =>
        simp only [ex1] at hx ⊢
        split at hx
        · exact ⟨hx.1, hk _ _ _ _ hi hx.2⟩
        · exact hx.elim
      | getfield idx =>
        have hx : exGet E M idx pc L S h k := hx
        show exGet E M idx pc L S h k'
        unfold exGet at *
        split at hx
        · split at hx
          · exact ⟨hx.1, hk _ _ _ _ hi hx.2⟩
          · exact hx.elim
        · exact hx.elim
      | putfield idx =>
        have hx : exPut E M idx pc L S h k := hx
        show exPut E M idx pc L S h k'
        unfold exPut at *
        split at hx
        · rename_i t v a S' _
          split at hx
          · rename_i ns ci f ty fin hf
            have ha0 : 0 ≤ a := by have := shK_nn hx.1.1 (by have := (fld_ok hf).2.1; omega); have := (fld_ok hf).2.1; omega
            exact ⟨hx.1, hk _ _ _ _ (hst2 ha0) hx.2⟩
          · exact hx.elim
        · exact hx.elim
      | iaload => exact hld 11 0 hx
      | laload => exact hld 12 1 hx
      | baload => exact hld 13 0 hx
      | iastore => exact hst 11 0 hx
      | lastore => exact hst 12 1 hx
      | bastore => exact hst 13 0 hx
      | arraylength =>
        have hx : exLen E pc L S h k := hx
        show exLen E pc L S h k'
        unfold exLen at *
        split at hx
        · exact ⟨hx.1, hx.2.1, hk _ _ _ _ hi hx.2.2⟩
        · exact hx.elim
      | new idx =>
        have hx : exNew E M idx pc L S h k := hx
        unfold exNew at hx
        split at hx
        · exact absurd hx.1.2.2.1 hS
        · exact hx.elim
      | newarray ty =>
        have hx : exNewa E M ty pc L S h k := hx
        unfold exNewa at hx
        split at hx
        · exact absurd hx.1.2.2.2.2.1 hS
        · exact hx.elim
      | invokestatic idx => exact hcl 0 idx hx
      | invokevirtual idx => exact hcl 2 idx hx
      | invokespecial idx => exact hcl 4 idx hx
      | ireturn => exact hret 0 hx
      | lreturn => exact hret 1 hx
      | areturn => exact hret 2 hx
      | return_ =>
        simp only [ex1] at hx ⊢
        split at hx
        · exact ⟨hx.1, hQ _ _ hi hx.2⟩
        · exact hx.elim
      | _ => exact hps hx
    · exact hx.elim
  · exact hx.elim
theorem wpS_keep (hS : E (-3) 0 ≠ -7) (x : Int → Int) : ∀ (d : Nat) (M : MRec) (As : List PV) (h : Hp) (Q : Int → Hp → Prop), h (-2) = x → wpS E d M As h Q → wpS E d M As h (fun r h' => h' (-2) = x ∧ Q r h')
  | 0, _, _, _, _, _, hx => hx
  | d + 1, M, As, h, Q, hi, hx => by
    have hx : WpC E d M (wpS E d) Q 0 (initL (mX M) As) [] h := hx
    show WpC E d M (wpS E d) _ 0 (initL (mX M) As) [] h
    exact hx (fun pc L S h => h (-2) = x → WpC E d M (wpS E d) (fun r h' => h' (-2) = x ∧ Q r h') pc L S h) (fun _ _ _ _ hy hi' => WpC_fold (wpS_mono E d) (exI_keep hS (wpS_keep hS x d) (wpS_mono E d) (fun _ _ _ _ hj hz => hz hj) (fun _ _ hj hq => ⟨hj, hq⟩) hi' hy)) hi
end KP
theorem law_case {n : Int} {Mx Mm : MRec} {as : List PV} {g : Hp} (hp : Pr n Mx Mm as) (hC : Cpl g) : ∃ a h1 h2, (∀ Q : Int → Hp → Prop, wpS (EF n) 9 Mx ((2, 0) :: as) g Q = Q a h1) ∧ (∀ Q : Int → Hp → Prop, wpS (EF n) 9 Mm ((2, 50) :: as) h1 Q = Q a h2) ∧ Cpl h2 ∧ h1 (-2) = g (-2) ∧ h2 (-2) = g (-2) := by
  obtain ⟨a, h1, h2, e1, e2, hC2⟩ := hp g hC
  have hS : EF n (-3) 0 ≠ -7 := by show (0 : Int) ≠ -7; decide
  have q1 : wpS (EF n) 9 Mx ((2, 0) :: as) g (fun _ _ => True) := by rw [e1]; trivial
  have q2 := wpS_keep hS (g (-2)) 9 _ _ _ _ rfl q1
  rw [e1] at q2
  have q3 : wpS (EF n) 9 Mm ((2, 50) :: as) h1 (fun _ _ => True) := by rw [e2]; trivial
  have q4 := wpS_keep hS (g (-2)) 9 _ _ _ _ q2.1 q3
  rw [e2] at q4
  exact ⟨a, h1, h2, e1, e2, hC2, q2.1, q4.1⟩
