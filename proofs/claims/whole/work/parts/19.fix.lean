/-! the run of a method is its first instruction, and then the run -/
def MonoC (cal : PCal) : Prop := ∀ (M : MRec) (As : List PV) (h : Hp) (Q Q' : Int → Hp → Prop), (∀ r h, Q r h → Q' r h) → cal M As h Q → cal M As h Q'
section MONO
variable {E : PvEnv} {d : Nat} {M : MRec} {cal : PCal} {Q Q' : Int → Hp → Prop} {k k' : PKont}
theorem exCall_mono (hc : MonoC cal) (hk : ∀ pc L S h, k pc L S h → k' pc L S h) {kind idx pc : Nat} {L S : List PV} {h : Hp} (hx : exCall E d M cal kind idx pc L S h k) : exCall E d M cal kind idx pc L S h k' := by
  unfold exCall at *
  split at hx
  · rename_i kd M' e
    split at hx
    · rename_i e6
      rw [if_pos e6]
      split at hx
      · exact ⟨hx.1, hk _ _ _ _ hx.2⟩
      · exact hx.elim
    · rename_i e6
      rw [if_neg e6]
      split at hx
      · rename_i e8
        rw [if_pos e8]
        split at hx
        · exact ⟨hx.1, hk _ _ _ _ hx.2⟩
        · exact hx.elim
      · rename_i e8
        rw [if_neg e8]
        split at hx
        · rename_i e9
          rw [if_pos e9]
          split at hx
          · exact ⟨hx.1, hk _ _ _ _ hx.2⟩
          · exact hx.elim
        · rename_i e9
          rw [if_neg e9]
          split at hx
          · rename_i e10
            rw [if_pos e10]
            split at hx
            · exact ⟨hx.1, hk _ _ _ _ hx.2⟩
            · exact hx.elim
          · rename_i e10
            rw [if_neg e10]
            exact ⟨hx.1, hc _ _ _ _ _ (fun r h' hr => hk _ _ _ _ hr) hx.2⟩
  · exact hx.elim
theorem pjump_mono (hk : ∀ pc L S h, k pc L S h → k' pc L S h) {pc : Nat} {off : Int} {L S : List PV} {h : Hp} (hx : pjump pc off L S h k) : pjump pc off L S h k' := ⟨hx.1, hk _ _ _ _ hx.2⟩
theorem pif_mono (hk : ∀ pc L S h, k pc L S h → k' pc L S h) {b : Bool} {pc : Nat} {off : Int} {L S : List PV} {h : Hp} (hx : pif b pc off L S h k) : pif b pc off L S h k' := by
  refine ⟨hx.1, ?_⟩
  have h2 := hx.2
  split
  · rename_i e; rw [if_pos e] at h2; exact hk _ _ _ _ h2
  · rename_i e; rw [if_neg e] at h2; exact hk _ _ _ _ h2
theorem ex1_mono (hc : MonoC cal) (hk : ∀ pc L S h, k pc L S h → k' pc L S h) (hQ : ∀ r h, Q r h → Q' r h) {i : Instr} {len pc : Nat} {L S : List PV} {h : Hp} (hx : ex1 E d M cal Q i len pc L S h k) : ex1 E d M cal Q' i len pc L S h k' := by
  have hps : (match ps (mO M) i L S with | some q => k (pc + len) q.1 q.2 h | none => False) → (match ps (mO M) i L S with | some q => k' (pc + len) q.1 q.2 h | none => False) := fun hx => by
    cases e : ps (mO M) i L S with
    | none => rw [e] at hx; exact hx
    | some q => rw [e] at hx; exact hk _ _ _ _ hx
  have hret : ∀ t, exRet M t S h Q → exRet M t S h Q' := fun t hx => by
    unfold exRet at *
    split at hx
    · exact ⟨hx.1, hQ _ _ hx.2⟩
    · exact hx.elim
  have hld : ∀ kd t, exLd E kd t pc L S h k → exLd E kd t pc L S h k' := fun kd t hx => by
    unfold exLd at *
    split at hx
    · exact ⟨hx.1, hk _ _ _ _ hx.2⟩
    · exact hx.elim
  have hst : ∀ kd t, exSt E kd t pc L S h k → exSt E kd t pc L S h k' := fun kd t hx => by
    unfold exSt at *
    split at hx
    · exact ⟨hx.1, hk _ _ _ _ hx.2⟩
    · exact hx.elim
  cases i with
  | goto off => exact pjump_mono hk hx
  | if_icmp c off =>
    simp only [ex1] at hx ⊢
    split at hx
    · exact pif_mono hk hx
    · exact hx.elim
  | ifCond c off =>
    simp only [ex1] at hx ⊢
    split at hx
    · exact pif_mono hk hx
    · exact hx.elim
  | tableswitch df lo hi offs =>
    simp only [ex1] at hx ⊢
    split at hx
    · split at hx
      · exact pjump_mono hk hx
      · exact hx.elim
    · exact hx.elim
  | lookupswitch df prs =>
    simp only [ex1] at hx ⊢
    split at hx
    · exact ⟨hx.1, pjump_mono hk hx.2⟩
    · exact hx.elim
  | idiv =>
    simp only [ex1] at hx ⊢
    split at hx
    · exact ⟨hx.1, hk _ _ _ _ hx.2⟩
    · exact hx.elim
  | irem =>
    simp only [ex1] at hx ⊢
    split at hx
    · exact ⟨hx.1, hk _ _ _ _ hx.2⟩
    · exact hx.elim
  | ldiv =>
    simp only [ex1] at hx ⊢
    split at hx
    · exact ⟨hx.1, hk _ _ _ _ hx.2⟩
    · exact hx.elim
  | lrem =>
    simp only [ex1] at hx ⊢
    split at hx
    · exact ⟨hx.1, hk _ _ _ _ hx.2⟩
    · exact hx.elim
  | getfield idx =>
    have hx : exGet E M idx pc L S h k := hx
    show exGet E M idx pc L S h k'
    unfold exGet at *
    split at hx
    · split at hx
      · exact ⟨hx.1, hk _ _ _ _ hx.2⟩
      · exact hx.elim
    · exact hx.elim
  | putfield idx =>
    have hx : exPut E M idx pc L S h k := hx
    show exPut E M idx pc L S h k'
    unfold exPut at *
    split at hx
    · split at hx
      · exact ⟨hx.1, hk _ _ _ _ hx.2⟩
      · exact hx.elim
    · exact hx.elim
  | iaload => exact hld 11 0 hx
  | laload => exact hld 12 1 hx
  | baload => exact hld 13 0 hx
  | iastore => exact hst 11 0 hx
  | lastore => exact hst 12 1 hx
  | bastore => exact hst 13 0 hx
  | arraylength =>
    have hx : exLen E pc L S h k := hx
    show exLen E pc L S h k'
    unfold exLen at *
    split at hx
    · exact ⟨hx.1, hx.2.1, hk _ _ _ _ hx.2.2⟩
    · exact hx.elim
  | new idx =>
    have hx : exNew E M idx pc L S h k := hx
    show exNew E M idx pc L S h k'
    unfold exNew at *
    split at hx
    · exact ⟨hx.1, hk _ _ _ _ hx.2⟩
    · exact hx.elim
  | newarray ty =>
    have hx : exNewa E M ty pc L S h k := hx
    show exNewa E M ty pc L S h k'
    unfold exNewa at *
    split at hx
    · exact ⟨hx.1, hk _ _ _ _ hx.2⟩
    · exact hx.elim
  | invokestatic idx => exact exCall_mono hc hk (kind := 0) hx
  | invokevirtual idx => exact exCall_mono hc hk (kind := 2) hx
  | invokespecial idx => exact exCall_mono hc hk (kind := 4) hx
  | ireturn => exact hret 0 hx
  | lreturn => exact hret 1 hx
  | areturn => exact hret 2 hx
  | return_ =>
    simp only [ex1] at hx ⊢
    split at hx
    · exact ⟨hx.1, hQ _ _ hx.2⟩
    · exact hx.elim
  | _ => exact hps hx
theorem exI_mono (hc : MonoC cal) (hk : ∀ pc L S h, k pc L S h → k' pc L S h) (hQ : ∀ r h, Q r h → Q' r h) {pc : Nat} {L S : List PV} {h : Hp} (hx : exI E d M cal Q k pc L S h) : exI E d M cal Q' k' pc L S h := by
  unfold exI at *
  split at hx
  · split at hx
    · rename_i e2
      rw [if_pos e2]
      exact ex1_mono hc hk hQ hx
    · exact hx.elim
  · exact hx.elim
end MONO
theorem WpC_fold {E : PvEnv} {d : Nat} {M : MRec} {cal : PCal} {Q : Int → Hp → Prop} (hc : MonoC cal) {pc : Nat} {L S : List PV} {h : Hp} (hx : exI E d M cal Q (WpC E d M cal Q) pc L S h) : WpC E d M cal Q pc L S h :=
  fun P hP => hP pc L S h (exI_mono hc (fun _ _ _ _ hw => hw P hP) (fun _ _ hq => hq) hx)
theorem WpC_unfold {E : PvEnv} {d : Nat} {M : MRec} {cal : PCal} {Q : Int → Hp → Prop} (hc : MonoC cal) {pc : Nat} {L S : List PV} {h : Hp} (hw : WpC E d M cal Q pc L S h) : exI E d M cal Q (WpC E d M cal Q) pc L S h :=
  hw (fun pc L S h => exI E d M cal Q (WpC E d M cal Q) pc L S h) (fun _ _ _ _ hx => exI_mono hc (fun _ _ _ _ hy => WpC_fold hc hy) (fun _ _ hq => hq) hx)
theorem WpC_eq {E : PvEnv} {d : Nat} {M : MRec} {cal : PCal} {Q : Int → Hp → Prop} (hc : MonoC cal) (pc : Nat) (L S : List PV) (h : Hp) : WpC E d M cal Q pc L S h = exI E d M cal Q (WpC E d M cal Q) pc L S h := propext ⟨WpC_unfold hc, WpC_fold hc⟩
theorem WpC_mono {E : PvEnv} {d : Nat} {M : MRec} {cal : PCal} {Q Q' : Int → Hp → Prop} (hc : MonoC cal) (hQ : ∀ r h, Q r h → Q' r h) {pc : Nat} {L S : List PV} {h : Hp} (hw : WpC E d M cal Q pc L S h) : WpC E d M cal Q' pc L S h :=
  hw (fun pc L S h => WpC E d M cal Q' pc L S h) (fun _ _ _ _ hx => WpC_fold hc (exI_mono hc (fun _ _ _ _ hy => hy) hQ hx))
theorem wpM_mono (E : PvEnv) : ∀ d, MonoC (wpM E d)
  | 0 => fun _ _ _ _ _ _ hx => hx
  | d + 1 => fun M As h Q Q' hQ hx => WpC_mono (wpM_mono E d) (fun r h' hr => by
    unfold postM at *
    split
    · rename_i e
      rw [if_pos e] at hr
      exact ⟨hr.1, hQ _ _ hr.2⟩
    · rename_i e
      rw [if_neg e] at hr
      exact ⟨hr.1, hQ _ _ hr.2⟩) hx
/-! THE STILL MODE: nothing is made, the references that stand in the table are known -/
def wpS (E : PvEnv) : Nat → PCal
  | 0 => fun _ _ _ _ => False
  | d + 1 => fun M args h Q => WpC E d M (wpS E d) Q 0 (initL (mX M) args) [] h
theorem wpS_mono (E : PvEnv) : ∀ d, MonoC (wpS E d)
  | 0 => fun _ _ _ _ _ _ hx => hx
  | d + 1 => fun _ _ _ _ _ hQ hx => WpC_mono (wpS_mono E d) hQ hx
abbrev Ws (E : PvEnv) (d : Nat) (M : MRec) (Q : Int → Hp → Prop) (pc : Nat) (L S : List PV) (h : Hp) : Prop := WpC E d M (wpS E d) Q pc L S h
theorem Ws_eq (E : PvEnv) (d : Nat) (M : MRec) (Q : Int → Hp → Prop) (pc : Nat) (L S : List PV) (h : Hp) : Ws E d M Q pc L S h = exI E d M (wpS E d) Q (Ws E d M Q) pc L S h := WpC_eq (wpS_mono E d) pc L S h
