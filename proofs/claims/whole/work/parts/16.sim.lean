/-! THE STEP: every instruction of the picture is one of the machine -/
def HpMode (E : PvEnv) (Lx : Nat) : Prop := E (-2) 0 = (Lx : Int) ∧ ∀ a f : Int, 0 ≤ a → E a f = -7
def RetOK (p : Program) (l : Launch) (e : Env) (R : Room) (s : State) (m : MethodId) (args : Array Value) (below : List Frame) (meth : Method) (c : Code) (Zf : State → Prop) (M : MRec) (B sb Lx : Nat) (xs : Nat → Int32) (D : va_G) (cI cJ cZ : ClassId) (n0 b0 : Int) (Q : Int → Hp → Prop) : Prop :=
  ∀ (pc : Nat) (v : Int) (h : Hp) (H : Heap) (locs : List Loc) (cells slots : Nat) (ls : Array Slot), (rtg (mT M) = 9 → mT M = none) → (rtg (mT M) ≠ 9 → okv (h (-3) 0) (rtg (mT M), v)) → (mT M = some .boolean → isBit v) → ((rtg (mT M) = 0 ∧ decode (mC M) pc = .ok (.ireturn, 1)) ∨ (rtg (mT M) = 1 ∧ decode (mC M) pc = .ok (.lreturn, 1)) ∨ (rtg (mT M) = 2 ∧ decode (mC M) pc = .ok (.areturn, 1)) ∨ (rtg (mT M) = 9 ∧ decode (mC M) pc = .ok (.return_, 1))) → Q v h → HRel B sb D cI cJ cZ h H → va_S (fun q => B ≤ q) s.heap H locs → ((cells : Int) = h (-3) 0 - n0 ∧ (slots : Int) = h (-3) 1 - b0 ∧ cells ≤ R.cells ∧ slots ≤ R.slots) → ScrOK Lx xs h → W p l e R s m args below meth c H locs cells slots Zf (F0 m pc ls (rvl B sb (mT M) v).toList)
section SIM
variable {p : Program} {l : Launch} {e : Env} {R : Room} {s : State} {m : MethodId} {args : Array Value} {below : List Frame} {meth : Method} {c : Code} {Zf : State → Prop} {M : MRec} {B sb Lx : Nat} {xs : Nat → Int32} {D : va_G} {cI cJ cZ : ClassId} {d : Nat} {n0 b0 : Int}
theorem ss_ret (C : Cx p R s m args meth c M B sb Lx xs D cI cJ cZ d n0) {Q : Int → Hp → Prop} (hret : RetOK p l e R s m args below meth c Zf M B sb Lx xs D cI cJ cZ n0 b0 Q) {t pc : Nat} {L S : List PV} {h : Hp} (ht : t ≤ 2) (hd : (t = 0 ∧ decode (mC M) pc = .ok (.ireturn, 1)) ∨ (t = 1 ∧ decode (mC M) pc = .ok (.lreturn, 1)) ∨ (t = 2 ∧ decode (mC M) pc = .ok (.areturn, 1))) (hx : exRet M t S h Q) : SimP p l e R s m args below meth c Zf M B sb Lx xs D cI cJ cZ n0 b0 pc L S h := by
  unfold exRet at hx
  split at hx
  · rename_i t' v
    obtain ⟨⟨e1, e2, e3⟩, hq⟩ := hx
    subst e1
    intro H locs cells slots ls hH hS hL hO hc hsc
    have hv := hO _ List.mem_cons_self
    have h9 : rtg (mT M) ≠ 9 := by omega
    have K := hret pc v h H locs cells slots ls (fun z => absurd z h9) (fun _ => by rw [e2]; exact hv) e3 (by rw [e2]; exact hd.elim Or.inl (fun z => Or.inr (z.elim Or.inl (fun z => Or.inr (Or.inl z))))) hq hH hS hc hsc
    unfold rvl at K
    rw [if_neg h9, e2] at K
    exact K
  · exact hx.elim
theorem ss_call (C : Cx p R s m args meth c M B sb Lx xs D cI cJ cZ d n0) {E E1 : PvEnv} (hE : HpMode E Lx) (hlim : mMc M ≠ 0 → E (-3) 1 = n0 + mMc M ∧ E (-3) 2 = b0 + mMs M) (hM : MetD l B sb Lx xs D cI cJ cZ E1 d) {kind pc idx : Nat} {L S : List PV} {h : Hp} (hd : (kind = 0 ∧ decode (mC M) pc = .ok (.invokestatic idx, 3)) ∨ (kind = 2 ∧ decode (mC M) pc = .ok (.invokevirtual idx, 3)) ∨ (kind = 4 ∧ decode (mC M) pc = .ok (.invokespecial idx, 3))) (hx : exCall E d M (wpM E1 d) kind idx pc L S h (SimP p l e R s m args below meth c Zf M B sb Lx xs D cI cJ cZ n0 b0)) : SimP p l e R s m args below meth c Zf M B sb Lx xs D cI cJ cZ n0 b0 pc L S h := by
  unfold exCall at hx
  split at hx
  · rename_i kd M' hcal
    split at hx
    · rename_i e6
      subst e6
      split at hx
      · obtain ⟨⟨h1, h2, h3, h4⟩, hk⟩ := hx
        rcases hd with ⟨z, hdg⟩ | ⟨z, hdg⟩ | ⟨z, hdg⟩
        · omega
        · omega
        · exact sd_obj C h3 hdg hcal h2 h4 hk
      · exact hx.elim
    · rename_i e6
      split at hx
      · rename_i e8
        subst e8
        split at hx
        · obtain ⟨⟨⟨h1, h2, h3⟩, ⟨h4, h5, h6, h7⟩, h8, h9, h10, h11, h12⟩, hk⟩ := hx
          rcases hd with ⟨z, hdg⟩ | ⟨z, hdg⟩ | ⟨z, hdg⟩
          · exact sd_copy C h3 hdg hcal h2 h4 h5 h6 h7 h8 h9 h10 h11 h12 hk
          · omega
          · omega
        · exact hx.elim
      · rename_i e8
        split at hx
        · rename_i e9
          subst e9
          split at hx
          · obtain ⟨⟨h1, h2, h3⟩, hk⟩ := hx
            rcases hd with ⟨z, hdg⟩ | ⟨z, hdg⟩ | ⟨z, hdg⟩
            · exact sd_max C h3 hdg hcal h2 hk
            · omega
            · omega
          · exact hx.elim
        · rename_i e9
          split at hx
          · rename_i e10
            subst e10
            split at hx
            · obtain ⟨⟨h1, h2, h3⟩, hk⟩ := hx
              rcases hd with ⟨z, hdg⟩ | ⟨z, hdg⟩ | ⟨z, hdg⟩
              · exact sd_min C h3 hdg hcal h2 hk
              · omega
              · omega
            · exact hx.elim
          · rename_i e10
            obtain ⟨ha, hk⟩ := hx
            have hd0 : d ≠ 0 := by
              intro z
              subst z
              exact hk
            have hS : S = ((S.take (mA M').length).reverse).reverse ++ S.drop (mA M').length := by rw [List.reverse_reverse, List.take_append_drop]
            rw [hS]
            exact sc_call C hlim hM hd0 hd hcal e6 e8 e9 e10 ha hk
  · exact hx.elim
theorem ss_ps (C : Cx p R s m args meth c M B sb Lx xs D cI cJ cZ d n0) {i : Instr} {len pc : Nat} {L S : List PV} {h : Hp} (hd : decode (mC M) pc = .ok (i, len)) (hl : lenOK i len = true) (hx : match ps (mO M) i L S with | some q => SimP p l e R s m args below meth c Zf M B sb Lx xs D cI cJ cZ n0 b0 (pc + len) q.1 q.2 h | none => False) : SimP p l e R s m args below meth c Zf M B sb Lx xs D cI cJ cZ n0 b0 pc L S h := by
  cases hp : ps (mO M) i L S with
  | none => rw [hp] at hx; exact hx.elim
  | some q =>
    rw [hp] at hx
    have hx : SimP p l e R s m args below meth c Zf M B sb Lx xs D cI cJ cZ n0 b0 (pc + len) q.1 q.2 h := hx
    cases i with
    | iconst x0 => obtain rfl : len = 1 := (beq_iff_eq (α := Nat)).mp hl; exact sp_iconst C hd hp hx
    | bipush x0 => obtain rfl : len = 2 := (beq_iff_eq (α := Nat)).mp hl; exact sp_bipush C hd hp hx
    | sipush x0 => obtain rfl : len = 3 := (beq_iff_eq (α := Nat)).mp hl; exact sp_sipush C hd hp hx
    | lconst x0 => obtain rfl : len = 1 := (beq_iff_eq (α := Nat)).mp hl; exact sp_lconst C hd hp hx
    | ldc x0 => obtain rfl : len = 2 := (beq_iff_eq (α := Nat)).mp hl; exact sp_ldc C hd hp hx
    | ldc2_w x0 => obtain rfl : len = 3 := (beq_iff_eq (α := Nat)).mp hl; exact sp_ldc2 C hd hp hx
    | iload x0 => obtain rfl : len = 2 := (beq_iff_eq (α := Nat)).mp hl; exact sp_iload C hd hp hx
    | iload_n x0 => obtain rfl : len = 1 := (beq_iff_eq (α := Nat)).mp hl; exact sp_iload_n C hd hp hx
    | lload x0 => obtain rfl : len = 2 := (beq_iff_eq (α := Nat)).mp hl; exact sp_lload C hd hp hx
    | lload_n x0 => obtain rfl : len = 1 := (beq_iff_eq (α := Nat)).mp hl; exact sp_lload_n C hd hp hx
    | aload x0 => obtain rfl : len = 2 := (beq_iff_eq (α := Nat)).mp hl; exact sp_aload C hd hp hx
    | aload_n x0 => obtain rfl : len = 1 := (beq_iff_eq (α := Nat)).mp hl; exact sp_aload_n C hd hp hx
    | istore x0 => obtain rfl : len = 2 := (beq_iff_eq (α := Nat)).mp hl; exact sp_istore C hd hp hx
    | istore_n x0 => obtain rfl : len = 1 := (beq_iff_eq (α := Nat)).mp hl; exact sp_istore_n C hd hp hx
    | lstore x0 => obtain rfl : len = 2 := (beq_iff_eq (α := Nat)).mp hl; exact sp_lstore C hd hp hx
    | lstore_n x0 => obtain rfl : len = 1 := (beq_iff_eq (α := Nat)).mp hl; exact sp_lstore_n C hd hp hx
    | astore x0 => obtain rfl : len = 2 := (beq_iff_eq (α := Nat)).mp hl; exact sp_astore C hd hp hx
    | astore_n x0 => obtain rfl : len = 1 := (beq_iff_eq (α := Nat)).mp hl; exact sp_astore_n C hd hp hx
    | iinc x0 x1 => obtain rfl : len = 3 := (beq_iff_eq (α := Nat)).mp hl; exact sp_iinc C hd hp hx
    | iadd  => obtain rfl : len = 1 := (beq_iff_eq (α := Nat)).mp hl; exact sp_iadd C hd hp hx
    | isub  => obtain rfl : len = 1 := (beq_iff_eq (α := Nat)).mp hl; exact sp_isub C hd hp hx
    | imul  => obtain rfl : len = 1 := (beq_iff_eq (α := Nat)).mp hl; exact sp_imul C hd hp hx
    | iand  => obtain rfl : len = 1 := (beq_iff_eq (α := Nat)).mp hl; exact sp_iand C hd hp hx
    | ior  => obtain rfl : len = 1 := (beq_iff_eq (α := Nat)).mp hl; exact sp_ior C hd hp hx
    | ixor  => obtain rfl : len = 1 := (beq_iff_eq (α := Nat)).mp hl; exact sp_ixor C hd hp hx
    | ishl  => obtain rfl : len = 1 := (beq_iff_eq (α := Nat)).mp hl; exact sp_ishl C hd hp hx
    | ishr  => obtain rfl : len = 1 := (beq_iff_eq (α := Nat)).mp hl; exact sp_ishr C hd hp hx
    | ladd  => obtain rfl : len = 1 := (beq_iff_eq (α := Nat)).mp hl; exact sp_ladd C hd hp hx
    | lsub  => obtain rfl : len = 1 := (beq_iff_eq (α := Nat)).mp hl; exact sp_lsub C hd hp hx
    | lmul  => obtain rfl : len = 1 := (beq_iff_eq (α := Nat)).mp hl; exact sp_lmul C hd hp hx
    | lcmp  => obtain rfl : len = 1 := (beq_iff_eq (α := Nat)).mp hl; exact sp_lcmp C hd hp hx
    | i2l  => obtain rfl : len = 1 := (beq_iff_eq (α := Nat)).mp hl; exact sp_i2l C hd hp hx
    | l2i  => obtain rfl : len = 1 := (beq_iff_eq (α := Nat)).mp hl; exact sp_l2i C hd hp hx
    | i2b  => obtain rfl : len = 1 := (beq_iff_eq (α := Nat)).mp hl; exact sp_i2b C hd hp hx
    | dup  => obtain rfl : len = 1 := (beq_iff_eq (α := Nat)).mp hl; exact sp_dup C hd hp hx
    | dup2  => obtain rfl : len = 1 := (beq_iff_eq (α := Nat)).mp hl; exact sp_dup2 C hd hp hx
    | pop  => obtain rfl : len = 1 := (beq_iff_eq (α := Nat)).mp hl; exact sp_pop C hd hp hx
    | _ => cases hp
theorem ss_step (C : Cx p R s m args meth c M B sb Lx xs D cI cJ cZ d n0) {E E1 : PvEnv} (hE : HpMode E Lx) (hlim : mMc M ≠ 0 → E (-3) 1 = n0 + mMc M ∧ E (-3) 2 = b0 + mMs M) (hM : MetD l B sb Lx xs D cI cJ cZ E1 d) {Q : Int → Hp → Prop} (hret : RetOK p l e R s m args below meth c Zf M B sb Lx xs D cI cJ cZ n0 b0 Q) {pc : Nat} {L S : List PV} {h : Hp} (hx : exI E d M (wpM E1 d) Q (SimP p l e R s m args below meth c Zf M B sb Lx xs D cI cJ cZ n0 b0) pc L S h) : SimP p l e R s m args below meth c Zf M B sb Lx xs D cI cJ cZ n0 b0 pc L S h := by
  unfold exI at hx
  split at hx
  · rename_i i len hd
    split at hx
    · rename_i hl
      cases i with
      | goto off =>
        obtain rfl : len = 3 := (beq_iff_eq (α := Nat)).mp hl
        exact sj_goto C hd hx
      | if_icmp cd off =>
        obtain rfl : len = 3 := (beq_iff_eq (α := Nat)).mp hl
        simp only [ex1] at hx
        split at hx
        · exact sj_icmp C hx.1 hd hx.2
        · exact hx.elim
      | ifCond cd off =>
        obtain rfl : len = 3 := (beq_iff_eq (α := Nat)).mp hl
        simp only [ex1] at hx
        split at hx
        · exact sj_if C hx.1 hd hx.2
        · exact hx.elim
      | tableswitch df lo hi offs =>
        simp only [ex1] at hx
        split at hx
        · split at hx
          · rename_i off hs
            exact sj_tab C hd hs hx
          · exact hx.elim
        · exact hx.elim
      | lookupswitch df prs =>
        simp only [ex1] at hx
        split at hx
        · exact sj_look C hd hx.1 hx.2
        · exact hx.elim
      | idiv =>
        obtain rfl : len = 1 := (beq_iff_eq (α := Nat)).mp hl
        simp only [ex1] at hx
        split at hx
        · exact sj_idiv C hd hx.1 hx.2
        · exact hx.elim
      | irem =>
        obtain rfl : len = 1 := (beq_iff_eq (α := Nat)).mp hl
        simp only [ex1] at hx
        split at hx
        · exact sj_irem C hd hx.1 hx.2
        · exact hx.elim
      | ldiv =>
        obtain rfl : len = 1 := (beq_iff_eq (α := Nat)).mp hl
        simp only [ex1] at hx
        split at hx
        · exact sj_ldiv C hd hx.1 hx.2
        · exact hx.elim
      | lrem =>
        obtain rfl : len = 1 := (beq_iff_eq (α := Nat)).mp hl
        simp only [ex1] at hx
        split at hx
        · exact sj_lrem C hd hx.1 hx.2
        · exact hx.elim
      | getfield idx =>
        obtain rfl : len = 3 := (beq_iff_eq (α := Nat)).mp hl
        have hx : exGet E M idx pc L S h _ := hx
        unfold exGet at hx
        split at hx
        · rename_i a S' _
          split at hx
          · rename_i ns ci f ty fin hf
            obtain ⟨ha, hk⟩ := hx
            have ha0 : 0 ≤ a := by have := shK_nn ha (by have := (fld_ok hf).2.1; omega); have := (fld_ok hf).2.1; omega
            have hne : ¬ (ty = 2 ∧ E a f ≠ -7) := by rw [hE.2 a f ha0]; simp
            rw [if_neg hne] at hk
            exact sh_get C hd hf ha hk
          · exact hx.elim
        · exact hx.elim
      | putfield idx =>
        obtain rfl : len = 3 := (beq_iff_eq (α := Nat)).mp hl
        have hx : exPut E M idx pc L S h _ := hx
        unfold exPut at hx
        split at hx
        · rename_i t v a S' _
          split at hx
          · rename_i ns ci f ty fin hf
            obtain ⟨⟨h1, h2, h3, h4, h5, h6⟩, hk⟩ := hx
            exact sh_put C hd hf h1 h2 h3 h5 h6 hk
          · exact hx.elim
        · exact hx.elim
      | iaload =>
        obtain rfl : len = 1 := (beq_iff_eq (α := Nat)).mp hl
        have hx : exLd E 11 0 pc L S h _ := hx
        unfold exLd at hx
        split at hx
        · rename_i i r S' _
          obtain ⟨⟨h1, h2, h3⟩, hk⟩ := hx
          rcases shK_nn h1 (by omega) with ⟨e1, e2⟩ | h0
          · subst e1
            rw [arlen_s, hE.1] at h3
            exact sa_sld C hd h2 h3 hk
          · rw [arlen_nn E h0] at h3
            exact sa_ild (E := E) C hd h1 h0 h2 h3 hk
        · exact hx.elim
      | laload =>
        obtain rfl : len = 1 := (beq_iff_eq (α := Nat)).mp hl
        have hx : exLd E 12 1 pc L S h _ := hx
        unfold exLd at hx
        split at hx
        · rename_i i r S' _
          obtain ⟨⟨h1, h2, h3⟩, hk⟩ := hx
          rcases shK_nn h1 (by omega) with ⟨e1, e2⟩ | h0
          · omega
          · rw [arlen_nn E h0] at h3
            exact sa_lld (E := E) C hd h1 h0 h2 h3 hk
        · exact hx.elim
      | baload =>
        obtain rfl : len = 1 := (beq_iff_eq (α := Nat)).mp hl
        have hx : exLd E 13 0 pc L S h _ := hx
        unfold exLd at hx
        split at hx
        · rename_i i r S' _
          obtain ⟨⟨h1, h2, h3⟩, hk⟩ := hx
          rcases shK_nn h1 (by omega) with ⟨e1, e2⟩ | h0
          · omega
          · rw [arlen_nn E h0] at h3
            exact sa_zld (E := E) C hd h1 h0 h2 h3 hk
        · exact hx.elim
      | iastore =>
        obtain rfl : len = 1 := (beq_iff_eq (α := Nat)).mp hl
        have hx : exSt E 11 0 pc L S h _ := hx
        unfold exSt at hx
        split at hx
        · rename_i t v i r S' _
          obtain ⟨⟨⟨h1, h2, h3⟩, h4, h5, h6⟩, hk⟩ := hx
          subst h4
          rw [arlen_nn E h5] at h3
          exact sa_ist C hd h1 h5 h2 h3 hk
        · exact hx.elim
      | lastore =>
        obtain rfl : len = 1 := (beq_iff_eq (α := Nat)).mp hl
        have hx : exSt E 12 1 pc L S h _ := hx
        unfold exSt at hx
        split at hx
        · rename_i t v i r S' _
          obtain ⟨⟨⟨h1, h2, h3⟩, h4, h5, h6⟩, hk⟩ := hx
          subst h4
          rw [arlen_nn E h5] at h3
          exact sa_lst C hd h1 h5 h2 h3 hk
        · exact hx.elim
      | bastore =>
        obtain rfl : len = 1 := (beq_iff_eq (α := Nat)).mp hl
        have hx : exSt E 13 0 pc L S h _ := hx
        unfold exSt at hx
        split at hx
        · rename_i t v i r S' _
          obtain ⟨⟨⟨h1, h2, h3⟩, h4, h5, h6⟩, hk⟩ := hx
          subst h4
          rw [arlen_nn E h5] at h3
          exact sa_zst C hd h1 h5 h2 h3 (h6 rfl) hk
        · exact hx.elim
      | arraylength =>
        obtain rfl : len = 1 := (beq_iff_eq (α := Nat)).mp hl
        have hx : exLen E pc L S h _ := hx
        unfold exLen at hx
        split at hx
        · rename_i r S' _
          obtain ⟨h1, h2, hk⟩ := hx
          rcases shK_nn (r := r) rfl h2 with ⟨e1, e2⟩ | h0
          · subst e1
            rw [arlen_s, hE.1] at hk
            exact sa_slen C hd hk
          · rw [arlen_nn E h0] at hk
            exact sa_len C hd h1 h2 h0 hk
        · exact hx.elim
      | new idx =>
        obtain rfl : len = 3 := (beq_iff_eq (α := Nat)).mp hl
        have hx : exNew E M idx pc L S h _ := hx
        unfold exNew at hx
        split at hx
        · rename_i ci hn
          obtain ⟨⟨h1, h2, h3, h4, h5, h6⟩, hk⟩ := hx
          exact sa_new C hlim hd hn h1 h4 h5 h6 hk
        · exact hx.elim
      | newarray ty =>
        obtain rfl : len = 2 := (beq_iff_eq (α := Nat)).mp hl
        have hx : exNewa E M ty pc L S h _ := hx
        unfold exNewa at hx
        split at hx
        · rename_i n S' _
          obtain ⟨⟨h1, h2, h3, h4, h5, h6, h7, h8⟩, hk⟩ := hx
          exact sa_newa C hlim hd h1 h2 h3 h4 h6 h7 h8 hk
        · exact hx.elim
      | invokestatic idx =>
        obtain rfl : len = 3 := (beq_iff_eq (α := Nat)).mp hl
        exact ss_call C hE hlim hM (Or.inl ⟨rfl, hd⟩) hx
      | invokevirtual idx =>
        obtain rfl : len = 3 := (beq_iff_eq (α := Nat)).mp hl
        exact ss_call C hE hlim hM (Or.inr (Or.inl ⟨rfl, hd⟩)) hx
      | invokespecial idx =>
        obtain rfl : len = 3 := (beq_iff_eq (α := Nat)).mp hl
        exact ss_call C hE hlim hM (Or.inr (Or.inr ⟨rfl, hd⟩)) hx
      | ireturn =>
        obtain rfl : len = 1 := (beq_iff_eq (α := Nat)).mp hl
        exact ss_ret C hret (t := 0) (by decide) (Or.inl ⟨rfl, hd⟩) hx
      | lreturn =>
        obtain rfl : len = 1 := (beq_iff_eq (α := Nat)).mp hl
        exact ss_ret C hret (t := 1) (by decide) (Or.inr (Or.inl ⟨rfl, hd⟩)) hx
      | areturn =>
        obtain rfl : len = 1 := (beq_iff_eq (α := Nat)).mp hl
        exact ss_ret C hret (t := 2) (by decide) (Or.inr (Or.inr ⟨rfl, hd⟩)) hx
      | return_ =>
        obtain rfl : len = 1 := (beq_iff_eq (α := Nat)).mp hl
        simp only [ex1] at hx
        split at hx
        · obtain ⟨h1, hq⟩ := hx
          intro H locs cells slots ls hH hS hL hO hc hsc
          have h9 : rtg (mT M) = 9 := by rw [h1]; rfl
          have K := hret pc 0 h H locs cells slots ls (fun _ => h1) (fun z => absurd h9 z) (fun z => by rw [h1] at z; cases z) (Or.inr (Or.inr (Or.inr ⟨h9, hd⟩))) hq hH hS hc hsc
          unfold rvl at K
          rw [if_pos h9] at K
          exact K
        · exact hx.elim
      | _ => exact ss_ps C hd hl hx
    · exact hx.elim
  · exact hx.elim
end SIM
