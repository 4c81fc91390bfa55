/-! THE STEP: every instruction of the picture is one of the machine -/
def HpMode (E : PvEnv) (Lx : Nat) : Prop := E (-2) 0 = (Lx : Int) ∧ ∀ a f : Int, 0 ≤ a → E a f = -7
def RetOK (p : Program) (l : Launch) (e : Env) (R : Room) (s : State) (m : MethodId) (args : Array Value) (below : List Frame) (meth : Method) (c : Code) (Zf : State → Prop) (M : MRec) (B sb Lx : Nat) (xs : Nat → Int32) (D : va_G) (cI cJ cZ : ClassId) (n0 b0 : Int) (Q : Int → Hp → Prop) : Prop :=
  ∀ (pc : Nat) (v : Int) (h : Hp) (H : Heap) (locs : List Loc) (cells slots : Nat) (ls : Array Slot), (rtg (mT M) = 9 → mT M = none) → (rtg (mT M) ≠ 9 → okv (h (-3) 0) (rtg (mT M), v)) → (mT M = some .boolean → isBit v) → ((rtg (mT M) = 0 ∧ decode (mC M) pc = .ok (.ireturn, 1)) ∨ (rtg (mT M) = 1 ∧ decode (mC M) pc = .ok (.lreturn, 1)) ∨ (rtg (mT M) = 2 ∧ decode (mC M) pc = .ok (.areturn, 1)) ∨ (rtg (mT M) = 9 ∧ decode (mC M) pc = .ok (.return_, 1))) → Q v h → HRel B sb D cI cJ cZ h H → va_S (fun q => B ≤ q) s.heap H locs → ((cells : Int) = h (-3) 0 - n0 ∧ (slots : Int) = h (-3) 1 - b0 ∧ cells ≤ R.cells ∧ slots ≤ R.slots) → ScrOK Lx xs h → W p l e R s m args below meth c H locs cells slots Zf (F0 m pc ls (rvl B sb (mT M) v).toList)
section SIM
variable {p : Program} {l : Launch} {e : Env} {R : Room} {s : State} {m : MethodId} {args : Array Value} {below : List Frame} {meth : Method} {c : Code} {Zf : State → Prop} {M : MRec} {B sb Lx : Nat} {xs : Nat → Int32} {D : va_G} {cI cJ cZ : ClassId} {d : Nat} {n0 b0 : Int}
theorem ss_ret (C : Cx p R s m args meth c M B sb Lx xs D cI cJ cZ d n0) {Q : Int → Hp → Prop} (hret : RetOK p l e R s m args below meth c Zf M B sb Lx xs D cI cJ cZ n0 b0 Q) {t pc : Nat} {L S : List PV} {h : Hp} (ht : t ≤ 2) (hd : (t = 0 ∧ decode (mC M) pc = .ok (.ireturn, 1)) ∨ (t = 1 ∧ decode (mC M) pc = .ok (.lreturn, 1)) ∨ (t = 2 ∧ decode (mC M) pc = .ok (.areturn, 1))) (hx : exRet M t S h Q) : SimP p l e R s m args below meth c Zf M B sb Lx xs D cI cJ cZ n0 b0 pc L S h := by
  unfold exRet at hx
  split at hx
  · rename_i t' v
    obtain ⟨⟨e1, e2, e3⟩, hq⟩ := hx
    subst e1
    intro H locs cells slots ls hH hS hL hO hc hsc
    have hv := hO _ List.mem_cons_self
    have h9 : rtg (mT M) ≠ 9 := by omega
    have K := hret pc v h H locs cells slots ls (fun z => absurd z h9) (fun _ => by rw [e2]; exact hv) e3 (by rw [e2]; omega_nat_or hd) hq hH hS hc hsc
    unfold rvl at K
    rw [if_neg h9, e2] at K
    exact K
  · exact hx.elim
end SIM
