/-- place in the list of locals of a new value of one word -/
def pkill (L : List PV) (i : Nat) : List PV := match i with
  | 0 => L
  | j + 1 => match L[j]? with
    | some (1, _) => L.set j (9, 0)
    | _ => L
def pst1 (L : List PV) (i : Nat) (v : PV) : Option (List PV) := if i < L.length then some ((pkill L i).set i v) else none
def pst2 (L : List PV) (i : Nat) (v : PV) : Option (List PV) := if i + 1 < L.length then some (((pkill L i).set i v).set (i + 1) (9, 0)) else none
def pld (L : List PV) (i t : Nat) : Option Int := match L[i]? with
  | some (t', v) => if t' = t then some v else none
  | none => none
abbrev LS2 : Type := List PV × List PV
def ppush (L S : List PV) (v : PV) : Option LS2 := some (L, v :: S)
def pldS (L S : List PV) (i t : Nat) : Option LS2 := match pld L i t with
  | some v => some (L, (t, v) :: S)
  | none => none
def pstI (t : Nat) (L S : List PV) (i : Nat) : Option LS2 := match S with
  | (t', v) :: S' => if t' = t then (match pst1 L i (t, v) with | some L' => some (L', S') | none => none) else none
  | [] => none
def pstL (L S : List PV) (i : Nat) : Option LS2 := match S with
  | (1, v) :: S' => (match pst2 L i (1, v) with | some L' => some (L', S') | none => none)
  | _ => none
/-- two words of one kind off the stack -/
def pop2 (t r : Nat) (f : Int → Int → Option Int) (L S : List PV) : Option LS2 := match S with
  | (tb, b) :: (ta, a) :: S' => if ta = t ∧ tb = t then (match f a b with | some v => some (L, (r, v) :: S') | none => none) else none
  | _ => none
def pop1 (t r : Nat) (f : Int → Int) (L S : List PV) : Option LS2 := match S with
  | (ta, a) :: S' => if ta = t then some (L, (r, f a) :: S') else none
  | _ => none
def lcmpI (a b : Int) : Int := if a > b then 1 else if a = b then 0 else -1
def i32op (f : Int32 → Int32 → Int32) (a b : Int) : Int := (f (Int32.ofInt a) (Int32.ofInt b)).toInt
def pdup (L S : List PV) : Option LS2 := match S with | v :: S' => if v.1 = 0 ∨ v.1 = 2 then some (L, v :: v :: S') else none | [] => none
def pdup2 (L S : List PV) : Option LS2 := match S with | v :: u :: S' => if (v.1 = 0 ∨ v.1 = 2) ∧ (u.1 = 0 ∨ u.1 = 2) then some (L, v :: u :: v :: u :: S') else none | _ => none
def pdrop (L S : List PV) : Option LS2 := match S with | v :: S' => if v.1 = 0 ∨ v.1 = 2 then some (L, S') else none | [] => none
/-- instructions that touch locals and stack alone -/
def ps (own : Nat) (i : Instr) (L S : List PV) : Option LS2 := match i with
  | .iconst n => ppush L S (0, w32 n)
  | .bipush n => ppush L S (0, w8 n)
  | .sipush n => ppush L S (0, (n + 32768) % 65536 - 32768)
  | .lconst n => ppush L S (1, (n.val : Int))
  | .ldc k => (match ldcT own k with | some v => ppush L S (0, v) | none => none)
  | .ldc2_w k => (match ldc2T own k with | some v => ppush L S (1, v) | none => none)
  | .iload k => pldS L S k 0
  | .iload_n k => pldS L S k.val 0
  | .lload k => pldS L S k 1
  | .lload_n k => pldS L S k.val 1
  | .aload k => pldS L S k 2
  | .aload_n k => pldS L S k.val 2
  | .istore k => pstI 0 L S k
  | .istore_n k => pstI 0 L S k.val
  | .lstore k => pstL L S k
  | .lstore_n k => pstL L S k.val
  | .astore k => pstI 2 L S k
  | .astore_n k => pstI 2 L S k.val
  | .iinc k n => (match pld L k 0 with | some v => (match pst1 L k (0, w32 (v + n)) with | some L' => some (L', S) | none => none) | none => none)
  | .iadd => pop2 0 0 (fun a b => some (w32 (a + b))) L S
  | .isub => pop2 0 0 (fun a b => some (w32 (a - b))) L S
  | .imul => pop2 0 0 (fun a b => some (w32 (a * b))) L S
  | .iand => pop2 0 0 (fun a b => some (i32op (· &&& ·) a b)) L S
  | .ior => pop2 0 0 (fun a b => some (i32op (· ||| ·) a b)) L S
  | .ixor => pop2 0 0 (fun a b => some (i32op (· ^^^ ·) a b)) L S
  | .ishl => pop2 0 0 (fun a b => some (i32op (fun x y => x <<< (y &&& 31)) a b)) L S
  | .ishr => pop2 0 0 (fun a b => some (i32op (fun x y => x >>> (y &&& 31)) a b)) L S
  | .ladd => pop2 1 1 (fun a b => some (w64 (a + b))) L S
  | .lsub => pop2 1 1 (fun a b => some (w64 (a - b))) L S
  | .lmul => pop2 1 1 (fun a b => some (w64 (a * b))) L S
  | .lcmp => pop2 1 0 (fun a b => some (lcmpI a b)) L S
  | .i2l => pop1 0 1 (fun a => a) L S
  | .l2i => pop1 1 0 (fun a => w32 a) L S
  | .i2b => pop1 0 0 (fun a => w8 a) L S
  | .dup => pdup L S
  | .dup2 => pdup2 L S
  | .pop => pdrop L S
  | _ => none
def cmpI (c : ClassFile.Cond) (a b : Int) : Bool := match c with
  | .eq => decide (a = b)
  | .ne => decide (a ≠ b)
  | .lt => decide (a < b)
  | .ge => decide (b ≤ a)
  | .gt => decide (b < a)
  | .le => decide (a ≤ b)
/-- weight of what lies below the arguments -/
def wgt : List PV → Nat
  | [] => 0
  | v :: S => (if v.1 = 1 then 2 else 1) + wgt S
def isBit (v : Int) : Prop := v = 0 ∨ v = 1
def ppushR (t : Nat) (r : Int) (S : List PV) : List PV := if t = 9 then S else (t, r) :: S
abbrev PKont : Type := Nat → List PV → List PV → Hp → Prop
abbrev PCal : Type := MRec → List PV → Hp → (Int → Hp → Prop) → Prop
def tgtOf (pc : Nat) (off : Int) : Nat := ((pc : Int) + off).toNat
/-- jumps: the way is there (the target lies in the code's numbers) -/
def pjump (pc : Nat) (off : Int) (L S : List PV) (h : Hp) (k : PKont) : Prop := 0 ≤ (pc : Int) + off ∧ k (tgtOf pc off) L S h
def pif (b : Bool) (pc : Nat) (off : Int) (L S : List PV) (h : Hp) (k : PKont) : Prop := 0 ≤ (pc : Int) + off ∧ (if b = true then k (tgtOf pc off) L S h else k (pc + 3) L S h)
/-- a made cell: all zero, references null -/
def hnew (h : Hp) (f : Int → Int) (n : Int) : Hp := fun a i => if a = -3 ∧ i = 0 then h (-3) 0 + 1 else if a = -3 ∧ i = 1 then h (-3) 1 + n else if a = h (-3) 0 then f i else h a i
def hcpy (h : Hp) (a0 sp a dp n : Int) : Hp := fun a' i => if a' = a ∧ dp ≤ i ∧ i < dp + n then h a0 (sp + (i - dp)) else h a' i
def arlen (E : PvEnv) (r : Int) : Int := if r = -2 then E (-2) 0 else shN r
def rowOK (E : PvEnv) (k : Nat) (r i : Int) : Prop := shK r = k ∧ 0 ≤ i ∧ i < arlen E r
def exGet (E : PvEnv) (M : MRec) (idx pc : Nat) (L S : List PV) (h : Hp) (k : PKont) : Prop := match S with
  | (2, a) :: S' => (match fldT (mO M) idx with
    | some (_, ci, f, ty, _) => shK a = ci ∧ k (pc + 3) L ((if ty = 3 then 0 else ty, if ty = 2 ∧ E a f ≠ -7 then E a f else h a f) :: S') h
    | none => False)
  | _ => False
def exPut (E : PvEnv) (M : MRec) (idx pc : Nat) (L S : List PV) (h : Hp) (k : PKont) : Prop := match S with
  | (t, v) :: (2, a) :: S' => (match fldT (mO M) idx with
    | some (ns, ci, f, ty, fin) => (shK a = ci ∧ t = (if ty = 3 then 0 else ty) ∧ (ty = 3 → isBit v) ∧ E a f = -7 ∧ (fin = 0 ∨ (fin = 1 ∧ (mY M).name = "<init>" ∧ ci = mO M ∧ ns = 0)) ∧ (ty = 2 → v ≠ -2)) ∧ k (pc + 3) L S' (hst h a f v)
    | none => False)
  | _ => False
def exLd (E : PvEnv) (kd t pc : Nat) (L S : List PV) (h : Hp) (k : PKont) : Prop := match S with
  | (0, i) :: (2, r) :: S' => rowOK E kd r i ∧ k (pc + 1) L ((t, h r i) :: S') h
  | _ => False
def exSt (E : PvEnv) (kd t pc : Nat) (L S : List PV) (h : Hp) (k : PKont) : Prop := match S with
  | (t', v) :: (0, i) :: (2, r) :: S' => (rowOK E kd r i ∧ t' = t ∧ 0 ≤ r ∧ (kd = 13 → isBit v)) ∧ k (pc + 1) L S' (hst h r i v)
  | _ => False
def exLen (E : PvEnv) (pc : Nat) (L S : List PV) (h : Hp) (k : PKont) : Prop := match S with
  | (2, r) :: S' => 11 ≤ shK r ∧ shK r ≤ 13 ∧ k (pc + 1) L ((0, arlen E r) :: S') h
  | _ => False
def exNew (E : PvEnv) (M : MRec) (idx pc : Nat) (L S : List PV) (h : Hp) (k : PKont) : Prop := match newT (mO M) idx with
  | some ci => (shK (h (-3) 0) = ci ∧ ci ≤ 10 ∧ E (-3) 0 = -7 ∧ mMc M ≠ 0 ∧ h (-3) 0 + 1 ≤ E (-3) 1 ∧ h (-3) 1 + shN (h (-3) 0) ≤ E (-3) 2) ∧ k (pc + 3) L ((2, h (-3) 0) :: S) (hnew h (fun i => if ftT ci i.toNat = 2 then -1 else 0) (shN (h (-3) 0)))
  | none => False
def atyK : ArrayType → Nat
  | .int => 11
  | .long => 12
  | .boolean => 13
  | _ => 99
def exNewa (E : PvEnv) (M : MRec) (ty : ArrayType) (pc : Nat) (L S : List PV) (h : Hp) (k : PKont) : Prop := match S with
  | (0, n) :: S' => (shK (h (-3) 0) = atyK ty ∧ atyK ty ≤ 13 ∧ shN (h (-3) 0) = n ∧ 0 ≤ n ∧ E (-3) 0 = -7 ∧ mMc M ≠ 0 ∧ h (-3) 0 + 1 ≤ E (-3) 1 ∧ h (-3) 1 + n ≤ E (-3) 2) ∧ k (pc + 2) L ((2, h (-3) 0) :: S') (hnew h (fun _ => 0) n)
  | _ => False
def awd : List Nat → Nat
  | [] => 0
  | t :: ts => (if t = 1 then 2 else 1) + awd ts
/-- a call: the arguments, what lies below them, the room; kinds: 0 static, 2 of an object, 4 a constructor (one more: a nest mate's); 6 Object's, 8 arraycopy, 9 max, 10 min -/
def exArgs (E : PvEnv) (M M' : MRec) (kd kind : Nat) (As rest : List PV) (h : Hp) : Prop := (kd = kind ∨ kd = kind + 1) ∧ As.map (fun v => v.1) = mA M' ∧ wgt rest ≤ 8 ∧ (mRl M' + mX M' + 19 ≤ mRl M ∧ awd (mA M') ≤ mX M') ∧ (mMc M' = 0 → mMs M' = 0) ∧ (mMc M' ≠ 0 → mMc M ≠ 0 ∧ h (-3) 0 + mMc M' ≤ E (-3) 1 ∧ h (-3) 1 + mMs M' ≤ E (-3) 2) ∧ (match As with | (_, r) :: _ => (kind = 0 ∨ shK r = mO M') | [] => kind = 0)
def exCall (E : PvEnv) (d : Nat) (M : MRec) (cal : PCal) (kind : Nat) (idx pc : Nat) (L S : List PV) (h : Hp) (k : PKont) : Prop := match calT (mO M) idx with
  | some (kd, M') => if kd = 6 then (match S with
      | (2, a) :: S' => (kind = 4 ∧ wgt S' + 12 ≤ mRl M ∧ d ≠ 0 ∧ a ≠ -1) ∧ k (pc + 3) L S' h
      | _ => False)
    else if kd = 8 then (match S with
      | (0, n) :: (0, dp) :: (2, a) :: (0, sp) :: (2, a0) :: S' => ((kind = 0 ∧ wgt S' + 18 ≤ mRl M ∧ d ≠ 0) ∧ (shK a = 11 ∧ shK a0 = 11 ∧ 0 ≤ a ∧ 0 ≤ a0) ∧ 0 ≤ n ∧ 0 ≤ sp ∧ 0 ≤ dp ∧ sp + n ≤ shN a0 ∧ dp + n ≤ shN a) ∧ k (pc + 3) L S' (hcpy h a0 sp a dp n)
      | _ => False)
    else if kd = 9 then (match S with
      | (0, b) :: (0, a) :: S' => (kind = 0 ∧ wgt S' + 13 ≤ mRl M ∧ d ≠ 0) ∧ k (pc + 3) L ((0, if a < b then b else a) :: S') h
      | _ => False)
    else if kd = 10 then (match S with
      | (0, b) :: (0, a) :: S' => (kind = 0 ∧ wgt S' + 13 ≤ mRl M ∧ d ≠ 0) ∧ k (pc + 3) L ((0, if b < a then b else a) :: S') h
      | _ => False)
    else (exArgs E M M' kd kind (S.take (mA M').length).reverse (S.drop (mA M').length) h ∧ cal M' ((S.take (mA M').length).reverse) h (fun r h' => k (pc + 3) L (ppushR (rtg (mT M')) r (S.drop (mA M').length)) h'))
  | none => False
def exRet (M : MRec) (t : Nat) (S : List PV) (h : Hp) (Q : Int → Hp → Prop) : Prop := match S with
  | [(t', v)] => (t' = t ∧ rtg (mT M) = t ∧ (mT M = some .boolean → isBit v)) ∧ Q v h
  | _ => False
def swTab (dflt lo hi : Int) (offs : Array Int) (x : Int) : Option Int := if x < lo ∨ hi < x then some dflt else offs[(x - lo).toNat]?
def swLook (ps : List (Int × Int)) (dflt x : Int) : Int := match ps with
  | [] => dflt
  | (a, o) :: ps' => if x = a then o else swLook ps' dflt x
def ascP (ps : List (Int × Int)) : Bool := (ps.zip (ps.drop 1)).all (fun (a, next) => a.1 < next.1)
/-- one instruction -/
def ex1 (E : PvEnv) (d : Nat) (M : MRec) (cal : PCal) (Q : Int → Hp → Prop) (i : Instr) (len pc : Nat) (L S : List PV) (h : Hp) (k : PKont) : Prop := match i with
  | .goto off => pjump pc off L S h k
  | .if_icmp c off => (match S with | (0, b) :: (0, a) :: S' => pif (cmpI c a b) pc off L S' h k | _ => False)
  | .ifCond c off => (match S with | (0, a) :: S' => pif (cmpI c a 0) pc off L S' h k | _ => False)
  | .tableswitch df lo hi offs => (match S with | (0, x) :: S' => (match swTab df lo hi offs x with | some off => pjump pc off L S' h k | none => False) | _ => False)
  | .lookupswitch df prs => (match S with | (0, x) :: S' => ascP prs.toList = true ∧ pjump pc (swLook prs.toList df x) L S' h k | _ => False)
  | .idiv => (match S with | (0, b) :: (0, a) :: S' => b ≠ 0 ∧ k (pc + 1) L ((0, w32 (a.tdiv b)) :: S') h | _ => False)
  | .irem => (match S with | (0, b) :: (0, a) :: S' => b ≠ 0 ∧ k (pc + 1) L ((0, a.tmod b) :: S') h | _ => False)
  | .ldiv => (match S with | (1, b) :: (1, a) :: S' => b ≠ 0 ∧ k (pc + 1) L ((1, w64 (a.tdiv b)) :: S') h | _ => False)
  | .lrem => (match S with | (1, b) :: (1, a) :: S' => b ≠ 0 ∧ k (pc + 1) L ((1, a.tmod b) :: S') h | _ => False)
  | .getfield idx => exGet E M idx pc L S h k
  | .putfield idx => exPut E M idx pc L S h k
  | .iaload => exLd E 11 0 pc L S h k
  | .laload => exLd E 12 1 pc L S h k
  | .baload => exLd E 13 0 pc L S h k
  | .iastore => exSt E 11 0 pc L S h k
  | .lastore => exSt E 12 1 pc L S h k
  | .bastore => exSt E 13 0 pc L S h k
  | .arraylength => exLen E pc L S h k
  | .new idx => exNew E M idx pc L S h k
  | .newarray ty => exNewa E M ty pc L S h k
  | .invokestatic idx => exCall E d M cal 0 idx pc L S h k
  | .invokevirtual idx => exCall E d M cal 2 idx pc L S h k
  | .invokespecial idx => exCall E d M cal 4 idx pc L S h k
  | .ireturn => exRet M 0 S h Q
  | .lreturn => exRet M 1 S h Q
  | .areturn => exRet M 2 S h Q
  | .return_ => (match S with | [] => mT M = none ∧ Q 0 h | _ => False)
  | i => (match ps (mO M) i L S with | some q => k (pc + len) q.1 q.2 h | none => False)
/-- how many bytes an instruction has here -/
def lenOK (i : Instr) (len : Nat) : Bool := match i with
  | .tableswitch _ _ _ _ => true
  | .lookupswitch _ _ => true
  | .bipush _ => len == 2
  | .iload _ => len == 2
  | .lload _ => len == 2
  | .aload _ => len == 2
  | .istore _ => len == 2
  | .lstore _ => len == 2
  | .astore _ => len == 2
  | .ldc _ => len == 2
  | .newarray _ => len == 2
  | .sipush _ => len == 3
  | .iinc _ _ => len == 3
  | .ldc2_w _ => len == 3
  | .goto _ => len == 3
  | .if_icmp _ _ => len == 3
  | .ifCond _ _ => len == 3
  | .getfield _ => len == 3
  | .putfield _ => len == 3
  | .new _ => len == 3
  | .invokestatic _ => len == 3
  | .invokevirtual _ => len == 3
  | .invokespecial _ => len == 3
  | _ => len == 1
def exI (E : PvEnv) (d : Nat) (M : MRec) (cal : PCal) (Q : Int → Hp → Prop) (k : PKont) (pc : Nat) (L S : List PV) (h : Hp) : Prop := match decode (mC M) pc with
  | .ok (i, len) => if lenOK i len = true then ex1 E d M cal Q i len pc L S h k else False
  | .error _ => False
/-- the locals at a method's entry -/
def initL : Nat → List PV → List PV
  | n, [] => List.replicate n (9, 0)
  | 0, _ :: _ => []
  | n + 1, v :: vs => if v.1 = 1 then v :: (match n with | 0 => [] | n' + 1 => (9, 0) :: initL n' vs) else v :: initL n vs
/-- the run of a method from a place on, as the least predicate that its instructions keep -/
def WpC (E : PvEnv) (d : Nat) (M : MRec) (cal : PCal) (Q : Int → Hp → Prop) (pc : Nat) (L S : List PV) (h : Hp) : Prop := ∀ P : PKont, (∀ pc L S h, exI E d M cal Q P pc L S h → P pc L S h) → P pc L S h
def setLim (E : PvEnv) (M : MRec) (h : Hp) : PvEnv := if mMc M = 0 then E else fun a k => if a = -3 ∧ k = 1 then h (-3) 0 + mMc M else if a = -3 ∧ k = 2 then h (-3) 1 + mMs M else E a k
def postM (M : MRec) (h : Hp) (Q : Int → Hp → Prop) : Int → Hp → Prop := fun r h' => if mMc M = 0 then (h' (-3) 0 = h (-3) 0 ∧ h' (-3) 1 = h (-3) 1) ∧ Q r h' else (h' (-3) 0 = h (-3) 0 + mMc M ∧ h' (-3) 1 ≤ h (-3) 1 + mMs M) ∧ Q r (hst h' (-3) 1 (h (-3) 1 + mMs M))
/-- a whole method, with d calls open below it at most -/
def wpM (E : PvEnv) : Nat → PCal
  | 0 => fun _ _ _ _ => False
  | d + 1 => fun M args h Q => WpC (setLim E M h) d M (wpM E d) (postM M h Q) 0 (initL (mX M) args) [] h
abbrev Wp (E : PvEnv) (d : Nat) (M : MRec) (Q : Int → Hp → Prop) (pc : Nat) (L S : List PV) (h : Hp) : Prop := WpC E d M (wpM E d) Q pc L S h
