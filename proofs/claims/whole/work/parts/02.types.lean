/-! THE PURE PICTURE OF A RUN: numbers are Int, a heap is a function of cell and place; a value is a tag (0 int, 1 long, 2 reference, 9 nothing) and a number.
A reference is a cell's number in the order of making; -1 is null, -2 the script. The cell -3 counts: place 0 the cells made, place 1 the slots booked. -/
abbrev PV : Type := Nat × Int
abbrev Hp : Type := Int → Int → Int
abbrev PvEnv : Type := Int → Int → Int
def w32 (x : Int) : Int := (x + 2147483648) % 4294967296 - 2147483648
def w64 (x : Int) : Int := (x + 9223372036854775808) % 18446744073709551616 - 9223372036854775808
def w8 (x : Int) : Int := (x + 128) % 256 - 128
def hst (h : Hp) (a i v : Int) : Hp := fun a' i' => if a' = a ∧ i' = i then v else h a' i'
/-- a method: name, bytes, locals, answer's type, its class's number, tags of its arguments, cells and slots that it makes at most, the room of locals below it -/
abbrev MRec : Type := MethodName × ByteArray × Nat × Option FieldType × Nat × List Nat × Nat × Nat × Nat
abbrev mY (M : MRec) : MethodName := M.1
abbrev mC (M : MRec) : ByteArray := M.2.1
abbrev mX (M : MRec) : Nat := M.2.2.1
abbrev mT (M : MRec) : Option FieldType := M.2.2.2.1
abbrev mO (M : MRec) : Nat := M.2.2.2.2.1
abbrev mA (M : MRec) : List Nat := M.2.2.2.2.2.1
abbrev mMc (M : MRec) : Nat := M.2.2.2.2.2.2.1
abbrev mMs (M : MRec) : Nat := M.2.2.2.2.2.2.2.1
abbrev mRl (M : MRec) : Nat := M.2.2.2.2.2.2.2.2
def rtg : Option FieldType → Nat
  | none => 9
  | some .long => 1
  | some (.object _) => 2
  | some (.array _) => 2
  | some _ => 0
abbrev FldRow : Type := Nat × Nat × Nat × Nat × Nat
