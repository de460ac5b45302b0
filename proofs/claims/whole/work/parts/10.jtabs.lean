/-! THE OBJECT GRAPH, by places: 0..85 the class's (three houses at 1, 21, 41), 86..101 the check's; 200, 201 the static rows ABOVE, BODIES; 202, 203 the two texts -/
def jShL : List ((Nat × List (Option Nat)) ⊕ (Nat ⊕ (Nat × List (Option Nat)))) := [.inl (8, [some 1, some 21, some 41, some 61, some 66, some 69, some 72, some 85, none]), .inl (0, [none, none, none, none, some 2, some 9, some 11, some 13, some 17]), .inr (.inr (1, [some 3, some 4, some 5, some 6, some 7, some 8])), .inl (6, [none, none, none, none, none]), .inl (6, [none, none, none, none, none]), .inl (6, [none, none, none, none, none]), .inl (6, [none, none, none, none, none]), .inl (6, [none, none, none, none, none]), .inl (6, [none, none, none, none, none]), .inl (3, [some 10, none]), .inr (.inl 50), .inl (3, [some 12, none]), .inr (.inl 20), .inl (1, [none, some 14, some 16]), .inl (3, [some 15, none]), .inr (.inl 50), .inr (.inl 50), .inl (1, [none, some 18, some 20]), .inl (3, [some 19, none]), .inr (.inl 50), .inr (.inl 50), .inl (0, [none, none, none, none, some 22, some 29, some 31, some 33, some 37]), .inr (.inr (1, [some 23, some 24, some 25, some 26, some 27, some 28])), .inl (6, [none, none, none, none, none]), .inl (6, [none, none, none, none, none]), .inl (6, [none, none, none, none, none]), .inl (6, [none, none, none, none, none]), .inl (6, [none, none, none, none, none]), .inl (6, [none, none, none, none, none]), .inl (3, [some 30, none]), .inr (.inl 50), .inl (3, [some 32, none]), .inr (.inl 20), .inl (1, [none, some 34, some 36]), .inl (3, [some 35, none]), .inr (.inl 50), .inr (.inl 50), .inl (1, [none, some 38, some 40]), .inl (3, [some 39, none]), .inr (.inl 50), .inr (.inl 50), .inl (0, [none, none, none, none, some 42, some 49, some 51, some 53, some 57]), .inr (.inr (1, [some 43, some 44, some 45, some 46, some 47, some 48])), .inl (6, [none, none, none, none, none]), .inl (6, [none, none, none, none, none]), .inl (6, [none, none, none, none, none]), .inl (6, [none, none, none, none, none]), .inl (6, [none, none, none, none, none]), .inl (6, [none, none, none, none, none]), .inl (3, [some 50, none]), .inr (.inl 50), .inl (3, [some 52, none]), .inr (.inl 20), .inl (1, [none, some 54, some 56]), .inl (3, [some 55, none]), .inr (.inl 50), .inr (.inl 50), .inl (1, [none, some 58, some 60]), .inl (3, [some 59, none]), .inr (.inl 50), .inr (.inl 50), .inl (2, [some 62, some 64, none, none]), .inl (3, [some 63, none]), .inr (.inl 50), .inl (3, [some 65, none]), .inr (.inl 50), .inl (5, [some 67, none, none, none]), .inl (3, [some 68, none]), .inr (.inl 40), .inl (7, [some 70]), .inl (3, [some 71, none]), .inr (.inl 6), .inr (.inr (2, [some 73, some 76, some 79, some 82])), .inl (4, [some 74, none]), .inl (3, [some 75, none]), .inr (.inl 40), .inl (4, [some 77, none]), .inl (3, [some 78, none]), .inr (.inl 40), .inl (4, [some 80, none]), .inl (3, [some 81, none]), .inr (.inl 40), .inl (4, [some 83, none]), .inl (3, [some 84, none]), .inr (.inl 40), .inr (.inl 6), .inl (9, [some 87, some 88, some 89, none, some 90, some 91, none, none, none, none, some 92, none, some 93, some 94, some 95, some 96, none, some 97, none, none, none, none, some 98, some 99, some 100, some 101]), .inr (.inl 210), .inr (.inl 210), .inr (.inl 210), .inr (.inl 6), .inr (.inr (3, [some 202, some 203])), .inr (.inl 60), .inr (.inl 4), .inr (.inl 60), .inr (.inl 6), .inr (.inl 24), .inr (.inl 40), .inr (.inl 4), .inr (.inl 4), .inr (.inl 160), .inr (.inl 40)]
def jPatL : List (List Bool) := [[false, false, false, false, true, true, true, true, true], [false, true, true], [true, true, false, false], [true, false], [true, false], [true, false, false, false], [false, false, false, false, false], [true], [true, true, true, true, true, true, true, true, false], [true, true, true, false, true, true, false, false, false, false, true, false, true, true, true, true, false, true, false, false, false, false, true, true, true, true]]
def jABOVE : List Int32 := [-1, 0, 0, 0, 1, 2, 3]
def jBODIES : List Int32 := [10, 11, 12, 13, 20, 0, 0, 0, 0, 0, 30, 0, 0, 40, 0, 0, 0, 0, 0, 50, 0, 0, 60, 61, 0, 70, 0, 0]
def cPl : List Nat := List.range 86
def mPl : List Nat := [86, 87, 88, 89, 90, 91, 92, 93, 94, 95, 96, 97, 98, 99, 100, 101]
abbrev JMu : Type := Nat → Nat → Int32
abbrev JSH : Type := (Nat × List (Option Nat)) ⊕ (Nat ⊕ (Nat × List (Option Nat)))
abbrev JM : Type := MethodName × ByteArray × Nat × Option FieldType × String
def jup (μ : JMu) (p k : Nat) (v : Int32) : JMu := fun q j => if q = p ∧ j = k then v else μ q j
def jSh (p : Nat) : JSH := jShL.getD p (.inr (.inl 0))
def jPat (ci : Nat) : List Bool := jPatL.getD ci []
def jO (Pl : List Nat) (p ci : Nat) : Bool := Pl.contains p && (match jSh p with
  | .inl (c, fs) => c == ci && fs.map Option.isSome == jPat ci
  | _ => false)
def jI (Pl : List Nat) (p : Nat) : Bool := Pl.contains p && (match jSh p with
  | .inr (.inl _) => true
  | _ => false)
def jQr (Pl : List Nat) (p t : Nat) : Bool := Pl.contains p && (match jSh p with
  | .inr (.inr (t', _)) => t' == t
  | _ => false)
def jrf (p k : Nat) : Nat := match jSh p with
  | .inl (_, fs) => ((fs[k]?).getD none).getD 0
  | _ => 0
def jlen (p : Nat) : Nat := match jSh p with
  | .inr (.inl n) => n
  | .inr (.inr (_, l)) => l.length
  | _ => 0
def jel (p i : Nat) : Option Nat := match jSh p with
  | .inr (.inr (_, l)) => (l[i]?).getD none
  | _ => none
def jin (i : Int32) (n : Nat) : Bool := decide (¬ (i < 0 ∨ n ≤ i.toNatClampNeg))
def jushr (x y : Int32) : Int32 := (x.toUInt32 >>> (y.toUInt32 &&& Int32.toUInt32 31)).toInt32
def jrem (x y : Int32) : Int32 := x - x / y * y
def jmax (x y : Int32) : Int32 := if x < y then y else x
def jmin (x y : Int32) : Int32 := if y < x then y else x
/-- System.arraycopy between int arrays -/
def jcp (μ : JMu) (p0 p1 sp dp n : Nat) : JMu := fun q j => if q = p1 ∧ dp ≤ j ∧ j < dp + n then μ p0 (sp + (j - dp)) else μ q j
/-- fuel of loops, of recursions -/
def jN : Nat := 1000
def jK : Nat := 100
