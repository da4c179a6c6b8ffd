/-! THE PURE MACHINE: the bytecode over a heap of integers. A value is a kind (0 int, 1 reference, 2 long; 8, 9 unusable) and an integer; a reference is a number, 0 for null.
A heap h gives h k r i: k = 0 the kind of the cell r, 1 its length, 2 its element i, 3..5 (at r = 0) how many cells there are, the cells and the slots made; a field from 100 on. -/
abbrev vv : Type := Nat × Int
abbrev vH : Type := Nat → Int → Int → Int
abbrev vE : Type := Nat × Nat × Nat × Nat × String
/-- a method: its class's number, name, bytes, locals, type of the answer, handlers (start, end, handler, the pool's entry, class), frames and words of locals that it may use -/
abbrev vM : Type := Nat × MethodName × ByteArray × Nat × Option FieldType × List vE × Nat × Nat
abbrev vmC (m : vM) : Nat := m.1
abbrev vmY (m : vM) : MethodName := m.2.1
abbrev vmB (m : vM) : ByteArray := m.2.2.1
abbrev vmL (m : vM) : Nat := m.2.2.2.1
abbrev vmR (m : vM) : Option FieldType := m.2.2.2.2.1
abbrev vmH (m : vM) : List vE := m.2.2.2.2.2.1
abbrev vmF (m : vM) : Nat := m.2.2.2.2.2.2.1
abbrev vmW (m : vM) : Nat := m.2.2.2.2.2.2.2
abbrev vR : Type := Option vv ⊕ String
abbrev vF : Type := vM → Nat → List vv → List vv → vH → Option (vR × vH)
def w32 (z : Int) : Int := Int.bmod z 4294967296
def w64 (z : Int) : Int := Int.bmod z 18446744073709551616
def vup (h : vH) (k : Nat) (r i v : Int) : vH := fun k' r' i' => if k' = k ∧ r' = r ∧ i' = i then v else h k' r' i'
def vnew (h : vH) (ty len ns : Int) : vH := fun k r i =>
  if r = h 3 0 0 then (if k = 0 ∧ i = 0 then ty else if k = 1 ∧ i = 0 then len else 0)
  else if r = 0 ∧ i = 0 ∧ k = 3 then h 3 0 0 + 1
  else if r = 0 ∧ i = 0 ∧ k = 4 then h 4 0 0 + 1
  else if r = 0 ∧ i = 0 ∧ k = 5 then h 5 0 0 + ns
  else h k r i
def vexc (h : vH) : vH := fun k r i =>
  if r = 0 ∧ i = 0 ∧ k = 4 then h 4 0 0 + 1
  else if r = 0 ∧ i = 0 ∧ k = 5 then h 5 0 0 + 6
  else h k r i
def vcp (h : vH) (a sp b dp n : Int) : vH := fun k r i => if k = 2 ∧ r = b ∧ dp ≤ i ∧ i < dp + n then h 2 a (sp + (i - dp)) else h k r i
/-- a field's key, and the kind of what it holds -/
def vfc (ci j : Nat) : Nat := 100 + 100 * ci + j
def vkd (ty : FieldType) : Nat := match ty with
  | .object _ => 1
  | .array _ => 1
  | .long => 2
  | _ => 0
def vcat (S : List vv) : Nat := (S.map fun v => if v.1 = 2 then 2 else 1).sum
/-- a local is written: a long that lay over it is lost -/
def vset (L : List vv) (i : Nat) (x : vv) : List vv := match i with
  | 0 => L.set 0 x
  | k + 1 => (match L[k]? with
    | some (2, _) => L.set k (9, 0)
    | _ => L).set (k + 1) x
def vset2 (L : List vv) (i : Nat) (x : vv) : List vv := (vset L i x).set (i + 1) (8, 0)
def vents : List vv → List vv
  | [] => []
  | (2, x) :: l => (2, x) :: (8, 0) :: vents l
  | (k, x) :: l => (k, x) :: vents l
def vent (n : Nat) (as : List vv) : List vv := vents as ++ List.replicate (n - (vents as).length) (9, 0)
def vhand : List vE → Nat → String → Option vE
  | [], _, _ => none
  | x :: l, pc, E => if x.1 ≤ pc ∧ pc < x.2.1 ∧ x.2.2.2.2 = E then some x else vhand l pc E
/-- what an instruction does: an end, the next point, or a call -/
abbrev vA : Type := Option ((vR × vH) ⊕ ((Nat × List vv × List vv × vH) ⊕ (vM × List vv × List vv)))
def vgo (pc : Nat) (L S : List vv) (h : vH) : vA := some (.inr (.inl (pc, L, S, h)))
def vjmp (pc : Nat) (off : Int) (L S : List vv) (h : vH) : vA := if 0 ≤ (pc : Int) + off then some (.inr (.inl (((pc : Int) + off).toNat, L, S, h))) else none
def vbr (c : Bool) (pc : Nat) (off : Int) (L S : List vv) (h : vH) : vA := if 0 ≤ (pc : Int) + off then (if c = true then vgo ((pc : Int) + off).toNat L S h else vgo (pc + 3) L S h) else none
def vi32 (z : Int) : Int32 := Int32.ofInt z
def vi64 (z : Int) : Int64 := Int64.ofInt z
def vI (x : Int32) : vv := (0, x.toInt)
def vL (x : Int64) : vv := (2, x.toInt)
