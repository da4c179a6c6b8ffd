/-! a box of places: the reference finds it -/
abbrev bxT : Type := Int × (Int → Int) × (Int → Int)
/-- the box lies in two arrays -/
def hB (h : vH) (A : Int) (B : bxT) : Prop := ∀ i, 0 ≤ i → i < B.1 → h 2 A i = B.2.1 i ∧ h 2 (A + 1) i = B.2.2 i
/-- how many of the first k places are in a line -/
def bC (L : Int → Int) (l : Int) : Nat → Int
  | 0 => 0
  | k + 1 => bC L l k + (if L k = l then 1 else 0)
def okR (a : vH) (B : bxT) (i : Int) : Prop := a 2 284 (B.2.1 i) + bC B.2.1 (B.2.1 i) B.1.toNat ≤ 80
def room (a : vH) (B : bxT) : Prop := ∀ i, 0 ≤ i → i < B.1 → okR a B i
section BOX
variable {h h1 h2 a b : vH} {p P l x s n r c : Int} {B : bxT}
end BOX

