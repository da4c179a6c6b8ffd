/-! typeBox: the class -/
section TBC
variable {h h1 h2 h3 a b : vH} {p P l x s n r m c i j v w : Int} {B : bxT}
/-- what the loop keeps, and counts -/
def KR (h h1 : vH) : Prop := kR h h1 ∧ h1 4 0 0 = h 4 0 0 ∧ h1 5 0 0 = h 5 0 0
theorem KR_tr (x : KR h h1) (y : KR h1 h2) : KR h h2 := ⟨fun k r i u => (y.1 k r i u).trans (x.1 k r i u), y.2.1.trans x.2.1, y.2.2.trans x.2.2⟩
end TBC

