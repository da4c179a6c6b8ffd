/-! a whole step with all invariants; void calls -/
def iA (a : vH) : Prop := iG a ∧ iH a ∧ iM a ∧ iC a
section JL2
variable {h a b out : vH}
end JL2

