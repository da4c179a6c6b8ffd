/-! what holds between two calls of the law -/
def J (h : vH) : Prop := cAll h h ∧ iG h ∧ iH h ∧ iM h ∧ iC h
section JN
variable {h2 b : vH} {out : vH}
end JN

