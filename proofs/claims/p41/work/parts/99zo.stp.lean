/-! the steps of the calls -/
section STP
variable {h : vH} {p w l m v x r i : Int}
theorem iA_of {b : vH} (y : iG b ∧ iH b) (z : iM b ∧ iC b) : iA b := ⟨y.1, y.2, z.1, z.2⟩
end STP

