/-! draw: the reference's call -/
noncomputable def tDr (a : vH) (p t : Int) : vH := vup (kpR a p t (a 2 310 p) (a 2 310 p) 0) 2 330 p (bdS a p t 23).1
section DR3
variable {h h1 h2 a b : vH} {p t l x r k c K J n : Int}
theorem kpR_o {k : Nat} {i : Int} (n : ¬ (k = 2 ∧ 326 ≤ r ∧ r ≤ 329)) : kpR a p t K J c k r i = a k r i := by
  unfold kpR
  rw [if_neg (by omega), if_neg (by omega), if_neg (by omega), if_neg (fun w => n ⟨w.1, by omega, by omega⟩)]
theorem kpR_sx : sx a (kpR a p t K J c) := fun k r i z => kpR_o (fun w => (n2k z).1 w.1)
end DR3

