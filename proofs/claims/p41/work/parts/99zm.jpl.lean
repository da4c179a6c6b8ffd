/-! play keeps them too; a whole step of the loop for a call -/
section JPL
variable {a b h : vH} {fr to p : Int}
theorem plH_B {A : vH} : ∀ (f : Nat) (k : Int) (b : vH) (n : Int), eqB to b (plH A fr to f k b n).1
  | 0, _, _, _ => eqB_rf
  | f + 1, k, b, n => by
    have e : plH A fr to (f + 1) k b n = if A 2 334 k = fr then plH A fr to f (k + 1) (tMk b to (A 2 335 k)) (n + mvd b to (A 2 335 k)) else plH A fr to f (k + 1) b n := rfl
    rw [e]
    split
    · exact eqB_tr eqB_Mk (plH_B f (k + 1) _ _)
    · exact plH_B f (k + 1) b n
theorem iMC_play (i : iM a ∧ iC a) : iM (tPy a fr to) ∧ iC (tPy a fr to) := by
  unfold tPy plA
  split
  · exact iMC_B (plH_B _ _ _ _) (iMC_th i)
  · exact iMC_th i
end JPL

