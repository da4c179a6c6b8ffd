/-! draw: the reference tells its rows -/
noncomputable def dN (a : vH) (p t k : Int) : Int := if t + k < mAll a p then vCt a p (t + k) else -1
noncomputable def dM (a : vH) (p t k : Int) : Int := if t + k < mAll a p then mkV a p (t + k) else 0
section DRW
variable {h h1 h2 a b : vH} {p t l x r k c : Int}
theorem dN_in (g : iG a) (hp : 0 ≤ p ∧ p < 4) (ht : 0 ≤ t) (hk : 0 ≤ k) : -1 ≤ dN a p t k ∧ dN a p t k ≤ 131 := by
  unfold dN
  split
  · rename_i z
    have := vCt_in g hp (r := t + k) (isRw_all.mpr ⟨by omega, z⟩)
    omega
  · omega
end DRW

