/-! clusters -/
section CLC
variable {h h1 a b : vH} {p r i w : Int}
noncomputable def vCt (a : vH) (p r : Int) : Int := rS a p (mLn a p r) (rwJ a p r + 1) - rS a p (mLn a p r) (rwJ a p r)
end CLC

