/-! cell -/
section CEL
variable {h h1 a b : vH} {p r i w : Int}
noncomputable def ceI (a : vH) (p r i : Int) : Int := lS (sg (mCL a p (mLn a p r))) (mCL a p (mLn a p r)).length (a 2 286 p) (a 2 287 p) (rS a p (mLn a p r) (rwJ a p r) + i)
noncomputable def ceV (L : List Clu) (W d z w : Int) : Int := if w = 0 then sg L z else (if w = 1 then mn L z else (if w = 2 then lC (sg L) L.length W d z else (if w = 3 then lW (sg L) L.length W d z else (if w = 4 then lV (sg L) L.length W d z else bg L z))))
noncomputable def vCe (a : vH) (p r i w : Int) : Int := ceV (mCL a p (mLn a p r)) (a 2 286 p) (a 2 287 p) (ceI a p r i) w
end CEL

