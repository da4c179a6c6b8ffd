/-- a line is hidden by a closed fold; a place by a span; a line is the first of a closed fold -/
def mInv (a : vH) (p l : Int) : Prop := anyI (fun k => ¬ (a 2 304 k = 0) ∧ ¬ (l ≤ a 2 302 k) ∧ ¬ (a 2 303 k < l)) (6 * p) (6 * p + a 2 301 p)
def mHid (a : vH) (p l x : Int) : Prop := anyI (fun k => a 2 294 k = l ∧ ¬ (x < a 2 295 k) ∧ ¬ (a 2 296 k - 1 < x)) (6 * p) (6 * p + a 2 293 p)
def mFst (a : vH) (p l : Int) : Prop := anyI (fun k => ¬ (a 2 304 k = 0) ∧ l = a 2 302 k) (6 * p) (6 * p + a 2 301 p)
