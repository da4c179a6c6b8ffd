/-! two lines are joined: the reference -/
def cpU (a : vH) (s e : Int) : vH := fun k r i => if k = 2 ∧ r = 285 ∧ s ≤ i ∧ i < e then a 2 285 (i + 1) else if k = 2 ∧ r = 284 ∧ s ≤ i ∧ i < e then a 2 284 (i + 1) else if k = 2 ∧ r = 283 ∧ 80 * s ≤ i ∧ i < 80 * e then a 2 283 (i + 80) else a k r i
def tJs (a : vH) (l e : Int) : vH := fun k r i => if k = 2 ∧ r = 283 ∧ 80 * l + a 2 284 l ≤ i ∧ i < 80 * l + a 2 284 l + e then a 2 283 (i + 80 - a 2 284 l) else a k r i
def tJm (a : vH) (l : Int) : vH := vup (vup (vup (tJs a l (a 2 284 (l + 1))) 2 284 l (a 2 284 l + a 2 284 (l + 1))) 2 285 l (if ¬ (a 2 285 l = 0) ∨ ¬ (a 2 285 (l + 1) = 0) then 1 else 0)) 1504 282 0 (a 1504 282 0 - 1)
def tJ (a : vH) (l : Int) : vH := cpU (tJm a l) (l + 1) (a 1504 282 0 - 1)
def jnL (l L : Int) : Int := L - (if ¬ (L ≤ l) then 1 else 0)
def jnX (l n L X : Int) : Int := X + (if L = l + 1 then n else 0)
def gJo (l n : Int) (a : vH) (r i : Int) : Int := if r = 294 then jnL l (a 2 294 i) else if r = 295 then jnX l n (a 2 294 i) (a 2 295 i) else if r = 296 then jnX l n (a 2 294 i) (a 2 296 i) else if r = 298 then jnL l (a 2 298 i) else if r = 299 then jnX l n (a 2 298 i) (a 2 299 i) else if r = 302 then jnL l (a 2 302 i) else if r = 303 then jnL l (a 2 303 i) else if r = 305 then jnL l (a 2 305 i) else if r = 306 then jnX l n (a 2 305 i) (a 2 306 i) else if r = 308 then jnL l (a 2 308 i) else if r = 309 then jnX l n (a 2 308 i) (a 2 309 i) else a 2 r i
/-- the folds of one line among the first k of a pane are dropped, from the last one down -/
def dFk (p : Int) : Nat → vH → vH
  | 0, a => a
  | k + 1, a => dFk p k (if a 2 302 (6 * p + k) = a 2 303 (6 * p + k) then dR a p 2 k else a)
def dF (a : vH) (p : Int) : vH := dFk p (a 2 301 p).toNat a
def dFn : Nat → vH → vH
  | 0, a => a
  | k + 1, a => dF (dFn k a) k
noncomputable def tJw (a : vH) (l : Int) : vH := TT (gJo l (a 2 284 l)) (tJ a l) 4
noncomputable def tJd (a : vH) (l : Int) : vH := dFn 4 (tJw a l)
section JNR
variable {h h2 a b : vH} {p q P Q X l x s f u t j st r l0 x0 n e m : Int}
theorem gJo_loc : gLoc (gJo l n) := by
  refine ⟨fun a b r i hr e => ?_, fun a b r i hr e => ?_⟩
  · unfold rgL rgS rgV rgF at hr
    unfold gJo
    rw [e 294 (by decide) (by decide), e 295 (by decide) (by decide), e 296 (by decide) (by decide), e 298 (by decide) (by decide), e 299 (by decide) (by decide), e 302 (by decide) (by decide), e 303 (by decide) (by decide), e r (by omega) (by omega)]
    rw [if_neg (show ¬ r = 305 by omega), if_neg (show ¬ r = 306 by omega), if_neg (show ¬ r = 308 by omega), if_neg (show ¬ r = 309 by omega), if_neg (show ¬ r = 305 by omega), if_neg (show ¬ r = 306 by omega), if_neg (show ¬ r = 308 by omega), if_neg (show ¬ r = 309 by omega)]
  · unfold rgC at hr
    unfold gJo
    rw [e 305 (by decide) (by decide), e 306 (by decide) (by decide), e 308 (by decide) (by decide), e 309 (by decide) (by decide), e r (by omega) (by omega)]
    rw [if_neg (show ¬ r = 294 by omega), if_neg (show ¬ r = 295 by omega), if_neg (show ¬ r = 296 by omega), if_neg (show ¬ r = 298 by omega), if_neg (show ¬ r = 299 by omega), if_neg (show ¬ r = 302 by omega), if_neg (show ¬ r = 303 by omega), if_neg (show ¬ r = 294 by omega), if_neg (show ¬ r = 295 by omega), if_neg (show ¬ r = 296 by omega), if_neg (show ¬ r = 298 by omega), if_neg (show ¬ r = 299 by omega), if_neg (show ¬ r = 302 by omega), if_neg (show ¬ r = 303 by omega)]
theorem cpU_sx : sx a (cpU a s e) := fun k r i z => by
  have n := n2k z
  unfold cpU
  rw [if_neg (fun w => n.1 w.1), if_neg (fun w => n.1 w.1), if_neg (fun w => n.1 w.1)]
theorem tJs_sx : sx a (tJs a l e) := fun k r i z => if_neg (fun w => (n2k z).1 w.1)
theorem tJm_sx : sx a (tJm a l) := sx_tr tJs_sx (sx_up rfl (sx_up rfl (sx_up rfl sx_rf)))
theorem tJ_sx : sx a (tJ a l) := sx_tr tJm_sx cpU_sx
end JNR

