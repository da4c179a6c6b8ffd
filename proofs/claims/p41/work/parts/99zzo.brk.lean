/-! a line is broken: the reference -/
/-- the lines behind e are one further, up to the line m -/
def cpD (a : vH) (e m : Int) : vH := fun k r i => if k = 2 ∧ r = 285 ∧ e < i ∧ i ≤ m then a 2 285 (i - 1) else if k = 2 ∧ r = 284 ∧ e < i ∧ i ≤ m then a 2 284 (i - 1) else if k = 2 ∧ r = 283 ∧ 80 * (e + 1) ≤ i ∧ i < 80 * (m + 1) then a 2 283 (i - 80) else a k r i
/-- the text of a broken line, but for the length of the first half -/
def tBe (a : vH) (l x e : Int) : vH := fun k r i => if k = 1504 ∧ r = 282 ∧ i = 0 then a 1504 282 0 + 1 else if k = 2 ∧ r = 285 ∧ i = l + 1 then 0 else if k = 2 ∧ r = 284 ∧ i = l + 1 then a 2 284 l - x else if k = 2 ∧ r = 283 ∧ 80 * (l + 1) ≤ i ∧ i < 80 * (l + 1) + e then a 2 283 (i - 80 + x) else cpD a (l + 1) (a 1504 282 0) k r i
def tB (a : vH) (l x : Int) : vH := vup (tBe a l x (a 2 284 l - x)) 2 284 l x
def bkB (l x L X : Int) : Int := if l < L ∨ L = l ∧ ¬ (X ≤ x) then 1 else 0
def bkX (l x L X : Int) : Int := X - (if L = l then (if bkB l x L X ≤ 0 then 0 else x) else 0)
def bkL (l x L F : Int) : Int := L + (if L = l ∧ ¬ (F < x) ∨ ¬ (L ≤ l) then 1 else 0)
def bkF (l x L F : Int) : Int := F - (if L = l ∧ ¬ (F < x) then x else 0)
def bkT (l x L F T : Int) : Int := if L = l ∧ ¬ (F < x) then T - x else (if L = l then (if x ≤ T then x else T) else T)
def gBk (l x : Int) (a : vH) (r i : Int) : Int := if r = 294 then bkL l x (a 2 294 i) (a 2 295 i) else if r = 295 then bkF l x (a 2 294 i) (a 2 295 i) else if r = 296 then bkT l x (a 2 294 i) (a 2 295 i) (a 2 296 i) else if r = 298 then a 2 298 i + bkB l x (a 2 298 i) (a 2 299 i) else if r = 299 then bkX l x (a 2 298 i) (a 2 299 i) else if r = 302 then a 2 302 i + (if ¬ (a 2 302 i ≤ l) then 1 else 0) else if r = 303 then a 2 303 i + (if ¬ (a 2 303 i < l) then 1 else 0) else if r = 305 then a 2 305 i + bkB l x (a 2 305 i) (a 2 306 i) else if r = 306 then bkX l x (a 2 305 i) (a 2 306 i) else if r = 308 then a 2 308 i + bkB l x (a 2 308 i) (a 2 309 i) else if r = 309 then bkX l x (a 2 308 i) (a 2 309 i) else a 2 r i
noncomputable def tBk (a : vH) (l x : Int) : vH := TT (gBk l x) (tB a l x) 4
section BRK
variable {h h2 a b : vH} {p q P Q X l x s f u t j st r l0 x0 n e m : Int}
theorem gBk_loc : gLoc (gBk l x) := by
  refine ⟨fun a b r i hr e => ?_, fun a b r i hr e => ?_⟩
  · unfold rgL rgS rgV rgF at hr
    unfold gBk
    rw [e 294 (by decide) (by decide), e 295 (by decide) (by decide), e 296 (by decide) (by decide), e 298 (by decide) (by decide), e 299 (by decide) (by decide), e 302 (by decide) (by decide), e 303 (by decide) (by decide), e r (by omega) (by omega)]
    rw [if_neg (show ¬ r = 305 by omega), if_neg (show ¬ r = 306 by omega), if_neg (show ¬ r = 308 by omega), if_neg (show ¬ r = 309 by omega), if_neg (show ¬ r = 305 by omega), if_neg (show ¬ r = 306 by omega), if_neg (show ¬ r = 308 by omega), if_neg (show ¬ r = 309 by omega)]
  · unfold rgC at hr
    unfold gBk
    rw [e 305 (by decide) (by decide), e 306 (by decide) (by decide), e 308 (by decide) (by decide), e 309 (by decide) (by decide), e r (by omega) (by omega)]
    rw [if_neg (show ¬ r = 294 by omega), if_neg (show ¬ r = 295 by omega), if_neg (show ¬ r = 296 by omega), if_neg (show ¬ r = 298 by omega), if_neg (show ¬ r = 299 by omega), if_neg (show ¬ r = 302 by omega), if_neg (show ¬ r = 303 by omega), if_neg (show ¬ r = 294 by omega), if_neg (show ¬ r = 295 by omega), if_neg (show ¬ r = 296 by omega), if_neg (show ¬ r = 298 by omega), if_neg (show ¬ r = 299 by omega), if_neg (show ¬ r = 302 by omega), if_neg (show ¬ r = 303 by omega)]
theorem n2k {k : Nat} (z : stk k = true) : ¬ k = 2 ∧ ¬ k = 1504 := ⟨fun w => (by rw [w] at z; cases z), fun w => (by rw [w] at z; cases z)⟩
theorem cpD_sx : sx a (cpD a e m) := fun k r i z => by
  have n := n2k z
  unfold cpD
  rw [if_neg (fun w => n.1 w.1), if_neg (fun w => n.1 w.1), if_neg (fun w => n.1 w.1)]
theorem tBe_sx : sx a (tBe a l x e) := fun k r i z => by
  have n := n2k z
  unfold tBe
  rw [if_neg (fun w => n.2 w.1), if_neg (fun w => n.1 w.1), if_neg (fun w => n.1 w.1), if_neg (fun w => n.1 w.1)]
  exact cpD_sx k r i z
theorem tB_sx : sx a (tB a l x) := sx_up rfl tBe_sx
end BRK

