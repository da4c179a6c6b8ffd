/-! signs go: the reference -/
/-- where a place goes when the signs f to u of the line l go -/
def weX (l f u L X : Int) : Int := if L = l then (if f < X then (if u ≤ X then X - (u - f) else f) else X) else X
def gWe (l f u : Int) (a : vH) (r i : Int) : Int := if r = 295 then weX l f u (a 2 294 i) (a 2 295 i) else if r = 296 then weX l f u (a 2 294 i) (a 2 296 i) else if r = 299 then weX l f u (a 2 298 i) (a 2 299 i) else if r = 306 then weX l f u (a 2 305 i) (a 2 306 i) else if r = 309 then weX l f u (a 2 308 i) (a 2 309 i) else a 2 r i
/-- signs are taken out, up to the sign e -/
def tOe (a : vH) (l f u e : Int) : vH := fun k r i => if k = 2 ∧ r = 284 ∧ i = l then a 2 284 l - (u - f) else if k = 2 ∧ r = 283 ∧ 80 * l + f ≤ i ∧ i < e then a 2 283 (i + u - f) else a k r i
def tO (a : vH) (l f u : Int) : vH := tOe a l f u (80 * l + (a 2 284 l - (u - f)))
/-- the empty ones of the first k spans of a pane are dropped, from the last one down -/
def dEk (p : Int) : Nat → vH → vH
  | 0, a => a
  | k + 1, a => dEk p k (if a 2 295 (6 * p + k) = a 2 296 (6 * p + k) then dR a p 0 k else a)
def dE (a : vH) (p : Int) : vH := dEk p (a 2 293 p).toNat a
/-- the reference when signs have gone -/
noncomputable def tWe (a : vH) (l f u : Int) : vH := TT (gWe l f u) (tO a l f u) 4
noncomputable def tWd (a : vH) (l f u : Int) : vH := dE (dE (dE (dE (tWe a l f u) 0) 1) 2) 3
section WNT
variable {h h2 a b : vH} {p q P Q X l x s f u t j st r l0 x0 n e : Int}
theorem gWe_loc : gLoc (gWe l f u) := by
  refine ⟨fun a b r i hr e => ?_, fun a b r i hr e => ?_⟩
  · unfold rgL rgS rgV rgF at hr
    unfold gWe
    rw [e 294 (by decide) (by decide), e 295 (by decide) (by decide), e 296 (by decide) (by decide), e 298 (by decide) (by decide), e 299 (by decide) (by decide), e r (by omega) (by omega), if_neg (show ¬ r = 306 by omega), if_neg (show ¬ r = 309 by omega), if_neg (show ¬ r = 306 by omega), if_neg (show ¬ r = 309 by omega)]
  · unfold rgC at hr
    unfold gWe
    rw [e 305 (by decide) (by decide), e 306 (by decide) (by decide), e 308 (by decide) (by decide), e 309 (by decide) (by decide), e r (by omega) (by omega), if_neg (show ¬ r = 295 by omega), if_neg (show ¬ r = 296 by omega), if_neg (show ¬ r = 299 by omega), if_neg (show ¬ r = 295 by omega), if_neg (show ¬ r = 296 by omega), if_neg (show ¬ r = 299 by omega)]
theorem tOe_sx : sx a (tOe a l f u e) := fun k r i z => (if_neg (fun w => by rw [w.1] at z; cases z)).trans (if_neg (fun w => by rw [w.1] at z; cases z))
theorem tO_o {k : Nat} {r i : Int} (n : ¬ (k = 2 ∧ (r = 283 ∨ r = 284))) : tO a l f u k r i = a k r i := by
  unfold tO tOe
  rw [if_neg (fun w => n ⟨w.1, Or.inr w.2.1⟩), if_neg (fun w => n ⟨w.1, Or.inl w.2.1⟩)]
theorem tO_l {i : Int} : tO a l f u 2 284 i = if i = l then a 2 284 l - (u - f) else a 2 284 i := by
  unfold tO tOe
  by_cases z : i = l
  · rw [if_pos z, if_pos ⟨rfl, rfl, z⟩]
  · rw [if_neg z, if_neg (fun w => z w.2.2), if_neg (fun w => absurd w.2.1 (by decide))]
theorem tO_s {i : Int} : tO a l f u 2 283 i = if 80 * l + f ≤ i ∧ i < 80 * l + (a 2 284 l - (u - f)) then a 2 283 (i + u - f) else a 2 283 i := by
  unfold tO tOe
  rw [if_neg (fun w => absurd w.2.1 (by decide))]
  by_cases z : 80 * l + f ≤ i ∧ i < 80 * l + (a 2 284 l - (u - f))
  · rw [if_pos z, if_pos ⟨rfl, rfl, z⟩]
  · rw [if_neg z, if_neg (fun w => z w.2.2)]
theorem tO_eqTx : eqTx a (tO a l f u) := fun k r i n _ => tO_o (fun w => n ⟨w.1, by omega⟩)
theorem tO_bd (bd : bdP a) : bdP (tO a l f u) := by
  refine ⟨fun r i hr u v => ?_, fun r i hr u v => ?_⟩
  · rw [tO_o (fun w => by unfold rgL rgS rgV rgF at hr; omega)]
    exact bd.1 r i hr u v
  · rw [tO_o (fun w => by unfold rgC at hr; omega)]
    exact bd.2 r i hr u v
theorem dEk_sx : ∀ (k : Nat) (a : vH), sx a (dEk p k a)
  | 0, _ => sx_rf
  | k + 1, a => by
    unfold dEk
    split
    · exact sx_tr dR_sx (dEk_sx k _)
    · exact dEk_sx k _
/-- outside of the spans of a pane nothing changes -/
theorem dEk_o {i : Int} {kk : Nat} {r : Int} (hp : 0 ≤ p ∧ p < 4) (n : ¬ (kk = 2 ∧ (r = 293 ∧ i = p ∨ 294 ≤ r ∧ r ≤ 296 ∧ 6 * p ≤ i ∧ i < 6 * p + 6))) : ∀ (k : Nat) (a : vH), a 2 293 p ≤ 6 → (k : Int) ≤ a 2 293 p → dEk p k a kk r i = a kk r i
  | 0, _, _, _ => rfl
  | k + 1, a, h6, hk => by
    have e1 : dR a p 0 k kk r i = a kk r i := by
      unfold dR
      rw [if_neg (by omega), if_neg (by
        have : a 2 (293 + 4 * 0) p = a 2 293 p := rfl
        omega)]
    have e2 : dR a p 0 k 2 293 p = a 2 293 p - 1 := if_pos ⟨rfl, rfl, rfl⟩
    unfold dEk
    split
    · rw [dEk_o hp n k _ (by omega) (by omega), e1]
    · exact dEk_o hp n k a h6 (by omega)
theorem dE_o {i : Int} {kk : Nat} {r : Int} (hp : 0 ≤ p ∧ p < 4) (n6 : 0 ≤ a 2 293 p ∧ a 2 293 p ≤ 6) (n : ¬ (kk = 2 ∧ (r = 293 ∧ i = p ∨ 294 ≤ r ∧ r ≤ 296 ∧ 6 * p ≤ i ∧ i < 6 * p + 6))) : dE a p kk r i = a kk r i := dEk_o hp n _ a n6.2 (by omega)
end WNT

