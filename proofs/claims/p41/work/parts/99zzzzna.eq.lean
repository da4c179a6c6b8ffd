theorem mCe_eq {a b : vH} {p l : Int} (y : pR a b) : ∀ (f : Nat) (k x : Int), mCe b p l f k x = mCe a p l f k x
  | 0, _, _ => rfl
  | f + 1, k, x => by
    have e : ∀ a : vH, mCe a p l (f + 1) k x = mCe a p l f (k + 1) (if a 2 304 k = 0 then x else (if a 2 302 k = l then max x (a 2 303 k) else x)) := fun _ => rfl
    rw [e, e, y 304 _ (by decide) (by decide), y 302 _ (by decide) (by decide), y 303 _ (by decide) (by decide), mCe_eq y f]
theorem mkR_eq {a b : vH} {lo hi : Int} (y : pR a b) : ∀ (f : Nat) (l r : Int), mkR b lo hi f l r = mkR a lo hi f l r
  | 0, _, _ => rfl
  | f + 1, l, r => by
    have e : ∀ a : vH, mkR a lo hi (f + 1) l r = mkR a lo hi f (l + 1) (r + b2i ((lo ≤ l ∧ l ≤ hi) ∧ ¬ (a 2 285 l = 0))) := fun _ => rfl
    rw [e, e, y 285 _ (by decide) (by decide), mkR_eq y f]
theorem mkE_eq {a b : vH} {p l : Int} (y : pR a b) : mkE b p l = mkE a p l := by
  unfold mkE
  rw [mCe_eq y, y 301 _ (by decide) (by decide)]
theorem mkV_eq {a b : vH} {p r : Int} (y : eqA a b) : mkV b p r = mkV a p r := by
  unfold mkV
  rw [mLn_eq y.1, mRA_eq y.1, mkE_eq y.1, y.2.1, mkR_eq y.1]
section MRK
variable {a b h : vH} {p P r : Int}
end MRK

section CLC
variable {h h1 a b : vH} {p r i w : Int}
theorem vCt_eq (y : pR a b) : vCt b p r = vCt a p r := by
  unfold vCt
  rw [mLn_eq y, rwJ_eq y, rS_eq y, rS_eq y]
end CLC

section CEL
variable {h h1 a b : vH} {p r i w : Int}
theorem vCe_eq (y : pR a b) : vCe b p r i w = vCe a p r i w := by
  unfold vCe ceI
  rw [mLn_eq y, rwJ_eq y, rS_eq y, mCL_eq y, y 286 _ (by decide) (by decide), y 287 _ (by decide) (by decide)]
end CEL

section DRW
variable {h h1 h2 a b : vH} {p t l x r k c : Int}
theorem pkV_eq (y : pR a b) : pkV b p r c = pkV a p r c := by
  unfold pkV
  rw [vCe_eq y, vCe_eq y, vCe_eq y, vCe_eq y, vCe_eq y]
end DRW

