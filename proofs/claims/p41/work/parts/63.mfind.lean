/-- the parts of the reference that laying out doesn't touch -/
def pR (h h1 : vH) : Prop := ∀ r i : Int, (283 ≤ r ∧ ¬ (289 ≤ r ∧ r ≤ 292)) → r ≤ 304 → h1 2 r i = h 2 r i
theorem pR_rf {h : vH} : pR h h := fun _ _ _ _ => rfl
theorem mF_pR {A : List Int} {K : List Nat} {h h1 : vH} (x : mF A K h h1) (hA : ∀ r ∈ A, r < 283 ∨ 304 < r) (hK : ∀ k ∈ K, k ≠ 2) : pR h h1 := fun r i e f => x 2 r i (fun z => by have := hA r z.2; omega) (fun z => by omega)
theorem mInv_eq {h h1 : vH} {p l : Int} (x : pR h h1) : mInv h1 p l = mInv h p l := by
  unfold mInv
  rw [x _ _ (by decide) (by decide)]
  congr 1
  funext k
  rw [x _ _ (by decide) (by decide), x _ _ (by decide) (by decide), x _ _ (by decide) (by decide)]
theorem mHid_eq {h h1 : vH} {p l y : Int} (x : pR h h1) : mHid h1 p l y = mHid h p l y := by
  unfold mHid
  rw [x _ _ (by decide) (by decide)]
  congr 1
  funext k
  rw [x _ _ (by decide) (by decide), x _ _ (by decide) (by decide), x _ _ (by decide) (by decide)]
theorem mFst_eq {h h1 : vH} {p l : Int} (x : pR h h1) : mFst h1 p l = mFst h p l := by
  unfold mFst
  rw [x _ _ (by decide) (by decide)]
  congr 1
  funext k
  rw [x _ _ (by decide) (by decide), x _ _ (by decide) (by decide)]
theorem mVn_add {a : vH} {l lo m hi : Int} (h1 : lo ≤ m + 1) (h2 : m ≤ hi) : ∀ (n : Nat) (k : Int), mVn a l lo m n k + mVn a l (m + 1) hi n k = mVn a l lo hi n k
  | 0, _ => rfl
  | n + 1, k => by
    have ih := mVn_add (a := a) (l := l) h1 h2 n (k + 1)
    unfold mVn
    have e : (@ite _ (mVon a l lo m k) (Classical.propDecidable _) 8 0 : Nat) + @ite _ (mVon a l (m + 1) hi k) (Classical.propDecidable _) 8 0 = @ite _ (mVon a l lo hi k) (Classical.propDecidable _) 8 0 := by
      by_cases c : mVon a l lo m k
      · have c2 : ¬ mVon a l (m + 1) hi k := fun z => by unfold mVon at c z; omega
        have c3 : mVon a l lo hi k := by unfold mVon at c ⊢; omega
        rw [if_pos c, if_neg c2, if_pos c3]
      · by_cases c2 : mVon a l (m + 1) hi k
        · have c3 : mVon a l lo hi k := by unfold mVon at c2 ⊢; omega
          rw [if_neg c, if_pos c2, if_pos c3]
        · have c3 : ¬ mVon a l lo hi k := fun z => by unfold mVon at c c2 z; omega
          rw [if_neg c, if_neg c2, if_neg c3]
    omega
theorem mVn_le {a : vH} {l lo hi : Int} : ∀ (n : Nat) (k : Int), mVn a l lo hi n k ≤ 8 * n
  | 0, _ => Nat.le_refl _
  | n + 1, k => by
    have := mVn_le (a := a) (l := l) (lo := lo) (hi := hi) n (k + 1)
    unfold mVn
    split <;> omega
/-- where the cluster ends, looked for from e on -/
def mEnd (a : vH) (l : Int) : Nat → Int → Int
  | 0, e => e
  | n + 1, e => if a 2 284 l ≤ e then e else if a 2 283 (80 * l + e) = 126 then mEnd a l n (e + 1) else e
theorem mEnd_ge {a : vH} {l : Int} : ∀ (n : Nat) (e : Int), e ≤ mEnd a l n e
  | 0, _ => Int.le_refl _
  | n + 1, e => by
    have := mEnd_ge (a := a) (l := l) n (e + 1)
    unfold mEnd
    split
    · omega
    · split <;> omega
theorem mEnd_le {a : vH} {l : Int} : ∀ (n : Nat) (e : Int), e ≤ a 2 284 l → mEnd a l n e ≤ a 2 284 l
  | 0, _, h => h
  | n + 1, e, h => by
    have := mEnd_le (a := a) (l := l) n (e + 1)
    unfold mEnd
    split
    · omega
    · split <;> omega
noncomputable def mDots (a : vH) (p l : Int) : List Clu := @ite _ (mFst a p l) (Classical.propDecidable _) [(46, 1, -1, a 2 284 l), (46, 1, -1, a 2 284 l), (46, 1, -1, a 2 284 l)] []
/-- the clusters of a line behind a place: virtual texts from the place lo on, signs from the place k on -/
noncomputable def mTx (a : vH) (p l : Int) : Nat → Int → Int → List Clu
  | 0, lo, _ => mVt a l lo 80 (a 2 297 p).toNat (6 * p) ++ mDots a p l
  | n + 1, lo, k => if a 2 284 l ≤ k then mVt a l lo 80 (a 2 297 p).toNat (6 * p) ++ mDots a p l else
    mVt a l lo k (a 2 297 p).toNat (6 * p) ++ (@ite _ (mHid a p l k) (Classical.propDecidable _) [] [(a 2 283 (80 * l + k), mEnd a l 80 (k + 1) - k, k, k)] ++ mTx a p l n (k + 1) (mEnd a l 80 (k + 1)))
noncomputable def mCL (a : vH) (p l : Int) : List Clu := mTx a p l 81 0 0
/-- what laying out asks of the reference -/
def mOKp (h : vH) (p : Int) : Prop := 0 ≤ h 2 293 p ∧ h 2 293 p ≤ 6 ∧ 0 ≤ h 2 297 p ∧ h 2 297 p ≤ 6 ∧ 0 ≤ h 2 301 p ∧ h 2 301 p ≤ 6 ∧ (∀ k, 6 * p ≤ k → k < 6 * p + h 2 293 p → 0 ≤ h 2 296 k ∧ h 2 296 k ≤ 80)
theorem mOKp_eq {h h1 : vH} {p : Int} (x : pR h h1) (o : mOKp h p) : mOKp h1 p := by
  obtain ⟨o1, o2, o3, o4, o5, o6, o7⟩ := o
  have e1 := x 293 p (by decide) (by decide)
  have e2 := x 297 p (by decide) (by decide)
  have e3 := x 301 p (by decide) (by decide)
  refine ⟨by omega, by omega, by omega, by omega, by omega, by omega, fun k a b => ?_⟩
  rw [x 296 k (by decide) (by decide)]
  exact o7 k a (by omega)
section FC
variable {h : vH} {p l : Int}
end FC
section FC2
variable {h : vH} {p l : Int}
theorem mVt_eq {h h1 : vH} {l lo hi : Int} (x : pR h h1) : ∀ (n : Nat) (k : Int), mVt h1 l lo hi n k = mVt h l lo hi n k
  | 0, _ => rfl
  | n + 1, k => by
    have ih := mVt_eq (l := l) (lo := lo) (hi := hi) x n (k + 1)
    unfold mVt mVon
    rw [ih, x _ _ (by decide) (by decide), x _ _ (by decide) (by decide), x _ _ (by decide) (by decide)]
theorem mEnd_eq {h h1 : vH} {l : Int} (x : pR h h1) : ∀ (n : Nat) (e : Int), mEnd h1 l n e = mEnd h l n e
  | 0, _ => rfl
  | n + 1, e => by
    have ih := mEnd_eq (l := l) x n (e + 1)
    unfold mEnd
    rw [ih, x _ _ (by decide) (by decide), x _ _ (by decide) (by decide)]
theorem mDots_eq {h h1 : vH} (x : pR h h1) : mDots h1 p l = mDots h p l := by
  unfold mDots
  rw [mFst_eq x, x _ _ (by decide) (by decide)]
theorem mTx_eq {h h1 : vH} (x : pR h h1) : ∀ (n : Nat) (lo k : Int), mTx h1 p l n lo k = mTx h p l n lo k
  | 0, _, _ => by
    unfold mTx
    rw [mVt_eq x, mDots_eq x, x _ _ (by decide) (by decide)]
  | n + 1, lo, k => by
    have ih := mTx_eq x n
    unfold mTx
    rw [mVt_eq x, mVt_eq x, mDots_eq x, mEnd_eq x, ih, mHid_eq x, x 297 p (by decide) (by decide), x 284 l (by decide) (by decide), x 283 _ (by decide) (by decide)]
theorem mCL_eq {h h1 : vH} (x : pR h h1) : mCL h1 p l = mCL h p l := mTx_eq x _ _ _
end FC2

