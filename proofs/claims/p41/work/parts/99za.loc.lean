/-! a line of a pane is the same -/
def lnE (a b : vH) (p l : Int) : Prop := b 2 284 l = a 2 284 l ∧ (∀ i, 0 ≤ i → i < a 2 284 l → b 2 283 (80 * l + i) = a 2 283 (80 * l + i)) ∧ mInv b p l = mInv a p l ∧ (∀ y, mHid b p l y = mHid a p l y) ∧ mFst b p l = mFst a p l ∧ (∀ lo hi, mVt b l lo hi (b 2 297 p).toNat (6 * p) = mVt a l lo hi (a 2 297 p).toNat (6 * p)) ∧ b 2 286 p = a 2 286 p ∧ b 2 287 p = a 2 287 p
section LOC
variable {a b : vH} {p l : Int}
theorem mEnd_loc (x : lnE a b p l) : ∀ (n : Nat) (e : Int), 0 ≤ e → mEnd b l n e = mEnd a l n e
  | 0, _, _ => rfl
  | n + 1, e, he => by
    have ih := mEnd_loc x n (e + 1) (by omega)
    unfold mEnd
    rw [ih, x.1]
    by_cases z : a 2 284 l ≤ e
    · rw [if_pos z, if_pos z]
    · rw [if_neg z, if_neg z, x.2.1 e he (by omega)]
theorem mDots_loc (x : lnE a b p l) : mDots b p l = mDots a p l := by
  unfold mDots
  rw [x.2.2.2.2.1, x.1]
theorem mTx_loc (x : lnE a b p l) : ∀ (n : Nat) (lo k : Int), 0 ≤ k → mTx b p l n lo k = mTx a p l n lo k
  | 0, _, _, _ => by
    unfold mTx
    rw [x.2.2.2.2.2.1, mDots_loc x]
  | n + 1, lo, k, hk => by
    have ge := mEnd_ge (a := a) (l := l) 80 (k + 1)
    have ih := mTx_loc x n (k + 1) (mEnd a l 80 (k + 1)) (by omega)
    unfold mTx
    rw [x.1]
    by_cases z : a 2 284 l ≤ k
    · rw [if_pos z, if_pos z, x.2.2.2.2.2.1, mDots_loc x]
    · rw [if_neg z, if_neg z, x.2.2.2.2.2.1, mEnd_loc x 80 (k + 1) (by omega), ih, x.2.2.2.1, x.2.1 k hk (by omega)]
theorem mCL_loc (x : lnE a b p l) : mCL b p l = mCL a p l := mTx_loc x _ _ _ (Int.le_refl _)
theorem mS_loc (x : lnE a b p l) : mS b p l = mS a p l := by unfold mS; rw [mCL_loc x]
theorem mN_loc (x : lnE a b p l) : mN b p l = mN a p l := by unfold mN; rw [mCL_loc x]
theorem mRC_loc (x : lnE a b p l) : mRC b p l = mRC a p l := by
  unfold mRC
  rw [x.2.2.1, mS_loc x, mN_loc x, x.2.2.2.2.2.2.1, x.2.2.2.2.2.2.2]
theorem mRA_loc : ∀ l : Nat, (∀ j : Nat, j < l → lnE a b p j) → mRA b p l = mRA a p l
  | 0, _ => rfl
  | l + 1, x => by
    unfold mRA
    rw [mRA_loc l (fun j hj => x j (by omega)), mRC_loc (x l (by omega))]
theorem cLaid_loc {h : vH} {P : Int} {w : Prop} (x : lnE a b p l) (c : cLaid h a p l P w) : cLaid h b p l P w := by
  unfold cLaid
  rw [mCL_loc x, mS_loc x, mN_loc x, x.1, x.2.2.2.2.2.2.1, x.2.2.2.2.2.2.2]
  exact c
theorem cLd_loc {h : vH} {P : Int} (el : b 1504 282 0 = a 1504 282 0) (x : ∀ l, 0 ≤ l → l < a 1504 282 0 → lnE a b p l) (c : cLd h a p P) : cLd h b p P := by
  unfold cLd
  rw [el]
  exact c.imp (fun z => z) (fun z => ⟨z.1, z.2.1, z.2.2.1, cLaid_loc (x _ z.1 z.2.1) z.2.2.2⟩)
theorem mAll_loc (el : b 1504 282 0 = a 1504 282 0) (x : ∀ l, 0 ≤ l → l < a 1504 282 0 → lnE a b p l) : mAll b p = mAll a p := by
  unfold mAll
  rw [el]
  exact mRA_loc _ (fun j hj => x j (by omega) (by omega))
theorem cCnt_loc {h : vH} {P : Int} (el : b 1504 282 0 = a 1504 282 0) (x : ∀ l, 0 ≤ l → l < a 1504 282 0 → lnE a b p l) (c : cCnt h a p P) : cCnt h b p P := by
  obtain ⟨c1, c2⟩ := c
  refine ⟨fun l u v => ?_, ?_⟩
  · rw [el]
    exact (c1 l u v).imp (fun z => z) (fun z => ⟨z.1, by rw [mRC_loc (x l u z.1)]; exact z.2⟩)
  · refine c2.imp (fun z => z) (fun z => ⟨z.1, fun l hl => ?_, by rw [mAll_loc el x]; exact z.2.2⟩)
    rw [el] at hl
    rw [mRC_loc (x l (by omega) hl), mRA_loc l (fun j hj => x j (by omega) (by omega))]
    exact z.2.1 l hl
/-- the layers of a pane are the same -/
def lyr (r : Int) : Prop := (294 ≤ r ∧ r ≤ 296) ∨ (298 ≤ r ∧ r ≤ 300) ∨ (302 ≤ r ∧ r ≤ 304)
theorem any_loc {P Q : Int → Prop} {i n : Int} (e : ∀ k, i ≤ k → k < n → P k = Q k) : anyI P i n = anyI Q i n := propext ⟨fun ⟨j, u, v, w⟩ => ⟨j, u, v, by rw [← e j u v]; exact w⟩, fun ⟨j, u, v, w⟩ => ⟨j, u, v, by rw [e j u v]; exact w⟩⟩
theorem mVt_loc {lo hi : Int} : ∀ (n : Nat) (k : Int), (∀ r i, lyr r → k ≤ i → i < k + n → b 2 r i = a 2 r i) → mVt b l lo hi n k = mVt a l lo hi n k
  | 0, _, _ => rfl
  | n + 1, k, e => by
    have ih := mVt_loc (lo := lo) (hi := hi) n (k + 1) (fun r i u w z => e r i u (by omega) (by omega))
    unfold mVt mVon
    rw [ih, e 298 k (by unfold lyr; decide) (by omega) (by omega), e 299 k (by unfold lyr; decide) (by omega) (by omega), e 300 k (by unfold lyr; decide) (by omega) (by omega)]
theorem lnE_of (o : mOKp a p) (e1 : b 2 293 p = a 2 293 p) (e2 : b 2 297 p = a 2 297 p) (e3 : b 2 301 p = a 2 301 p) (e : ∀ r i, lyr r → 6 * p ≤ i → i < 6 * p + 6 → b 2 r i = a 2 r i) (ew : b 2 286 p = a 2 286 p) (ed : b 2 287 p = a 2 287 p) (el : b 2 284 l = a 2 284 l) (es : ∀ i, 0 ≤ i → i < a 2 284 l → b 2 283 (80 * l + i) = a 2 283 (80 * l + i)) : lnE a b p l := by
  obtain ⟨o1, o2, o3, o4, o5, o6, o7⟩ := o
  refine ⟨el, es, ?_, fun y => ?_, ?_, fun lo hi => ?_, ew, ed⟩
  · unfold mInv
    rw [e3]
    exact any_loc (fun k u v => by rw [e 304 k (by unfold lyr; decide) u (by omega), e 302 k (by unfold lyr; decide) u (by omega), e 303 k (by unfold lyr; decide) u (by omega)])
  · unfold mHid
    rw [e1]
    exact any_loc (fun k u v => by rw [e 294 k (by unfold lyr; decide) u (by omega), e 295 k (by unfold lyr; decide) u (by omega), e 296 k (by unfold lyr; decide) u (by omega)])
  · unfold mFst
    rw [e3]
    exact any_loc (fun k u v => by rw [e 304 k (by unfold lyr; decide) u (by omega), e 302 k (by unfold lyr; decide) u (by omega)])
  · rw [e2]
    exact mVt_loc _ _ (fun r i u w z => e r i u w (by omega))
end LOC

