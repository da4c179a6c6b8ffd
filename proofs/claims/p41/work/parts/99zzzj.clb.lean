/-! clusters' numbers are small -/
/-- the signs of virtual texts are signs: a further invariant -/
def iVs (a : vH) : Prop := ∀ k, 0 ≤ k → k < 24 → ∀ b : Int, 0 ≤ b → b ≤ 56 → b % 8 = 0 → vsg (a 2 300 k) b ≤ 127
/-- the numbers of clusters -/
def okC (L : List Clu) : Prop := ∀ c ∈ L, (0 ≤ c.1 ∧ c.1 ≤ 127) ∧ 0 ≤ c.2.1 ∧ c.2.1 ≤ 127
section CLB
variable {a b : vH} {p l : Int}
theorem okC_nil : okC [] := fun c h => by cases h
theorem okC_app {L M : List Clu} (x : okC L) (y : okC M) : okC (L ++ M) := fun c h => (List.mem_append.mp h).elim (x c) (y c)
theorem vch_ok {z : Int} : ∀ (n : Nat) (b : Int), (∀ c : Int, b ≤ c → c < b + 8 * n → (c - b) % 8 = 0 → vsg z c ≤ 127) → ∀ s ∈ vch z n b, 0 ≤ s ∧ s ≤ 127
  | 0, _, _ => fun s h => by cases h
  | n + 1, b, e => by
    intro s h
    unfold vch at h
    rcases List.mem_append.mp h with z1 | z1
    · split at z1
      · cases z1
      · rename_i y
        rw [List.mem_singleton] at z1
        rw [z1]
        exact ⟨by omega, e b (Int.le_refl _) (by omega) (by omega)⟩
    · exact vch_ok n (b + 8) (fun c u v w => e c (by omega) (by omega) (by omega)) s z1
theorem mVt_ok (t : iVs a) {lo hi : Int} : ∀ (n : Nat) (k : Int), 0 ≤ k → k + n ≤ 24 → okC (mVt a l lo hi n k)
  | 0, _, _, _ => okC_nil
  | n + 1, k, h0, h24 => by
    unfold mVt
    refine okC_app ?_ (mVt_ok t n (k + 1) (by omega) (by omega))
    by_cases c : mVon a l lo hi k
    · rw [if_pos c]
      intro x hx
      obtain ⟨s, s1, s2⟩ := List.mem_map.mp hx
      have q := vch_ok 8 0 (fun c u v w => t k h0 (by omega) c u (by omega) (by omega)) s s1
      rw [← s2]
      exact ⟨q, by show (0 : Int) ≤ 1; decide, by show (1 : Int) ≤ 127; decide⟩
    · rw [if_neg c]
      exact okC_nil
theorem mDots_ok : okC (mDots a p l) := by
  unfold mDots
  by_cases c : mFst a p l
  · rw [if_pos c]
    intro x hx
    have : x = (46, 1, -1, a 2 284 l) := by
      simp only [List.mem_cons, List.not_mem_nil, or_false] at hx
      rcases hx with e | e | e <;> exact e
    rw [this]
    exact ⟨⟨by show (0 : Int) ≤ 46; decide, by show (46 : Int) ≤ 127; decide⟩, by show (0 : Int) ≤ 1; decide, by show (1 : Int) ≤ 127; decide⟩
  · rw [if_neg c]
    exact okC_nil
theorem mEnd_nn : ∀ (n : Nat) (e : Int), e ≤ mEnd a l n e ∧ mEnd a l n e ≤ e + n
  | 0, e => ⟨Int.le_refl _, by show e ≤ e + ((0 : Nat) : Int); omega⟩
  | n + 1, e => by
    have := mEnd_nn n (e + 1)
    unfold mEnd
    split
    · omega
    · split <;> omega
theorem mTx_ok (g : iG a) (i : iH a) (t : iVs a) (hp : 0 ≤ p ∧ p < 4) (hl : 0 ≤ l ∧ l < a 1504 282 0) : ∀ (n : Nat) (lo k : Int), 0 ≤ k → okC (mTx a p l n lo k)
  | 0, lo, k, _ => by
    have n6 := (iG_n6 g p hp.1 hp.2).2.1
    unfold mTx
    exact okC_app (mVt_ok t _ _ (by omega) (by omega)) mDots_ok
  | n + 1, lo, k, hk => by
    have n6 := (iG_n6 g p hp.1 hp.2).2.1
    unfold mTx
    by_cases c : a 2 284 l ≤ k
    · rw [if_pos c]
      exact okC_app (mVt_ok t _ _ (by omega) (by omega)) mDots_ok
    · rw [if_neg c]
      have e := mEnd_nn (a := a) (l := l) 80 (k + 1)
      refine okC_app (mVt_ok t _ _ (by omega) (by omega)) (okC_app ?_ (mTx_ok g i t hp hl n _ _ (by omega)))
      by_cases y : mHid a p l k
      · rw [if_pos y]; exact okC_nil
      · rw [if_neg y]
        intro x hx
        rw [List.mem_singleton] at hx
        rw [hx]
        have s := i.2.2.2.2.2.2 l k hl.1 hl.2 hk (by omega)
        exact ⟨s, by show 0 ≤ mEnd a l 80 (k + 1) - k; omega, by show mEnd a l 80 (k + 1) - k ≤ 127; omega⟩
theorem mCL_ok (g : iG a) (i : iH a) (t : iVs a) (hp : 0 ≤ p ∧ p < 4) (hl : 0 ≤ l ∧ l < a 1504 282 0) : okC (mCL a p l) := mTx_ok g i t hp hl 81 0 0 (Int.le_refl _)
theorem okC_at {L : List Clu} (o : okC L) (k : Int) : (0 ≤ sg L k ∧ sg L k ≤ 127) ∧ 0 ≤ mn L k ∧ mn L k ≤ 127 := by
  unfold sg mn
  by_cases h : k.toNat < L.length
  · have e : L.getD k.toNat (0, 0, 0, 0) = L[k.toNat] := by
      rw [List.getD_eq_getElem?_getD, List.getElem?_eq_getElem h]
      rfl
    rw [e]
    exact o _ (List.getElem_mem h)
  · have e : L.getD k.toNat (0, 0, 0, 0) = (0, 0, 0, 0) := by
      rw [List.getD_eq_getElem?_getD, List.getElem?_eq_none (by omega)]
      rfl
    rw [e]
    decide
/-- the number of all that a picture keeps of a cluster -/
noncomputable def pkV (a : vH) (p r c : Int) : Int := vCe a p r c 0 + 128 * vCe a p r c 1 + 16384 * (vCe a p r c 2 + 64 * vCe a p r c 3 + 512 * vCe a p r c 4)
theorem vCe_in (g : iG a) (i : iH a) (t : iVs a) (hp : 0 ≤ p ∧ p < 4) {r c : Int} (hr : isRw a p r) (hc : 0 ≤ c ∧ c < vCt a p r) : (0 ≤ vCe a p r c 0 ∧ vCe a p r c 0 ≤ 127) ∧ (0 ≤ vCe a p r c 1 ∧ vCe a p r c 1 ≤ 127) ∧ (0 ≤ vCe a p r c 2 ∧ vCe a p r c 2 ≤ 40) ∧ (0 ≤ vCe a p r c 3 ∧ vCe a p r c 3 ≤ 4) ∧ (0 ≤ vCe a p r c 4 ∧ vCe a p r c 4 ≤ 136) := by
  have w0 := rw_in g.1 hp hr
  have l1 := w0.1
  have gp := g.1.2.2.2 p hp.1 hp.2
  obtain ⟨R, q1, q2, -⟩ := mR_is g.1 hp (l := mLn a p r) ⟨l1.1, l1.2.2⟩
  obtain ⟨-, n131, -⟩ := P_rows g.1 hp (l := mLn a p r) ⟨l1.1, l1.2.2⟩
  have n131' : (mCL a p (mLn a p r)).length ≤ 131 := n131
  have ok := okC_at (mCL_ok g i t hp (l := mLn a p r) ⟨l1.1, l1.2.1⟩)
  have S := rS_in (l := mLn a p r) g.1 hp (rwJ a p r)
  have cu : rS a p (mLn a p r) (rwJ a p r) ≤ rS a p (mLn a p r) (rwJ a p r) + c ∧ rS a p (mLn a p r) (rwJ a p r) + c < rS a p (mLn a p r) (rwJ a p r + 1) := by
    unfold vCt at hc
    omega
  have rf := (row_f gp.2.2 gp.2.1.1 q1 q2 (rwJ a p r)).1 (rS a p (mLn a p r) (rwJ a p r) + c) cu.1 cu.2
  have eI : lS (sg (mCL a p (mLn a p r))) (mCL a p (mLn a p r)).length (a 2 286 p) (a 2 287 p) (rS a p (mLn a p r) (rwJ a p r) + c) = ceI a p r c := rfl
  rw [eI] at rf
  have rf1 : rS a p (mLn a p r) (rwJ a p r) ≤ ceI a p r c := rf.1
  have rf2 : ceI a p r c < rS a p (mLn a p r) (rwJ a p r + 1) := rf.2
  have C := lC_sm gp.2.2 gp.2.1.1 q1 q2 n131' (c := ceI a p r c) (by omega) (by omega)
  have V := lV_sm (s := sg (mCL a p (mLn a p r))) (W := a 2 286 p) gp.2.2 gp.2.1.1 n131' (c := ceI a p r c) (by omega) (by omega)
  have W40 := gp.2.1.2
  refine ⟨(ok (ceI a p r c)).1, (ok (ceI a p r c)).2, ?_, ?_, V⟩
  · show 0 ≤ lC (sg (mCL a p (mLn a p r))) (mCL a p (mLn a p r)).length (a 2 286 p) (a 2 287 p) (ceI a p r c) ∧ lC (sg (mCL a p (mLn a p r))) (mCL a p (mLn a p r)).length (a 2 286 p) (a 2 287 p) (ceI a p r c) ≤ 40
    omega
  · show 0 ≤ lW (sg (mCL a p (mLn a p r))) (mCL a p (mLn a p r)).length (a 2 286 p) (a 2 287 p) (ceI a p r c) ∧ lW (sg (mCL a p (mLn a p r))) (mCL a p (mLn a p r)).length (a 2 286 p) (a 2 287 p) (ceI a p r c) ≤ 4
    omega
theorem vCt_in (g : iG a) (hp : 0 ≤ p ∧ p < 4) {r : Int} (hr : isRw a p r) : 0 ≤ vCt a p r ∧ vCt a p r ≤ 131 := by
  have w := rw_in g.1 hp hr
  obtain ⟨-, n131, -⟩ := P_rows g.1 hp (l := mLn a p r) ⟨w.1.1, w.1.2.2⟩
  have n131' : (mCL a p (mLn a p r)).length ≤ 131 := n131
  have S := rS_in (l := mLn a p r) g.1 hp (rwJ a p r)
  unfold vCt
  omega
end CLB

