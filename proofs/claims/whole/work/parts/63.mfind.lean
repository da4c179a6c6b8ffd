/-- the parts of the reference that laying out doesn't touch -/
def pR (h h1 : vH) : Prop := ∀ r i : Int, (283 ≤ r ∧ ¬ (289 ≤ r ∧ r ≤ 292)) → r ≤ 304 → h1 2 r i = h 2 r i
theorem pR_rf {h : vH} : pR h h := fun _ _ _ _ => rfl
theorem pR_tr {a b c : vH} (x : pR a b) (y : pR b c) : pR a c := fun r i e f => (y r i e f).trans (x r i e f)
theorem mF_pR {A : List Int} {K : List Nat} {h h1 : vH} (x : mF A K h h1) (hA : ∀ r ∈ A, r < 283 ∨ 304 < r) (hK : ∀ k ∈ K, k ≠ 2) : pR h h1 := fun r i e f => x 2 r i (fun z => by have := hA r z.2; omega) (fun z => by omega)
theorem mInv_eq {h h1 : vH} {p l : Int} (x : pR h h1) : mInv h1 p l = mInv h p l := by
  unfold mInv
  rw [x _ _ (by decide) (by decide)]
  congr 1
  funext k
  rw [x _ _ (by decide) (by decide), x _ _ (by decide) (by decide), x _ _ (by decide) (by decide)]
theorem mHid_eq {h h1 : vH} {p l y : Int} (x : pR h h1) : mHid h1 p l y = mHid h p l y := by
  unfold mHid
  rw [x _ _ (by decide) (by decide)]
  congr 1
  funext k
  rw [x _ _ (by decide) (by decide), x _ _ (by decide) (by decide), x _ _ (by decide) (by decide)]
theorem mFst_eq {h h1 : vH} {p l : Int} (x : pR h h1) : mFst h1 p l = mFst h p l := by
  unfold mFst
  rw [x _ _ (by decide) (by decide)]
  congr 1
  funext k
  rw [x _ _ (by decide) (by decide), x _ _ (by decide) (by decide)]
theorem mVn_add {a : vH} {l lo m hi : Int} (h1 : lo ≤ m + 1) (h2 : m ≤ hi) : ∀ (n : Nat) (k : Int), mVn a l lo m n k + mVn a l (m + 1) hi n k = mVn a l lo hi n k
  | 0, _ => rfl
  | n + 1, k => by
    have ih := mVn_add (a := a) (l := l) h1 h2 n (k + 1)
    unfold mVn
    have e : (@ite _ (mVon a l lo m k) (Classical.propDecidable _) 8 0 : Nat) + @ite _ (mVon a l (m + 1) hi k) (Classical.propDecidable _) 8 0 = @ite _ (mVon a l lo hi k) (Classical.propDecidable _) 8 0 := by
      by_cases c : mVon a l lo m k
      · have c2 : ¬ mVon a l (m + 1) hi k := fun z => by unfold mVon at c z; omega
        have c3 : mVon a l lo hi k := by unfold mVon at c ⊢; omega
        rw [if_pos c, if_neg c2, if_pos c3]
      · by_cases c2 : mVon a l (m + 1) hi k
        · have c3 : mVon a l lo hi k := by unfold mVon at c2 ⊢; omega
          rw [if_neg c, if_pos c2, if_pos c3]
        · have c3 : ¬ mVon a l lo hi k := fun z => by unfold mVon at c c2 z; omega
          rw [if_neg c, if_neg c2, if_neg c3]
    omega
theorem mVn_le {a : vH} {l lo hi : Int} : ∀ (n : Nat) (k : Int), mVn a l lo hi n k ≤ 8 * n
  | 0, _ => Nat.le_refl _
  | n + 1, k => by
    have := mVn_le (a := a) (l := l) (lo := lo) (hi := hi) n (k + 1)
    unfold mVn
    split <;> omega
/-- where the cluster ends, looked for from e on -/
def mEnd (a : vH) (l : Int) : Nat → Int → Int
  | 0, e => e
  | n + 1, e => if a 2 284 l ≤ e then e else if a 2 283 (80 * l + e) = 126 then mEnd a l n (e + 1) else e
theorem mEnd_ge {a : vH} {l : Int} : ∀ (n : Nat) (e : Int), e ≤ mEnd a l n e
  | 0, _ => Int.le_refl _
  | n + 1, e => by
    have := mEnd_ge (a := a) (l := l) n (e + 1)
    unfold mEnd
    split
    · omega
    · split <;> omega
theorem mEnd_le {a : vH} {l : Int} : ∀ (n : Nat) (e : Int), e ≤ a 2 284 l → mEnd a l n e ≤ a 2 284 l
  | 0, _, h => h
  | n + 1, e, h => by
    have := mEnd_le (a := a) (l := l) n (e + 1)
    unfold mEnd
    split
    · omega
    · split <;> omega
noncomputable def mDots (a : vH) (p l : Int) : List Clu := @ite _ (mFst a p l) (Classical.propDecidable _) [(46, 1, -1, a 2 284 l), (46, 1, -1, a 2 284 l), (46, 1, -1, a 2 284 l)] []
/-- the clusters of a line behind a place: virtual texts from the place lo on, signs from the place k on -/
noncomputable def mTx (a : vH) (p l : Int) : Nat → Int → Int → List Clu
  | 0, lo, _ => mVt a l lo 80 (a 2 297 p).toNat (6 * p) ++ mDots a p l
  | n + 1, lo, k => if a 2 284 l ≤ k then mVt a l lo 80 (a 2 297 p).toNat (6 * p) ++ mDots a p l else
    mVt a l lo k (a 2 297 p).toNat (6 * p) ++ (@ite _ (mHid a p l k) (Classical.propDecidable _) [] [(a 2 283 (80 * l + k), mEnd a l 80 (k + 1) - k, k, k)] ++ mTx a p l n (k + 1) (mEnd a l 80 (k + 1)))
noncomputable def mCL (a : vH) (p l : Int) : List Clu := mTx a p l 81 0 0
/-- what laying out asks of the reference -/
def mOKp (h : vH) (p : Int) : Prop := 0 ≤ h 2 293 p ∧ h 2 293 p ≤ 6 ∧ 0 ≤ h 2 297 p ∧ h 2 297 p ≤ 6 ∧ 0 ≤ h 2 301 p ∧ h 2 301 p ≤ 6 ∧ (∀ k, 6 * p ≤ k → k < 6 * p + h 2 293 p → 0 ≤ h 2 296 k ∧ h 2 296 k ≤ 80)
theorem mOKp_eq {h h1 : vH} {p : Int} (x : pR h h1) (o : mOKp h p) : mOKp h1 p := by
  obtain ⟨o1, o2, o3, o4, o5, o6, o7⟩ := o
  have e1 := x 293 p (by decide) (by decide)
  have e2 := x 297 p (by decide) (by decide)
  have e3 := x 301 p (by decide) (by decide)
  refine ⟨by omega, by omega, by omega, by omega, by omega, by omega, fun k a b => ?_⟩
  rw [x 296 k (by decide) (by decide)]
  exact o7 k a (by omega)
section FC
variable {h : vH} {p l : Int}
theorem M_dots (sM : shModel h) (hp : 0 ≤ p ∧ p < 4) (hl : 0 ≤ l ∧ l < 60) (o : mOKp h p) {x3 x4 : Int} {h1 : vH} {L : List Clu} (hL : mCl h1 L) (hF : mF cA cK h h1) (hn : L.length ≤ 137) : ∃ h2, vrun mX13_findsClusters 130 [(1, 282), (0, p), (0, l), (0, x3), (0, x4), (0, 0)] [] h1 = some (.inl none, h2) ∧ mCl h2 (L ++ mDots h p l) ∧ mF cA cK h h2 := by
  have ask : ∀ h1, mF cA cK h h1 → vcl mX13_isFirstOfClosed [(1, 282), (0, p), (0, l)] h1 = some (.inl (some (0, b2i (mFst h p l))), h1) := by
    intro h1 hF
    have x := mF_pR hF (by decide) (by decide)
    have e3 := x 301 p (by decide) (by decide)
    rw [M_isFirst (shModel_sx (mF_sx hF (by decide)) sM) hp (by have := o.2.2.2.2.1; have := o.2.2.2.2.2.1; omega), mFst_eq x]
  by_cases on : mFst h p l
  · have one : ∀ (n : Int) (h1 : vH) (L : List Clu), 0 ≤ n → n < 3 → mCl h1 L → mF cA cK h h1 → L.length < 140 → ∃ h2, vrun mX13_findsClusters 130 [(1, 282), (0, p), (0, l), (0, x3), (0, x4), (0, n)] [] h1 = vrun mX13_findsClusters 130 [(1, 282), (0, p), (0, l), (0, x3), (0, x4), (0, n + 1)] [] h2 ∧ mCl h2 (L ++ [(46, 1, -1, h 2 284 l)]) ∧ mF cA cK h h2 := by
      intro n h1 L h0 h3 hL hF hn
      have sM1 := shModel_sx (mF_sx hF (by decide)) sM
      have e1 : h1 2 284 l = h 2 284 l := hF _ _ _ (by simp) (by simp)
      obtain ⟨h2, c1, c2, c3⟩ := M_adds (a := 46) (b := 1) (c := -1) (d := h1 2 284 l) sM1 hL hF hn
      refine ⟨h2, ?_, by rw [e1] at c2; exact c2, c3⟩
      rw [rX13_findsClusters_130 sM1, if_neg (by omega)]
      refine (vret_v (ask h1 hF)).trans ?_
      rw [show (139 : Nat) + 3 = 142 from rfl, rX13_findsClusters_142 sM1, if_neg (by rw [b2i_t on]; decide)]
      · refine (vret_n c1).trans ?_
        exact rX13_findsClusters_159 (by omega) (by omega)
      all_goals (first | (intros; omega) | assumption)
    obtain ⟨h2, a1, a2, a3⟩ := one 0 h1 L (by decide) (by decide) hL hF (by omega)
    obtain ⟨h3, b1, b2, b3⟩ := one 1 h2 _ (by decide) (by decide) a2 a3 (by rw [List.length_append]; simp; omega)
    obtain ⟨h4, c1, c2, c3⟩ := one 2 h3 _ (by decide) (by decide) b2 b3 (by rw [List.length_append, List.length_append]; simp; omega)
    refine ⟨h4, ?_, ?_, c3⟩
    · rw [a1, show (0 : Int) + 1 = 1 from rfl, b1, show (1 : Int) + 1 = 2 from rfl, c1, rX13_findsClusters_130 (shModel_sx (mF_sx c3 (by decide)) sM), if_pos (by decide)]
    · unfold mDots
      rw [if_pos on]
      simpa using c2
  · have sM1 := shModel_sx (mF_sx hF (by decide)) sM
    refine ⟨h1, ?_, ?_, hF⟩
    · rw [rX13_findsClusters_130 sM1, if_neg (by decide)]
      refine (vret_v (ask h1 hF)).trans ?_
      rw [show (139 : Nat) + 3 = 142 from rfl, rX13_findsClusters_142 sM1, if_pos (b2i_f on)]
      all_goals (first | (intros; omega) | assumption)
    · unfold mDots
      rw [if_neg on, List.append_nil]
      exact hL
theorem M_findEnd (sM : shModel h) (hl : 0 ≤ l ∧ l < 60) (h80 : h 2 284 l ≤ 80) {x3 x4 : Int} (h4 : 0 ≤ x4) : ∀ (n : Nat) (e : Int), h 2 284 l ≤ e + n → 0 ≤ e → vrun mX13_findsClusters 27 [(1, 282), (0, p), (0, l), (0, x3), (0, x4), (0, e)] [] h = vret vrun mX13_findsClusters 67 [(1, 282), (0, p), (0, l), (0, x3), (0, x4), (0, mEnd h l n e)] [] (vcl mX13_addsVirtuals [(1, 282), (0, p), (0, l), (0, x3), (0, x4)] h) := by
  intro n
  induction n with
  | zero =>
    intro e he h0
    rw [rX13_findsClusters_27 sM, if_pos (by omega)]
    · rfl
    all_goals (first | (intros; omega) | assumption)
  | succ n ih =>
    intro e he h0
    rw [rX13_findsClusters_27 sM]
    · unfold mEnd
      by_cases c : h 2 284 l ≤ e
      · rw [if_pos c, if_pos c]
      · rw [if_neg c, if_neg c]
        by_cases d : h 2 283 (80 * l + e) = 126
        · rw [if_pos d, if_pos d]
          exact ih (e + 1) (by omega) (by omega)
        · rw [if_neg d, if_neg d]
    all_goals (first | (intros; omega) | assumption)
end FC
section FC2
variable {h : vH} {p l : Int}
theorem mVt_eq {h h1 : vH} {l lo hi : Int} (x : pR h h1) : ∀ (n : Nat) (k : Int), mVt h1 l lo hi n k = mVt h l lo hi n k
  | 0, _ => rfl
  | n + 1, k => by
    have ih := mVt_eq (l := l) (lo := lo) (hi := hi) x n (k + 1)
    unfold mVt mVon
    rw [ih, x _ _ (by decide) (by decide), x _ _ (by decide) (by decide), x _ _ (by decide) (by decide)]
theorem mVn_eq {h h1 : vH} {l lo hi : Int} (x : pR h h1) : ∀ (n : Nat) (k : Int), mVn h1 l lo hi n k = mVn h l lo hi n k
  | 0, _ => rfl
  | n + 1, k => by
    have ih := mVn_eq (l := l) (lo := lo) (hi := hi) x n (k + 1)
    unfold mVn mVon
    rw [ih, x _ _ (by decide) (by decide), x _ _ (by decide) (by decide)]
theorem mEnd_eq {h h1 : vH} {l : Int} (x : pR h h1) : ∀ (n : Nat) (e : Int), mEnd h1 l n e = mEnd h l n e
  | 0, _ => rfl
  | n + 1, e => by
    have ih := mEnd_eq (l := l) x n (e + 1)
    unfold mEnd
    rw [ih, x _ _ (by decide) (by decide), x _ _ (by decide) (by decide)]
theorem mDots_eq {h h1 : vH} (x : pR h h1) : mDots h1 p l = mDots h p l := by
  unfold mDots
  rw [mFst_eq x, x _ _ (by decide) (by decide)]
theorem mTx_eq {h h1 : vH} (x : pR h h1) : ∀ (n : Nat) (lo k : Int), mTx h1 p l n lo k = mTx h p l n lo k
  | 0, _, _ => by
    unfold mTx
    rw [mVt_eq x, mDots_eq x, x _ _ (by decide) (by decide)]
  | n + 1, lo, k => by
    have ih := mTx_eq x n
    unfold mTx
    rw [mVt_eq x, mVt_eq x, mDots_eq x, mEnd_eq x, ih, mHid_eq x, x 297 p (by decide) (by decide), x 284 l (by decide) (by decide), x 283 _ (by decide) (by decide)]
theorem mCL_eq {h h1 : vH} (x : pR h h1) : mCL h1 p l = mCL h p l := mTx_eq x _ _ _
/-- THE REFERENCE FINDS THE CLUSTERS OF A LINE -/
theorem M_finds (sM : shModel h) (hp : 0 ≤ p ∧ p < 4) (hl : 0 ≤ l ∧ l < 60) (o : mOKp h p) (hln : 0 ≤ h 2 284 l ∧ h 2 284 l ≤ 80) : ∃ h2, vcl mX13_findsClusters [(1, 282), (0, p), (0, l)] h = some (.inl none, h2) ∧ mCl h2 (mCL h p l) ∧ mF cA cK h h2 ∧ (mCL h p l).length ≤ 131 := by
  obtain ⟨o1, o2, o3, o4, o5, o6, o7⟩ := id o
  have fin : ∀ (h1 : vH) (L : List Clu) (lo k : Int) (v5 : vv), mCl h1 L → mF cA cK h h1 → h 2 284 l ≤ k → L.length + mVn h l lo 80 (h 2 297 p).toNat (6 * p) ≤ 128 → ∃ h2, vrun mX13_findsClusters 10 [(1, 282), (0, p), (0, l), (0, lo), (0, k), v5] [] h1 = some (.inl none, h2) ∧ mCl h2 (L ++ (mVt h l lo 80 (h 2 297 p).toNat (6 * p) ++ mDots h p l)) ∧ mF cA cK h h2 ∧ (L ++ (mVt h l lo 80 (h 2 297 p).toNat (6 * p) ++ mDots h p l)).length ≤ 131 := by
    intro h1 L lo k v5 hL hF hk hn
    have x := mF_pR hF (by decide) (by decide)
    have sM1 := shModel_sx (mF_sx hF (by decide)) sM
    have e1 := x 284 l (by decide) (by decide)
    have e2 := x 297 p (by decide) (by decide)
    have hF0 : mF cA cK h1 h1 := mF_rf
    obtain ⟨h2, a1, a2, a3⟩ := M_addsV (lo := lo) (hi := 80) (l := l) sM1 hp ⟨by omega, by omega⟩ hL hF0 (by rw [mVn_eq x, e2]; omega)
    rw [mVt_eq x, e2] at a2
    have l2 := mVt_len (a := h) (l := l) (lo := lo) (hi := 80) (h 2 297 p).toNat (6 * p)
    obtain ⟨h3, b1, b2, b3⟩ := M_dots (x3 := lo) (x4 := k) sM hp hl o a2 (mF_tr hF a3) (by rw [List.length_append]; omega)
    refine ⟨h3, ?_, by rw [← List.append_assoc]; exact b2, b3, ?_⟩
    · rw [rX13_findsClusters_10 sM1, if_pos (by omega)]
      · refine (vret_n a1).trans ?_
        exact rX13_findsClusters_127.trans b1
      all_goals (first | (intros; omega) | assumption)
    · rw [List.length_append, List.length_append]
      have : (mDots h p l).length ≤ 3 := by
        unfold mDots
        split
        · exact Nat.le_refl _
        · exact Nat.zero_le _
      omega
  have loop : ∀ (n : Nat) (lo k : Int) (h1 : vH) (L : List Clu) (v5 : vv), 81 ≤ n + k → 0 ≤ k → k ≤ h 2 284 l → lo ≤ k + 1 → mCl h1 L → mF cA cK h h1 → (L.length : Int) + mVn h l lo 80 (h 2 297 p).toNat (6 * p) ≤ k + 48 → ∃ h2, vrun mX13_findsClusters 10 [(1, 282), (0, p), (0, l), (0, lo), (0, k), v5] [] h1 = some (.inl none, h2) ∧ mCl h2 (L ++ mTx h p l n lo k) ∧ mF cA cK h h2 ∧ (L ++ mTx h p l n lo k).length ≤ 131 := by
    intro n
    induction n with
    | zero =>
      intro lo k h1 L v5 hn h0 hk hlo hL hF hc
      omega
    | succ n ih =>
      intro lo k h1 L v5 hn h0 hk hlo hL hF hc
      have x := mF_pR hF (by decide) (by decide)
      have sM1 := shModel_sx (mF_sx hF (by decide)) sM
      have e1 := x 284 l (by decide) (by decide)
      have e2 := x 297 p (by decide) (by decide)
      unfold mTx
      by_cases c : h 2 284 l ≤ k
      · rw [if_pos c]
        exact fin h1 L lo k v5 hL hF c (by omega)
      · rw [if_neg c]
        have add := mVn_add (a := h) (l := l) (lo := lo) (m := k) (hi := 80) hlo (by omega) (h 2 297 p).toNat (6 * p)
        have g1 := mEnd_ge (a := h) (l := l) 80 (k + 1)
        have g2 := mEnd_le (a := h) (l := l) 80 (k + 1) (by omega)
        have l2 := mVt_len (a := h) (l := l) (lo := lo) (hi := k) (h 2 297 p).toNat (6 * p)
        obtain ⟨h2, a1, a2, a3⟩ := M_addsV (lo := lo) (hi := k) (l := l) sM1 hp ⟨by omega, by omega⟩ hL mF_rf (by rw [mVn_eq x, e2]; omega)
        rw [mVt_eq x, e2] at a2
        have hF2 := mF_tr hF a3
        have x2 := mF_pR hF2 (by decide) (by decide)
        have sM2 := shModel_sx (mF_sx hF2 (by decide)) sM
        have go : vrun mX13_findsClusters 10 [(1, 282), (0, p), (0, l), (0, lo), (0, k), v5] [] h1 = vrun mX13_findsClusters 70 [(1, 282), (0, p), (0, l), (0, lo), (0, k), (0, mEnd h l 80 (k + 1))] [] h2 := by
          rw [rX13_findsClusters_10 sM1, if_neg (by omega), M_findEnd sM1 hl (by omega) h0 80 (k + 1) (by omega) (by omega), mEnd_eq x]
          · exact vret_n a1
          all_goals (first | (intros; omega) | assumption)
        have ask : vcl mX13_isHidden [(1, 282), (0, p), (0, l), (0, k)] h2 = some (.inl (some (0, b2i (mHid h p l k))), h2) := by
          have o8 := mOKp_eq x2 o
          rw [M_isHidden sM2 hp ⟨o8.1, o8.2.1⟩ o8.2.2.2.2.2.2, mHid_eq x2]
        by_cases hd : mHid h p l k
        · obtain ⟨h4, c1, c2, c3, c4⟩ := ih (k + 1) (mEnd h l 80 (k + 1)) h2 _ (0, mEnd h l 80 (k + 1)) (by omega) (by omega) g2 (by omega) a2 hF2 (by rw [List.length_append]; omega)
          refine ⟨h4, ?_, ?_, c3, ?_⟩
          · rw [go, rX13_findsClusters_70 sM2]
            refine (vret_v ask).trans ?_
            rw [show (75 : Nat) + 3 = 78 from rfl, rX13_findsClusters_78 sM2, if_neg (by rw [b2i_t hd]; decide)]
            · exact c1
            all_goals (first | (intros; omega) | assumption)
          · rw [if_pos hd, List.nil_append, ← List.append_assoc]
            exact c2
          · rw [if_pos hd, List.nil_append, ← List.append_assoc]
            exact c4
        · obtain ⟨h3, d1, d2, d3⟩ := M_adds (a := h 2 283 (80 * l + k)) (b := mEnd h l 80 (k + 1) - k) (c := k) (d := k) sM2 a2 hF2 (by rw [List.length_append]; omega)
          obtain ⟨h4, c1, c2, c3, c4⟩ := ih (k + 1) (mEnd h l 80 (k + 1)) h3 _ (0, mEnd h l 80 (k + 1)) (by omega) (by omega) g2 (by omega) d2 d3 (by rw [List.length_append, List.length_append]; simp; omega)
          refine ⟨h4, ?_, ?_, c3, ?_⟩
          · rw [go, rX13_findsClusters_70 sM2]
            refine (vret_v ask).trans ?_
            rw [show (75 : Nat) + 3 = 78 from rfl, rX13_findsClusters_78 sM2, if_pos (b2i_f hd), x2 283 _ (by decide) (by decide)]
            · refine (vret_n d1).trans ?_
              refine (rX13_findsClusters_106 (by omega) (by omega)).trans ?_
              exact c1
            all_goals (first | (intros; omega) | assumption)
          · rw [if_neg hd, ← List.append_assoc, ← List.append_assoc]
            exact c2
          · rw [if_neg hd, ← List.append_assoc, ← List.append_assoc]
            exact c4
  have hL0 : mCl (vup h 1540 282 0 0) [] := ⟨by rw [vup_s]; rfl, fun i c z => by cases z⟩
  have hF0 : mF cA cK h (vup h 1540 282 0 0) := mF_up mF_rf (Or.inr ⟨rfl, by decide⟩)
  obtain ⟨h2, a1, a2, a3, a4⟩ := loop 81 0 0 _ [] (9, 0) (by omega) (by omega) (by omega) (by omega) hL0 hF0 (by
    have := mVn_le (a := h) (l := l) (lo := 0) (hi := 80) (h 2 297 p).toNat (6 * p)
    simp
    omega)
  exact ⟨h2, (rX13_findsClusters_0 sM).trans a1, a2, a3, a4⟩
end FC2
