/-- a line of the class's text -/
def cLn (h a : vH) (X l : Int) : Prop := shLine h X ∧ h 601 X 0 = a 2 284 l ∧ ∀ i, 0 ≤ i → i < a 2 284 l → h 2 (X + 1) i = a 2 283 (80 * l + i)
theorem cLn_sg {h a : vH} {X l : Int} (c : cLn h a X l) (h80 : a 2 284 l ≤ 80) {i : Int} (h0 : 0 ≤ i) (hi : i < a 2 284 l) : fX4_signAt h X i = a 2 283 (80 * l + i) := by
  obtain ⟨c1, c2, c3⟩ := c
  unfold fX4_signAt
  rw [if_neg (by omega), if_neg (by omega), if_neg (by omega), c3 i h0 hi]
theorem cLn_yF {y lo hi : Int} {k1 k2 : Nat} {h h2 a : vH} {X l : Int} (x : yF y lo hi k1 k2 h h2) (s : shLayout h y) (hl : 1 ≤ lo) (hh : hi ≤ 9) (hk : 513 < 601 ∧ 509 ≤ k1 ∧ k2 ≤ 513) (c : cLn h a X l) : cLn h2 a X l := by
  obtain ⟨c1, c2, c3⟩ := c
  refine ⟨shLine_sx (yF_sx x (fun k u v => st509 k (by omega) (by omega))) c1, (x _ _ _ (by omega)).trans c2, fun i u v => ?_⟩
  rw [yF_line x s hl hh (by omega) c1]
  exact c3 i u v
theorem mEnd_stop {a : vH} {l : Int} : ∀ (n : Nat) (e : Int), a 2 284 l ≤ e + n → a 2 284 l ≤ mEnd a l n e ∨ ¬ a 2 283 (80 * l + mEnd a l n e) = 126
  | 0, e, h => Or.inl (by unfold mEnd; omega)
  | n + 1, e, h => by
    unfold mEnd
    by_cases c : a 2 284 l ≤ e
    · rw [if_pos c]; exact Or.inl c
    · rw [if_neg c]
      by_cases d : a 2 283 (80 * l + e) = 126
      · rw [if_pos d]; exact mEnd_stop n (e + 1) (by omega)
      · rw [if_neg d]; exact Or.inr d
theorem mVt_hi {a : vH} {l lo h1 h2 : Int} : ∀ (n : Nat) (k : Int), (∀ j, k ≤ j → j < k + n → a 2 298 j = l → a 2 299 j ≤ h1 ∧ a 2 299 j ≤ h2) → mVt a l lo h1 n k = mVt a l lo h2 n k
  | 0, _, _ => rfl
  | n + 1, k, h => by
    have ih := mVt_hi (a := a) (l := l) (lo := lo) (h1 := h1) (h2 := h2) n (k + 1) (fun j u v => h j (by omega) (by omega))
    unfold mVt
    rw [ih]
    congr 1
    have e : mVon a l lo h1 k ↔ mVon a l lo h2 k := by
      unfold mVon
      constructor
      · rintro ⟨q1, q2, q3⟩
        have := h k (by omega) (by omega) q1
        exact ⟨q1, q2, by omega⟩
      · rintro ⟨q1, q2, q3⟩
        have := h k (by omega) (by omega) q1
        exact ⟨q1, q2, by omega⟩
    by_cases c : mVon a l lo h1 k
    · rw [if_pos c, if_pos (e.1 c)]
    · rw [if_neg c, if_neg (fun z => c (e.2 z))]
theorem mVn_hi {a : vH} {l lo h1 h2 : Int} (h : h1 ≤ h2) : ∀ (n : Nat) (k : Int), mVn a l lo h1 n k ≤ mVn a l lo h2 n k
  | 0, _ => Nat.le_refl _
  | n + 1, k => by
    have ih := mVn_hi (a := a) (l := l) (lo := lo) h n (k + 1)
    unfold mVn
    by_cases c : mVon a l lo h1 k
    · have c2 : mVon a l lo h2 k := ⟨c.1, c.2.1, by have := c.2.2; omega⟩
      rw [if_pos c, if_pos c2]; omega
    · rw [if_neg c]
      split <;> omega
section CCL
variable {h a : vH} {p Y y l X : Int}
theorem C_clusterSize (ln : cLn h a X l) (h80 : a 2 284 l ≤ 80) {k : Int} (h0 : 0 ≤ k ∧ k < 80) : vcl mX4_clusterSize [(1, X), (0, k)] h = some (.inl (some (0, mEnd a l 80 (k + 1) - k)), h) := by
  have loop : ∀ (n : Nat) (e : Int), a 2 284 l ≤ e + n → 0 < e → e ≤ 81 → vrun mX4_clusterSize 4 [(1, X), (0, k), (0, e)] [] h = some (.inl (some (0, mEnd a l n e - k)), h) := by
    intro n
    induction n with
    | zero =>
      intro e he h0 h81
      rw [rX4_clusterSize_4 ln.1, if_pos (by rw [ln.2.1]; omega)]
      · rfl
      all_goals (first | (intros; omega) | assumption)
    | succ n ih =>
      intro e he h0 h81
      have es := ln.2.1
      rw [rX4_clusterSize_4 ln.1]
      · unfold mEnd
        by_cases c : a 2 284 l ≤ e
        · rw [if_pos c, if_pos (by omega)]
        · rw [if_neg c, if_neg (by omega), cLn_sg ln h80 (by omega) (by omega)]
          by_cases d : a 2 283 (80 * l + e) = 126
          · rw [if_pos d, if_pos d]
            exact ih (e + 1) (by omega) (by omega) (by omega)
          · rw [if_neg d, if_neg d]
      all_goals (first | (intros; omega) | assumption)
  exact (rX4_clusterSize_0 (by omega) (by omega)).trans (loop 80 (k + 1) (by omega) (by omega) (by omega))
theorem C_skip (s : shLayout h y) (ln : cLn h a X l) (h80 : a 2 284 l ≤ 80) (hlen : h 512 y 0 = a 2 284 l) {x4 : Int} : ∀ (n : Nat) (e : Int), a 2 284 l ≤ e + n → 0 < e → vrun mX3_collect 19 [(1, y), (1, X), (1, Y), (0, l), (0, x4), (0, e)] [] h = vrun mX3_collect 19 [(1, y), (1, X), (1, Y), (0, l), (0, x4), (0, mEnd a l n e)] [] h := by
  intro n
  induction n with
  | zero => intro e he h0; rfl
  | succ n ih =>
    intro e he h0
    unfold mEnd
    by_cases c : a 2 284 l ≤ e
    · rw [if_pos c]
    · rw [if_neg c]
      by_cases d : a 2 283 (80 * l + e) = 126
      · have hc : fX4_hasClusterAt h X e = 0 := by
          unfold fX4_hasClusterAt
          rw [cLn_sg ln h80 (by omega) (by omega), if_neg (by omega)]
        rw [if_pos d, rX3_collect_19 s ln.1, if_neg (by omega), if_pos hc]
        · exact ih (e + 1) (by omega) (by omega)
        all_goals (first | (intros; omega) | assumption)
      · rw [if_neg d]
theorem C_dots (s : shLayout h y) {x4 x5 : Int} {L : List Clu} (hL : kCl h y L) (hn : L.length ≤ 128) : ∃ h2, vrun mX3_collect 111 [(1, y), (1, X), (1, Y), (0, l), (0, x4), (0, 0)] [] h = some (.inl none, h2) ∧ kCl h2 y (L ++ [(46, 1, -1, h 512 y 0), (46, 1, -1, h 512 y 0), (46, 1, -1, h 512 y 0)]) ∧ yF y 1 4 509 512 h h2 ∧ h2 512 y 0 = h 512 y 0 := by
  have one : ∀ (n : Int) (h1 : vH) (L : List Clu), 0 ≤ n → n < 3 → kCl h1 y L → yF y 1 4 509 512 h h1 → h1 512 y 0 = h 512 y 0 → L.length < 131 → ∃ h2, vrun mX3_collect 111 [(1, y), (1, X), (1, Y), (0, l), (0, x4), (0, n)] [] h1 = vrun mX3_collect 111 [(1, y), (1, X), (1, Y), (0, l), (0, x4), (0, n + 1)] [] h2 ∧ kCl h2 y (L ++ [(46, 1, -1, h 512 y 0)]) ∧ yF y 1 4 509 512 h h2 ∧ h2 512 y 0 = h 512 y 0 := by
    intro n h1 L h0 h3 hL hF he hn
    have s1 := shLayout_sx (yF_sx hF (fun k u v => st509 k u (by omega))) s
    obtain ⟨h2, c1, c2, c3, c4⟩ := C_add (b := 46) (c := 1) (d := -1) (e := h 512 y 0) s1 hL hF hn
    refine ⟨h2, ?_, c2, c3, c4.trans he⟩
    rw [rX3_collect_111 s1, if_neg (by omega), he]
    refine (vret_n c1).trans ?_
    exact rX3_collect_129 (by omega) (by omega)
  obtain ⟨h2, a1, a2, a3, a4⟩ := one 0 h L (by decide) (by decide) hL yF_rf rfl (by omega)
  obtain ⟨h3, b1, b2, b3, b4⟩ := one 1 h2 _ (by decide) (by decide) a2 a3 a4 (by rw [List.length_append]; simp; omega)
  obtain ⟨h4, c1, c2, c3, c4⟩ := one 2 h3 _ (by decide) (by decide) b2 b3 b4 (by rw [List.length_append, List.length_append]; simp; omega)
  refine ⟨h4, ?_, ?_, c3, c4⟩
  · rw [a1, show (0 : Int) + 1 = 1 from rfl, b1, show (1 : Int) + 1 = 2 from rfl, c1, rX3_collect_111 (shLayout_sx (yF_sx c3 (fun k u v => st509 k u (by omega))) s), if_pos (by decide)]
  · simpa using c2
/-- THE CLASS COLLECTS THE CLUSTERS OF A LINE -/
theorem C_collect (s : shLayout h y) (c : cLay h a p Y) (ln : cLn h a X l) (o : mOKp a p) (hln : 0 ≤ a 2 284 l ∧ a 2 284 l ≤ 80) (hf : ∀ k, 6 * p ≤ k → k < 6 * p + a 2 301 p → 0 ≤ a 2 303 k) (hv : ∀ k, 6 * p ≤ k → k < 6 * p + a 2 297 p → a 2 298 k = l → a 2 299 k ≤ a 2 284 l) : ∃ h2, vcl mX3_collect [(1, y), (1, X), (1, Y), (0, l)] h = some (.inl none, h2) ∧ kCl h2 y (mCL a p l) ∧ yF y 1 4 509 512 h h2 ∧ h2 512 y 0 = a 2 284 l := by
  obtain ⟨o1, o2, o3, o4, o5, o6, o7⟩ := id o
  have keep : ∀ {h1 : vH}, yF y 1 4 509 512 h h1 → shLayout h1 y ∧ cLay h1 a p Y ∧ cLn h1 a X l := by
    intro h1 hF
    have ff := yF_le hF (lo2 := 1) (hi2 := 9) (j1 := 509) (j2 := 513) (by omega) (by omega) (by omega) (by omega)
    exact ⟨shLayout_sx (yF_sx hF (fun k u v => st509 k u (by omega))) s, cLay_yF ff s (by omega) (by omega) c, cLn_yF hF s (by omega) (by omega) ⟨by decide, by decide, by decide⟩ ln⟩
  have fin : ∀ (h1 : vH) (L : List Clu) (lo k : Int), kCl h1 y L → yF y 1 4 509 512 h h1 → h1 512 y 0 = a 2 284 l → a 2 284 l ≤ k → L.length + mVn a l lo 80 (a 2 297 p).toNat (6 * p) ≤ 128 → ∃ h2, vrun mX3_collect 19 [(1, y), (1, X), (1, Y), (0, l), (0, lo - 1), (0, k)] [] h1 = some (.inl none, h2) ∧ kCl h2 y (L ++ (mVt a l lo 80 (a 2 297 p).toNat (6 * p) ++ mDots a p l)) ∧ yF y 1 4 509 512 h h2 ∧ h2 512 y 0 = a 2 284 l := by
    intro h1 L lo k hL hF hl hk hn
    obtain ⟨s1, c1, n1⟩ := keep hF
    have hi := mVn_hi (a := a) (l := l) (lo := lo) hln.2 (a 2 297 p).toNat (6 * p)
    obtain ⟨h2, a1, a2, a3, a4⟩ := C_addV (lo := lo - 1) (hi := a 2 284 l) (l := l) s1 c1 ⟨o3, o4⟩ hL yF_rf (by rw [show lo - 1 + 1 = lo by omega]; omega)
    rw [show lo - 1 + 1 = lo by omega, mVt_hi (h2 := 80) _ _ (fun j u v e => by have := hv j u (by omega) e; omega)] at a2
    have hF2 := yF_tr hF a3
    obtain ⟨s2, c2, n2⟩ := keep hF2
    have ce := C_closedEnd c2 ⟨o5, o6⟩ (l := l)
    have go : vrun mX3_collect 19 [(1, y), (1, X), (1, Y), (0, l), (0, lo - 1), (0, k)] [] h1 = vrun mX3_collect 104 [(1, y), (1, X), (1, Y), (0, l), (0, lo - 1), (0, k)] [(0, mCe a p l (a 2 301 p).toNat (6 * p) (-1))] h2 := by
      rw [rX3_collect_19 s1 n1.1, if_pos (by omega), hl]
      · refine (vret_n a1).trans ?_
        refine (rX3_collect_99 c2.1).trans (vret_v ce)
      all_goals (first | (intros; omega) | assumption)
    rw [go, rX3_collect_104]
    by_cases fs : mFst a p l
    · rw [if_neg (fun z => (mCe_none hf o5).1 z fs)]
      have lb := mVt_len (a := a) (l := l) (lo := lo) (hi := 80) (a 2 297 p).toNat (6 * p)
      obtain ⟨h3, b1, b2, b3, b4⟩ := C_dots (X := X) (Y := Y) (l := l) (x4 := lo - 1) (x5 := k) s2 a2 (by rw [List.length_append]; omega)
      refine ⟨h3, b1, ?_, yF_tr hF2 b3, b4.trans (a4.trans hl)⟩
      unfold mDots
      rw [if_pos fs, ← List.append_assoc]
      rw [a4.trans hl] at b2
      exact b2
    · rw [if_pos ((mCe_none hf o5).2 fs)]
      refine ⟨h2, rfl, ?_, hF2, a4.trans hl⟩
      unfold mDots
      rw [if_neg fs, List.append_nil]
      exact a2
  have loop : ∀ (n : Nat) (lo k : Int) (h1 : vH) (L : List Clu), 81 ≤ n + k → 0 ≤ k → k ≤ a 2 284 l → lo ≤ k + 1 → kCl h1 y L → yF y 1 4 509 512 h h1 → h1 512 y 0 = a 2 284 l → (L.length : Int) + mVn a l lo 80 (a 2 297 p).toNat (6 * p) ≤ k + 48 → (k = 0 ∨ a 2 284 l ≤ k ∨ ¬ a 2 283 (80 * l + k) = 126) → ∃ h2, vrun mX3_collect 19 [(1, y), (1, X), (1, Y), (0, l), (0, lo - 1), (0, k)] [] h1 = some (.inl none, h2) ∧ kCl h2 y (L ++ mTx a p l n lo k) ∧ yF y 1 4 509 512 h h2 ∧ h2 512 y 0 = a 2 284 l := by
    intro n
    induction n with
    | zero => intro lo k h1 L hn h0 hk; omega
    | succ n ih =>
      intro lo k h1 L hn h0 hk hlo hL hF hl hc hs
      unfold mTx
      by_cases e : a 2 284 l ≤ k
      · rw [if_pos e]
        exact fin h1 L lo k hL hF hl e (by omega)
      · rw [if_neg e]
        obtain ⟨s1, c1, n1⟩ := keep hF
        have add := mVn_add (a := a) (l := l) (lo := lo) (m := k) (hi := 80) hlo (by omega) (a 2 297 p).toNat (6 * p)
        have g1 := mEnd_ge (a := a) (l := l) 80 (k + 1)
        have g2 := mEnd_le (a := a) (l := l) 80 (k + 1) (by omega)
        have g3 := mEnd_stop (a := a) (l := l) 80 (k + 1) (by omega)
        have l2 := mVt_len (a := a) (l := l) (lo := lo) (hi := k) (a 2 297 p).toNat (6 * p)
        obtain ⟨h2, a1, a2, a3, a4⟩ := C_addV (lo := lo - 1) (hi := k) (l := l) s1 c1 ⟨o3, o4⟩ hL yF_rf (by rw [show lo - 1 + 1 = lo by omega]; omega)
        rw [show lo - 1 + 1 = lo by omega] at a2
        have hF2 := yF_tr hF a3
        obtain ⟨s2, c2, n2⟩ := keep hF2
        have hcl : ¬ fX4_hasClusterAt h1 X k = 0 := by
          unfold fX4_hasClusterAt
          rw [cLn_sg n1 hln.2 h0 (by omega), if_pos (by omega)]
          decide
        have go : vrun mX3_collect 19 [(1, y), (1, X), (1, Y), (0, l), (0, lo - 1), (0, k)] [] h1 = vrun mX3_collect 54 [(1, y), (1, X), (1, Y), (0, l), (0, lo - 1), (0, k)] [(0, b2i (mHid a p l k))] h2 := by
          rw [rX3_collect_19 s1 n1.1, if_neg (by omega), if_neg hcl]
          · refine (vret_n a1).trans ?_
            refine (rX3_collect_47 c2.1).trans (vret_v (C_isHidden c2 ⟨o1, o2⟩))
          all_goals (first | (intros; omega) | assumption)
        by_cases hd : mHid a p l k
        · obtain ⟨h4, q1, q2, q3, q4⟩ := ih (k + 1) (mEnd a l 80 (k + 1)) h2 _ (by omega) (by omega) g2 (by omega) a2 hF2 (a4.trans hl) (by rw [List.length_append]; omega) (Or.inr g3)
          refine ⟨h4, ?_, ?_, q3, q4⟩
          · rw [go, rX3_collect_54 n2.1, if_neg (by rw [b2i_t hd]; decide), C_skip s2 n2 hln.2 (a4.trans hl) 80 (k + 1) (by omega) (by omega), ← q1, show k + 1 - 1 = k by omega]
            all_goals (first | (intros; omega) | assumption)
          · rw [if_pos hd, List.nil_append, ← List.append_assoc]
            exact q2
        · obtain ⟨h3, d1, d2, d3, d4⟩ := C_add (b := a 2 283 (80 * l + k)) (c := mEnd a l 80 (k + 1) - k) (d := k) (e := k) s2 a2 hF2 (by rw [List.length_append]; omega)
          obtain ⟨s3, c3, n3⟩ := keep d3
          obtain ⟨h4, q1, q2, q3, q4⟩ := ih (k + 1) (mEnd a l 80 (k + 1)) h3 _ (by omega) (by omega) g2 (by omega) d2 d3 (d4.trans (a4.trans hl)) (by rw [List.length_append, List.length_append]; simp; omega) (Or.inr g3)
          refine ⟨h4, ?_, ?_, q3, q4⟩
          · rw [go, rX3_collect_54 n2.1, if_pos (b2i_f hd), cLn_sg n2 hln.2 h0 (by omega)]
            · refine (vret_v (C_clusterSize n2 hln.2 ⟨h0, by omega⟩)).trans ?_
              refine (rX3_collect_70 s2).trans ((vret_n d1).trans ((rX3_collect_77 (by omega) (by omega)).trans ?_))
              rw [C_skip s3 n3 hln.2 (d4.trans (a4.trans hl)) 80 (k + 1) (by omega) (by omega), ← q1, show k + 1 - 1 = k by omega]
            all_goals (first | (intros; omega) | assumption)
          · rw [if_neg hd, ← List.append_assoc, ← List.append_assoc]
            exact q2
  have hF0 : yF y 1 4 509 512 h (vup (vup h 509 y 0 0) 512 y 0 (h 601 X 0)) := yF_up (yF_up yF_rf (Or.inr ⟨rfl, by decide, by decide⟩)) (Or.inr ⟨rfl, by decide, by decide⟩)
  obtain ⟨h2, q1, q2⟩ := loop 81 0 0 _ [] (by decide) (by decide) hln.1 (by decide) ⟨(vup_k (by decide)).trans vup_s, fun i c e => absurd e (by simp)⟩ hF0 (vup_s.trans ln.2.1) (by have := mVn_le (a := a) (l := l) (lo := 0) (hi := 80) (a 2 297 p).toNat (6 * p); simp; omega) (Or.inl rfl)
  refine ⟨h2, ?_, by rw [List.nil_append] at q2; exact q2⟩
  exact (rX3_collect_0 s ln.1).trans q1
end CCL

