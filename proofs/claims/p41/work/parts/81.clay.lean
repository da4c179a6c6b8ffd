/-! THE CLASS: what its objects hold, told by the reference a -/
/-- a list: its elements' array, how many there are -/
def cLi (h : vH) (r n : Int) : Prop := shList h r ∧ h 102 r 0 = n ∧ (0 < n → h 0 (h 101 r 0) 0 = 6 ∧ n ≤ h 1 (h 101 r 0) 0)
/-- the element j of a list -/
def lE (h : vH) (r j : Int) : Int := h 2 (h 101 r 0) j
def cPl (h : vH) (r st l x : Int) : Prop := h 900 r 0 = st ∧ h 901 r 0 = l ∧ h 902 r 0 = x
/-- the text of a virtual: m signs, then nothing -/
def isVt (z : Int) : Prop := ∃ m : Int, 1 ≤ m ∧ m ≤ 8 ∧ (∀ i, 0 ≤ i → i < m → 32 ≤ vsg z (8 * i) ∧ vsg z (8 * i) ≤ 125) ∧ ∀ i, m ≤ i → i < 8 → vsg z (8 * i) = 0
def cLay (h a : vH) (p Y : Int) : Prop := shLayers h Y ∧ cLi h (Y + 1) (a 2 293 p) ∧ cLi h (Y + 2) (a 2 297 p) ∧ cLi h (Y + 3) (a 2 301 p) ∧
  (∀ j, 0 ≤ j → j < a 2 293 p → shSpan h (lE h (Y + 1) j) ∧ cPl h (lE h (Y + 1) j + 1) 1 (a 2 294 (6 * p + j)) (a 2 295 (6 * p + j)) ∧ cPl h (lE h (Y + 1) j + 2) 0 (a 2 294 (6 * p + j)) (a 2 296 (6 * p + j))) ∧
  (∀ j, 0 ≤ j → j < a 2 297 p → shVirtual h (lE h (Y + 2) j) ∧ cPl h (lE h (Y + 2) j + 1) 0 (a 2 298 (6 * p + j)) (a 2 299 (6 * p + j)) ∧ h 1301 (lE h (Y + 2) j) 0 = a 2 300 (6 * p + j) ∧ isVt (a 2 300 (6 * p + j))) ∧
  (∀ j, 0 ≤ j → j < a 2 301 p → shFold h (lE h (Y + 3) j) ∧ h 300 (lE h (Y + 3) j) 0 = a 2 302 (6 * p + j) ∧ h 301 (lE h (Y + 3) j) 0 = a 2 303 (6 * p + j) ∧ h 302 (lE h (Y + 3) j) 0 = a 2 304 (6 * p + j))
section CLY
variable {h a : vH} {p Y : Int}
theorem C_isHidden (c : cLay h a p Y) (hn : 0 ≤ a 2 293 p ∧ a 2 293 p ≤ 6) {l x : Int} : vcl mX2_isHidden [(1, Y), (0, l), (0, x)] h = some (.inl (some (0, b2i (mHid a p l x))), h) := by
  obtain ⟨c1, ⟨c2, c3, c4⟩, -, -, c5, -, -⟩ := c
  have loop : ∀ i, i ≤ a 2 293 p → 0 ≤ i → vrun mX2_isHidden 2 [(1, Y), (0, l), (0, x), (0, i)] [] h = some (.inl (some (0, b2i (anyI (fun k => a 2 294 k = l ∧ ¬ (x < a 2 295 k) ∧ ¬ (a 2 296 k - 1 < x)) (6 * p + i) (6 * p + a 2 293 p)))), h) := by
    refine up_ind ?_ ?_
    · intro h0
      rw [rX2_isHidden_2 c1 c2, if_pos (by omega), b2i_f (any_nil (by omega))]
      all_goals (try rw [c3])
      all_goals (first | (intros; omega) | assumption)
    · intro i hi ih h0
      obtain ⟨d1, ⟨d2, d3, d4⟩, ⟨d5, d6, d7⟩⟩ := c5 i h0 hi
      obtain ⟨e1, e2⟩ := c4 (by omega)
      have hv : fX8_holds h (lE h (Y + 1) i) l x = b2i (a 2 294 (6 * p + i) = l ∧ ¬ (x < a 2 295 (6 * p + i)) ∧ ¬ (a 2 296 (6 * p + i) - 1 < x)) := by
        unfold fX8_holds
        rw [d3, d4, d7, b2i_if]
        exact b2i_c (by omega)
      unfold lE at hv d1
      rw [rX2_isHidden_2 c1 c2, if_neg (by omega), hv, any_step (show 6 * p + i < 6 * p + a 2 293 p by omega)]
      · by_cases q : a 2 294 (6 * p + i) = l ∧ ¬ (x < a 2 295 (6 * p + i)) ∧ ¬ (a 2 296 (6 * p + i) - 1 < x)
        · rw [if_neg (by rw [b2i_t q]; decide), b2i_t (Or.inl q)]
        · rw [if_pos (b2i_f q), ih (by omega)]
          congr 5
          refine b2i_c ⟨fun z => Or.inr (by rw [Int.add_assoc]; exact z), fun z => by rw [← Int.add_assoc]; exact z.resolve_left q⟩
      all_goals (try rw [c3])
      all_goals (first | (intros; omega) | (intros; assumption))
  refine (rX2_isHidden_0).trans ((loop 0 (by omega) (Int.le_refl _)).trans ?_)
  rw [show 6 * p + 0 = 6 * p by omega]
  rfl
theorem C_isVisible (c : cLay h a p Y) (hn : 0 ≤ a 2 301 p ∧ a 2 301 p ≤ 6) {l : Int} : vcl mX2_isVisible [(1, Y), (0, l)] h = some (.inl (some (0, b2i (¬ mInv a p l))), h) := by
  obtain ⟨c1, -, -, ⟨c2, c3, c4⟩, -, -, c5⟩ := c
  have loop : ∀ i, i ≤ a 2 301 p → 0 ≤ i → vrun mX2_isVisible 2 [(1, Y), (0, l), (0, i)] [] h = some (.inl (some (0, b2i (¬ anyI (fun k => ¬ (a 2 304 k = 0) ∧ ¬ (l ≤ a 2 302 k) ∧ ¬ (a 2 303 k < l)) (6 * p + i) (6 * p + a 2 301 p)))), h) := by
    refine up_ind ?_ ?_
    · intro h0
      rw [rX2_isVisible_2 c1 c2, if_pos (by omega), b2i_t (any_nil (by omega))]
      all_goals (try rw [c3])
      all_goals (first | (intros; omega) | assumption)
    · intro i hi ih h0
      obtain ⟨d1, d2, d3, d4⟩ := c5 i h0 hi
      obtain ⟨e1, e2⟩ := c4 (by omega)
      have hv : fX1_hides h (lE h (Y + 3) i) l = b2i (¬ (a 2 304 (6 * p + i) = 0) ∧ ¬ (l ≤ a 2 302 (6 * p + i)) ∧ ¬ (a 2 303 (6 * p + i) < l)) := by
        unfold fX1_hides
        rw [d2, d3, d4, b2i_if]
      unfold lE at hv d1
      rw [rX2_isVisible_2 c1 c2, if_neg (by omega), hv, any_step (show 6 * p + i < 6 * p + a 2 301 p by omega)]
      · by_cases q : ¬ (a 2 304 (6 * p + i) = 0) ∧ ¬ (l ≤ a 2 302 (6 * p + i)) ∧ ¬ (a 2 303 (6 * p + i) < l)
        · rw [if_neg (by rw [b2i_t q]; decide), b2i_f (fun z => z (Or.inl q))]
        · rw [if_pos (b2i_f q), ih (by omega)]
          congr 5
          refine b2i_c ⟨fun z y => z (by rw [← Int.add_assoc]; exact y.resolve_left q), fun z y => z (Or.inr (by rw [Int.add_assoc]; exact y))⟩
      all_goals (try rw [c3])
      all_goals (first | (intros; omega) | (intros; assumption))
  refine (rX2_isVisible_0).trans ((loop 0 (by omega) (Int.le_refl _)).trans ?_)
  rw [show 6 * p + 0 = 6 * p by omega]
  rfl
/-- the last line of the closed folds that begin with a line, from the fold i on -/
def mCe (a : vH) (p l : Int) : Nat → Int → Int → Int
  | 0, _, x => x
  | f + 1, k, x => mCe a p l f (k + 1) (if a 2 304 k = 0 then x else if a 2 302 k = l then max x (a 2 303 k) else x)
theorem C_closedEnd (c : cLay h a p Y) (hn : 0 ≤ a 2 301 p ∧ a 2 301 p ≤ 6) {l : Int} : vcl mX2_closedEnd [(1, Y), (0, l)] h = some (.inl (some (0, mCe a p l (a 2 301 p).toNat (6 * p) (-1))), h) := by
  obtain ⟨c1, -, -, ⟨c2, c3, c4⟩, -, -, c5⟩ := c
  have loop : ∀ (f : Nat) (i x : Int) (v4 : vv), i + f = a 2 301 p → 0 ≤ i → vrun mX2_closedEnd 4 [(1, Y), (0, l), (0, x), (0, i), v4] [] h = some (.inl (some (0, mCe a p l f (6 * p + i) x)), h) := by
    intro f
    induction f with
    | zero =>
      intro i x v4 hi h0
      rw [rX2_closedEnd_4 c1 c2, if_pos (by omega)]
      · rfl
      all_goals (try rw [c3])
      all_goals (first | (intros; omega) | assumption)
    | succ f ih =>
      intro i x v4 hi h0
      obtain ⟨d1, d2, d3, d4⟩ := c5 i h0 (by omega)
      obtain ⟨e1, e2⟩ := c4 (by omega)
      unfold lE at d1 d2 d3 d4
      rw [rX2_closedEnd_4 c1 c2, if_neg (by omega), d2, d3, d4, ih (i + 1) _ _ (by omega) (by omega)]
      · rw [← Int.add_assoc]
        rfl
      all_goals (try rw [c3])
      all_goals (first | (intros; omega) | (intros; assumption))
  refine (rX2_closedEnd_0).trans ((loop (a 2 301 p).toNat 0 (-1) (9, 0) (by omega) (Int.le_refl _)).trans ?_)
  rw [show 6 * p + 0 = 6 * p by omega]
theorem mCe_in {l : Int} (ht : ∀ k, 6 * p ≤ k → k < 6 * p + a 2 301 p → 0 ≤ a 2 303 k) : ∀ (f : Nat) (k x : Int), 6 * p ≤ k → k + f = 6 * p + a 2 301 p → -1 ≤ x → (mCe a p l f k x = -1 ↔ x = -1 ∧ ¬ anyI (fun k => ¬ (a 2 304 k = 0) ∧ l = a 2 302 k) k (6 * p + a 2 301 p)) ∧ x ≤ mCe a p l f k x
  | 0, k, x, h6, hk, hx => ⟨⟨fun z => ⟨z, any_nil (by omega)⟩, fun z => z.1⟩, Int.le_refl _⟩
  | f + 1, k, x, h6, hk, hx => by
    have t := ht k h6 (by omega)
    have st := any_step (P := fun k => ¬ (a 2 304 k = 0) ∧ l = a 2 302 k) (show k < 6 * p + a 2 301 p by omega)
    unfold mCe
    by_cases c1 : a 2 304 k = 0
    · rw [if_pos c1, st]
      have ih := mCe_in (l := l) ht f (k + 1) x (by omega) (by omega) hx
      refine ⟨ih.1.trans ⟨fun z => ⟨z.1, fun y => y.elim (fun w => w.1 c1) z.2⟩, fun z => ⟨z.1, fun y => z.2 (Or.inr y)⟩⟩, ih.2⟩
    · rw [if_neg c1]
      by_cases c2 : a 2 302 k = l
      · rw [if_pos c2, st]
        have ih := mCe_in (l := l) ht f (k + 1) (max x (a 2 303 k)) (by omega) (by omega) (by omega)
        refine ⟨⟨fun z => by have := ih.2; omega, fun z => absurd (Or.inl ⟨c1, c2.symm⟩) z.2⟩, by have := ih.2; omega⟩
      · rw [if_neg c2, st]
        have ih := mCe_in (l := l) ht f (k + 1) x (by omega) (by omega) hx
        refine ⟨ih.1.trans ⟨fun z => ⟨z.1, fun y => y.elim (fun w => c2 w.2.symm) z.2⟩, fun z => ⟨z.1, fun y => z.2 (Or.inr y)⟩⟩, ih.2⟩
/-- NONE if no closed fold begins there -/
theorem mCe_none {l : Int} (ht : ∀ k, 6 * p ≤ k → k < 6 * p + a 2 301 p → 0 ≤ a 2 303 k) (hn : 0 ≤ a 2 301 p) : mCe a p l (a 2 301 p).toNat (6 * p) (-1) = -1 ↔ ¬ mFst a p l := by
  have := (mCe_in (l := l) ht (a 2 301 p).toNat (6 * p) (-1) (Int.le_refl _) (by omega) (Int.le_refl _)).1
  rw [this]
  exact ⟨fun z => z.2, fun z => ⟨rfl, z⟩⟩
end CLY

