/-- a line is hidden by a closed fold; a place by a span; a line is the first of a closed fold -/
def mInv (a : vH) (p l : Int) : Prop := anyI (fun k => ¬ (a 2 304 k = 0) ∧ ¬ (l ≤ a 2 302 k) ∧ ¬ (a 2 303 k < l)) (6 * p) (6 * p + a 2 301 p)
def mHid (a : vH) (p l x : Int) : Prop := anyI (fun k => a 2 294 k = l ∧ ¬ (x < a 2 295 k) ∧ ¬ (a 2 296 k - 1 < x)) (6 * p) (6 * p + a 2 293 p)
def mFst (a : vH) (p l : Int) : Prop := anyI (fun k => ¬ (a 2 304 k = 0) ∧ l = a 2 302 k) (6 * p) (6 * p + a 2 301 p)
theorem M_isInvisible {h : vH} {p l : Int} (sM : shModel h) (hp : 0 ≤ p ∧ p < 4) (hf : 0 ≤ h 2 301 p ∧ h 2 301 p ≤ 6) : vcl mX13_isInvisible [(1, 282), (0, p), (0, l)] h = some (.inl (some (0, b2i (mInv h p l))), h) := by
  refine (rX13_isInvisible_0 (by omega) (by omega)).trans ?_
  have loop : ∀ i, i ≤ 6 * p + h 2 301 p → ∀ is : Int, is = 0 ∨ is = 1 → 6 * p ≤ i → vrun mX13_isInvisible 8 [(1, 282), (0, p), (0, l), (0, is), (0, i)] [] h = some (.inl (some (0, b2i (¬ is = 0 ∨ anyI (fun k => ¬ (h 2 304 k = 0) ∧ ¬ (l ≤ h 2 302 k) ∧ ¬ (h 2 303 k < l)) i (6 * p + h 2 301 p)))), h) := by
    refine up_ind ?_ ?_
    · intro is h01 hi
      rw [rX13_isInvisible_8, if_pos (by omega), b2i_c (Q := ¬ is = 0) ⟨fun z => z.resolve_right (any_nil (by omega)), Or.inl⟩, ← b2i_if]
      · rcases h01 with rfl | rfl <;> rfl
      all_goals (first | (intros; omega) | assumption)
    · intro i hi ih is h01 h6
      rw [rX13_isInvisible_8, if_neg (by omega), ih _ b01 (by omega), any_step hi]
      · congr 5
        apply b2i_c
        rw [b2i_if, b2i_0, Classical.not_not, or_assoc]
      all_goals (first | (intros; omega) | assumption)
  rw [loop (6 * p) (by omega) 0 (Or.inl rfl) (by omega)]
  congr 5
  exact b2i_c ⟨fun z => z.resolve_left (fun y => y rfl), Or.inr⟩
theorem M_isFirst {h : vH} {p l : Int} (sM : shModel h) (hp : 0 ≤ p ∧ p < 4) (hf : 0 ≤ h 2 301 p ∧ h 2 301 p ≤ 6) : vcl mX13_isFirstOfClosed [(1, 282), (0, p), (0, l)] h = some (.inl (some (0, b2i (mFst h p l))), h) := by
  refine (rX13_isFirstOfClosed_0 (by omega) (by omega)).trans ?_
  have loop : ∀ i, i ≤ 6 * p + h 2 301 p → ∀ is : Int, is = 0 ∨ is = 1 → 6 * p ≤ i → vrun mX13_isFirstOfClosed 8 [(1, 282), (0, p), (0, l), (0, is), (0, i)] [] h = some (.inl (some (0, b2i (¬ is = 0 ∨ anyI (fun k => ¬ (h 2 304 k = 0) ∧ l = h 2 302 k) i (6 * p + h 2 301 p)))), h) := by
    refine up_ind ?_ ?_
    · intro is h01 hi
      rw [rX13_isFirstOfClosed_8, if_pos (by omega), b2i_c (Q := ¬ is = 0) ⟨fun z => z.resolve_right (any_nil (by omega)), Or.inl⟩, ← b2i_if]
      · rcases h01 with rfl | rfl <;> rfl
      all_goals (first | (intros; omega) | assumption)
    · intro i hi ih is h01 h6
      rw [rX13_isFirstOfClosed_8, if_neg (by omega), ih _ b01 (by omega), any_step hi]
      · congr 5
        apply b2i_c
        rw [b2i_if, b2i_0, Classical.not_not, or_assoc]
      all_goals (first | (intros; omega) | assumption)
  rw [loop (6 * p) (by omega) 0 (Or.inl rfl) (by omega)]
  congr 5
  exact b2i_c ⟨fun z => z.resolve_left (fun y => y rfl), Or.inr⟩
theorem M_isHidden {h : vH} {p l x : Int} (sM : shModel h) (hp : 0 ≤ p ∧ p < 4) (hf : 0 ≤ h 2 293 p ∧ h 2 293 p ≤ 6) (ht : ∀ k, 6 * p ≤ k → k < 6 * p + h 2 293 p → 0 ≤ h 2 296 k ∧ h 2 296 k ≤ 80) : vcl mX13_isHidden [(1, 282), (0, p), (0, l), (0, x)] h = some (.inl (some (0, b2i (mHid h p l x))), h) := by
  refine (rX13_isHidden_0 (by omega) (by omega)).trans ?_
  have loop : ∀ i, i ≤ 6 * p + h 2 293 p → ∀ is : Int, is = 0 ∨ is = 1 → 6 * p ≤ i → vrun mX13_isHidden 9 [(1, 282), (0, p), (0, l), (0, x), (0, is), (0, i)] [] h = some (.inl (some (0, b2i (¬ is = 0 ∨ anyI (fun k => h 2 294 k = l ∧ ¬ (x < h 2 295 k) ∧ ¬ (h 2 296 k - 1 < x)) i (6 * p + h 2 293 p)))), h) := by
    refine up_ind ?_ ?_
    · intro is h01 hi
      rw [rX13_isHidden_9, if_pos (by omega), b2i_c (Q := ¬ is = 0) ⟨fun z => z.resolve_right (any_nil (by omega)), Or.inl⟩, ← b2i_if]
      · rcases h01 with rfl | rfl <;> rfl
      all_goals (first | (intros; omega) | assumption)
    · intro i hi ih is h01 h6
      have t0 := ht i (by omega) (by omega)
      rw [rX13_isHidden_9, if_neg (by omega), ih _ b01 (by omega), any_step hi]
      · congr 5
        apply b2i_c
        rw [b2i_if, b2i_0, Classical.not_not, or_assoc]
      all_goals (first | (intros; omega) | assumption)
  rw [loop (6 * p) (by omega) 0 (Or.inl rfl) (by omega)]
  congr 5
  exact b2i_c ⟨fun z => z.resolve_left (fun y => y rfl), Or.inr⟩
