/-! a line is broken, all panes -/
section BK3
variable {h h2 a b : vH} {p q P Q X l x s f u t j st r l0 x0 n m L F T : Int}
theorem bk_o {k : Nat} {r i : Int} (n : ¬ (k = 2 ∧ ((283 ≤ r ∧ r ≤ 285) ∨ r = 294 ∨ r = 295 ∨ r = 296 ∨ r = 298 ∨ r = 299 ∨ r = 302 ∨ r = 303 ∨ r = 305 ∨ r = 306 ∨ r = 308 ∨ r = 309))) (m : ¬ (k = 1504 ∧ r = 282)) : tBk a l x k r i = a k r i := by
  have ti : tB a l x k r i = a k r i := tB_o (by omega) m
  unfold tBk
  by_cases z : k = 2
  · subst z
    have gi : gBk l x (tB a l x) r i = a 2 r i := by
      unfold gBk
      rw [if_neg (by omega), if_neg (by omega), if_neg (by omega), if_neg (by omega), if_neg (by omega), if_neg (by omega), if_neg (by omega), if_neg (by omega), if_neg (by omega), if_neg (by omega), if_neg (by omega), ti]
    by_cases y : rgL r
    · rw [TT_L y]
      split
      · exact gi
      · exact ti
    · by_cases w : rgC r
      · rw [TT_C w]
        split
        · exact gi
        · exact ti
      · rw [TT_o (fun u => u.2.elim y w), ti]
  · rw [TT_o (fun u => z u.1), ti]
theorem bk_n : tBk a l x 1504 282 0 = a 1504 282 0 + 1 := (TT_o (fun u => absurd u.1 (by decide))).trans tB_n
theorem bk_l {i : Int} : tBk a l x 2 284 i = if i = l then x else if i = l + 1 then a 2 284 l - x else if l + 1 < i ∧ i ≤ a 1504 282 0 then a 2 284 (i - 1) else a 2 284 i := (TT_o (by unfold rgL rgS rgV rgF rgC; decide)).trans tB_l
theorem bk_m {i : Int} : tBk a l x 2 285 i = if i = l + 1 then 0 else if l + 1 < i ∧ i ≤ a 1504 282 0 then a 2 285 (i - 1) else a 2 285 i := (TT_o (by unfold rgL rgS rgV rgF rgC; decide)).trans tB_m
theorem bk_s {i : Int} : tBk a l x 2 283 i = if 80 * (l + 1) ≤ i ∧ i < 80 * (l + 1) + (a 2 284 l - x) then a 2 283 (i - 80 + x) else if 80 * (l + 2) ≤ i ∧ i < 80 * (a 1504 282 0 + 1) then a 2 283 (i - 80) else a 2 283 i := (TT_o (by unfold rgL rgS rgV rgF rgC; decide)).trans tB_s
theorem bk_S {k : Int} (u : 0 ≤ k ∧ k < 24) : tBk a l x 2 294 k = bkL l x (a 2 294 k) (a 2 295 k) ∧ tBk a l x 2 295 k = bkF l x (a 2 294 k) (a 2 295 k) ∧ tBk a l x 2 296 k = bkT l x (a 2 294 k) (a 2 295 k) (a 2 296 k) := by
  have ti : ∀ r, 294 ≤ r → tB a l x 2 r k = a 2 r k := fun r hr => tB_o (by omega) (by omega)
  unfold tBk
  refine ⟨?_, ?_, ?_⟩
  · rw [TT_L (Or.inl (by unfold rgS; decide)), if_pos (by omega)]
    show bkL l x (tB a l x 2 294 k) (tB a l x 2 295 k) = _
    rw [ti _ (by decide), ti _ (by decide)]
  · rw [TT_L (Or.inl (by unfold rgS; decide)), if_pos (by omega)]
    show bkF l x (tB a l x 2 294 k) (tB a l x 2 295 k) = _
    rw [ti _ (by decide), ti _ (by decide)]
  · rw [TT_L (Or.inl (by unfold rgS; decide)), if_pos (by omega)]
    show bkT l x (tB a l x 2 294 k) (tB a l x 2 295 k) (tB a l x 2 296 k) = _
    rw [ti _ (by decide), ti _ (by decide), ti _ (by decide)]
theorem bk_V {k : Int} (u : 0 ≤ k ∧ k < 24) : tBk a l x 2 298 k = a 2 298 k + bkB l x (a 2 298 k) (a 2 299 k) ∧ tBk a l x 2 299 k = bkX l x (a 2 298 k) (a 2 299 k) := by
  have ti : ∀ r, 294 ≤ r → tB a l x 2 r k = a 2 r k := fun r hr => tB_o (by omega) (by omega)
  unfold tBk
  refine ⟨?_, ?_⟩
  · rw [TT_L (Or.inr (Or.inl (by unfold rgV; decide))), if_pos (by omega)]
    show tB a l x 2 298 k + bkB l x (tB a l x 2 298 k) (tB a l x 2 299 k) = _
    rw [ti _ (by decide), ti _ (by decide)]
  · rw [TT_L (Or.inr (Or.inl (by unfold rgV; decide))), if_pos (by omega)]
    show bkX l x (tB a l x 2 298 k) (tB a l x 2 299 k) = _
    rw [ti _ (by decide), ti _ (by decide)]
theorem bk_F {k : Int} (u : 0 ≤ k ∧ k < 24) : tBk a l x 2 302 k = a 2 302 k + (if ¬ (a 2 302 k ≤ l) then 1 else 0) ∧ tBk a l x 2 303 k = a 2 303 k + (if ¬ (a 2 303 k < l) then 1 else 0) := by
  have ti : ∀ r, 294 ≤ r → tB a l x 2 r k = a 2 r k := fun r hr => tB_o (by omega) (by omega)
  unfold tBk
  refine ⟨?_, ?_⟩
  · rw [TT_L (Or.inr (Or.inr (by unfold rgF; decide))), if_pos (by omega)]
    show tB a l x 2 302 k + (if ¬ (tB a l x 2 302 k ≤ l) then 1 else 0) = _
    rw [ti _ (by decide)]
  · rw [TT_L (Or.inr (Or.inr (by unfold rgF; decide))), if_pos (by omega)]
    show tB a l x 2 303 k + (if ¬ (tB a l x 2 303 k < l) then 1 else 0) = _
    rw [ti _ (by decide)]
theorem bk_C (hp : 0 ≤ p ∧ p < 4) : (tBk a l x 2 305 p = a 2 305 p + bkB l x (a 2 305 p) (a 2 306 p) ∧ tBk a l x 2 306 p = bkX l x (a 2 305 p) (a 2 306 p)) ∧ (tBk a l x 2 308 p = a 2 308 p + bkB l x (a 2 308 p) (a 2 309 p) ∧ tBk a l x 2 309 p = bkX l x (a 2 308 p) (a 2 309 p)) := by
  have ti : ∀ r, 294 ≤ r → tB a l x 2 r p = a 2 r p := fun r hr => tB_o (by omega) (by omega)
  unfold tBk
  refine ⟨⟨?_, ?_⟩, ⟨?_, ?_⟩⟩
  · rw [TT_C (by unfold rgC; decide), if_pos (by omega)]
    show tB a l x 2 305 p + bkB l x (tB a l x 2 305 p) (tB a l x 2 306 p) = _
    rw [ti _ (by decide), ti _ (by decide)]
  · rw [TT_C (by unfold rgC; decide), if_pos (by omega)]
    show bkX l x (tB a l x 2 305 p) (tB a l x 2 306 p) = _
    rw [ti _ (by decide), ti _ (by decide)]
  · rw [TT_C (by unfold rgC; decide), if_pos (by omega)]
    show tB a l x 2 308 p + bkB l x (tB a l x 2 308 p) (tB a l x 2 309 p) = _
    rw [ti _ (by decide), ti _ (by decide)]
  · rw [TT_C (by unfold rgC; decide), if_pos (by omega)]
    show bkX l x (tB a l x 2 308 p) (tB a l x 2 309 p) = _
    rw [ti _ (by decide), ti _ (by decide)]
theorem bk_sx : sx a (tBk a l x) := sx_tr tB_sx TT_sx
/-- a place behind the break stays in its line -/
theorem bk_pl (hl : 0 ≤ l ∧ l < m) (hx : 0 ≤ x) (g1 : 0 ≤ L ∧ L < m) (g2 : 0 ≤ X ∧ X ≤ a 2 284 L) (em : a 1504 282 0 = m) : (0 ≤ L + bkB l x L X ∧ L + bkB l x L X < m + 1) ∧ 0 ≤ bkX l x L X ∧ bkX l x L X ≤ tBk a l x 2 284 (L + bkB l x L X) := by
  rw [bk_l, em]
  unfold bkX bkB
  by_cases z : l < L
  · rw [if_pos (Or.inl z), if_neg (show ¬ L = l by omega), if_neg (by omega), if_neg (by omega), if_pos (by omega), show L + 1 - 1 = L by omega]
    omega
  · by_cases y : L = l
    · by_cases w : X ≤ x
      · rw [if_neg (by omega), if_pos y, if_pos (by decide), if_pos (by omega)]
        omega
      · rw [if_pos (Or.inr ⟨y, w⟩), if_pos y, if_neg (by decide), if_neg (by omega), if_pos (by omega)]
        rw [y] at g2
        omega
    · rw [if_neg (by omega), if_neg y, if_neg (by omega), if_neg (by omega), if_neg (by omega), show L + 0 = L by omega]
      omega
theorem bk_spn (hl : 0 ≤ l ∧ l < m) (hx : 0 ≤ x ∧ x ≤ a 2 284 l) (h80 : a 2 284 l ≤ 80) (g1 : 0 ≤ L ∧ L < m) (g2 : 0 ≤ F ∧ F ≤ a 2 284 L) (g3 : T ≤ a 2 284 L) (em : a 1504 282 0 = m) : (0 ≤ bkL l x L F ∧ bkL l x L F < m + 1) ∧ (0 ≤ bkF l x L F ∧ bkF l x L F ≤ tBk a l x 2 284 (bkL l x L F)) ∧ (bkT l x L F T ≤ tBk a l x 2 284 (bkL l x L F) ∧ T - 80 ≤ bkT l x L F T) ∧ (F < T → bkF l x L F < bkT l x L F T) := by
  rw [bk_l, em]
  unfold bkL bkF bkT
  by_cases y : L = l
  · rw [y] at g2 g3
    by_cases w : F < x
    · rw [if_neg (by omega), if_neg (show ¬ (L = l ∧ ¬ F < x) by omega), if_pos (by omega), if_pos y]
      split <;> omega
    · rw [if_pos (Or.inl ⟨y, w⟩), if_pos (show L = l ∧ ¬ F < x from ⟨y, w⟩), if_neg (by omega), if_pos (by omega)]
      omega
  · by_cases z : L ≤ l
    · rw [if_neg (by omega), if_neg (show ¬ (L = l ∧ ¬ F < x) by omega), if_neg (by omega), if_neg (by omega), if_neg (by omega), if_neg y, show L + 0 = L by omega]
      omega
    · rw [if_pos (Or.inr z), if_neg (show ¬ (L = l ∧ ¬ F < x) by omega), if_neg (by omega), if_neg (by omega), if_pos (by omega), if_neg y, show L + 1 - 1 = L by omega]
      omega
theorem bkS_lt (hj : j < l) : (bkL l x L F = j ↔ L = j) ∧ (L = j → bkF l x L F = F ∧ bkT l x L F T = T) := by
  unfold bkL bkF bkT
  refine ⟨⟨fun e => ?_, fun e => ?_⟩, fun e => ⟨?_, ?_⟩⟩
  · split at e <;> omega
  · split <;> omega
  · rw [if_neg (by omega)]; omega
  · rw [if_neg (by omega), if_neg (by omega)]
theorem bkV_lt (hj : j < l) : (L + bkB l x L X = j ↔ L = j) ∧ (L = j → bkX l x L X = X) := by
  unfold bkX bkB
  refine ⟨⟨fun e => ?_, fun e => ?_⟩, fun e => ?_⟩
  · split at e <;> omega
  · rw [if_neg (by omega)]; omega
  · rw [if_neg (show ¬ L = l by omega)]; omega
/-- the lines before a broken one -/
theorem lnE_bk (g : iG a) (hp : 0 ≤ p ∧ p < 4) (hl : 0 ≤ l ∧ l < a 1504 282 0) (hx : 0 ≤ x ∧ x ≤ a 2 284 l) (j0 : 0 ≤ j) (j1 : j < l) : lnE a (tBk a l x) p j := by
  have n6 := iG_n6 g p hp.1 hp.2
  have gl := g.1.2.1
  have lj := g.1.2.2.1 j j0 (by omega)
  refine lnE_ed (bk_o (by decide) (by decide)) (bk_o (by decide) (by decide)) (bk_o (by decide) (by decide)) n6.2.1.1 (fun k u v => ?_) (fun k u v => ?_) (fun k u v => ?_) (bk_o (by decide) (by decide)) (bk_o (by decide) (by decide)) (by rw [bk_l, if_neg (by omega), if_neg (by omega), if_neg (by omega)]) (fun i u v => ?_)
  · obtain ⟨K1, K2, K3⟩ := bk_S (a := a) (l := l) (x := x) (k := k) (by omega)
    rw [K1, K2, K3]
    exact bkS_lt j1
  · obtain ⟨K1, K2⟩ := bk_V (a := a) (l := l) (x := x) (k := k) (by omega)
    rw [K1, K2, bk_o (r := 300) (by decide) (by decide)]
    exact ⟨(bkV_lt j1).1, (bkV_lt j1).2, rfl⟩
  · obtain ⟨K1, K2⟩ := bk_F (a := a) (l := l) (x := x) (k := k) (by omega)
    rw [bk_o (r := 304) (by decide) (by decide), K1, K2]
    refine ⟨rfl, ?_, ?_, ?_⟩
    · split <;> omega
    · split <;> omega
    · split <;> omega
  · rw [bk_s, if_neg (by omega), if_neg (by omega)]
/-- counts before the edit stay -/
theorem cAll_from (w : cW h2 b) (c : cAll h a) (hl : l ≤ b 1504 282 0) (f : ∀ p, 0 ≤ p → p < 4 → h2 714 (138 + 36 * p) 0 = 0 ∧ h2 715 (138 + 36 * p) 0 = -1 ∧ ∀ i, h2 2 (138 + 36 * p + 26) i = if l ≤ i ∧ i < 60 then -1 else h 2 (138 + 36 * p + 26) i) (e : ∀ p i, 0 ≤ p → p < 4 → 0 ≤ i → i < a 1504 282 0 → i < l → lnE a b p i) : cAll h2 b := by
  refine cAll_of w (fun p u v => ?_)
  obtain ⟨f1, f2, f3⟩ := f p u v
  refine ⟨⟨fun i s t => ?_, Or.inl f1⟩, Or.inl f2⟩
  rw [f3]
  by_cases z : l ≤ i ∧ i < 60
  · rw [if_pos z]; exact Or.inl rfl
  · rw [if_neg z]
    exact ((c.2.2.1 p u v).2.1.2.1.1 i s t).imp (fun z => z) (fun y => ⟨by omega, by rw [mRC_loc (e p i u v s y.1 (by omega))]; exact y.2⟩)
end BK3

