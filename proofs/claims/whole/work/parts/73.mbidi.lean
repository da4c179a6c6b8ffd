theorem M_left {h : vH} {g : Int} : (¬ (fX13_isLeft h g = 0) ∨ ¬ (fX13_isRight h g = 0)) ↔ ¬ wy g = -1 := by
  unfold fX13_isLeft fX13_isRight wy
  by_cases a : (¬ (g < 110) ∧ ¬ (122 < g)) ∨ (¬ (g < 78) ∧ ¬ (90 < g))
  · rw [if_pos a, if_pos a]; simp
  · rw [if_neg a, if_neg a]
    by_cases b : (¬ (g < 97) ∧ ¬ (109 < g)) ∨ (¬ (g < 65) ∧ ¬ (77 < g))
    · rw [if_pos b, if_pos b]; simp
    · rw [if_neg b, if_neg b]; simp
theorem M_right {h : vH} {g : Int} : fX13_isRight h g = if wy g = 1 then 1 else 0 := by
  unfold fX13_isRight wy
  by_cases a : (¬ (g < 110) ∧ ¬ (122 < g)) ∨ (¬ (g < 78) ∧ ¬ (90 < g))
  · rw [if_pos a, if_pos a]; rfl
  · rw [if_neg a, if_neg a]
    by_cases b : (¬ (g < 97) ∧ ¬ (109 < g)) ∨ (¬ (g < 65) ∧ ¬ (77 < g))
    · rw [if_pos b]; rfl
    · rw [if_neg b]; rfl
theorem M_way {h : vH} {g : Int} (e : ¬ wy g = -1) : (if ¬ (fX13_isRight h g = 0) then (1 : Int) else 0) = wy g := by
  rw [M_right]
  rcases wy_in g with z | z | z
  · rw [z]; rfl
  · rw [z]; rfl
  · exact absurd z e
theorem M_clo {h : vH} {g : Int} : fX13_closing h g = clo g := rfl
section MB
variable {h : vH} {n : Nat} {s I : Int → Int} {o : Int}
theorem M_firstWay (sM : shModel h) (hn : h 1540 282 0 = (n : Int)) (h131 : n ≤ 131) (hs : ∀ k : Int, 0 ≤ k → k < n → h 2 311 k = s k) (hI : ∀ k : Int, 0 ≤ k → k < n → h 2 322 k = I k) : vcl mX13_firstWay [(1, 282), (0, o)] h = some (.inl (some (0, fW s (Ch I o n 0))), h) := by
  have loop : ∀ (f : Nat) (k : Int), k + f = n → 0 ≤ k → vrun mX13_firstWay 2 [(1, 282), (0, o), (0, k)] [] h = some (.inl (some (0, fW s (Ch I o f k))), h) := by
    intro f
    induction f with
    | zero =>
      intro k hk h0
      rw [rX13_firstWay_2 sM, if_pos (by omega)]
      · rfl
      all_goals (first | (intros; omega) | assumption)
    | succ f ih =>
      intro k hk h0
      have e1 := hs k h0 (by omega)
      have e2 := hI k h0 (by omega)
      have ih := ih (k + 1) (by omega) (by omega)
      rw [rX13_firstWay_2 sM, if_neg (by omega)]
      · by_cases c : I k = o
        · rw [if_pos (e2.trans c), Ch_yes c, e1]
          by_cases w : wy (s k) = -1
          · have nl : ¬ (¬ (fX13_isLeft h (s k) = 0) ∨ ¬ (fX13_isRight h (s k) = 0)) := fun z => M_left.mp z w
            rw [if_pos (Classical.byContradiction fun z => nl (Or.inl z)), if_pos (Classical.byContradiction fun z => nl (Or.inr z)), ih]
            show _ = some (Sum.inl (some (0, if wy (s k) = -1 then fW s (Ch I o f (k + 1)) else wy (s k))), h)
            rw [if_pos w]
          · rw [M_way w]
            show _ = some (Sum.inl (some (0, if wy (s k) = -1 then fW s (Ch I o f (k + 1)) else wy (s k))), h)
            rw [if_neg w]
            by_cases l : fX13_isLeft h (s k) = 0
            · rw [if_pos l, if_neg]
              exact fun z => (M_left (h := h) (g := s k)).mpr w |>.elim (fun y => y l) (fun y => y z)
            · rw [if_neg l]
        · rw [if_neg (by rw [e2]; exact c), Ch_no c, ih]
      all_goals (first | (intros; omega) | assumption)
  exact rX13_firstWay_0.trans (loop n 0 (by omega) (by omega))
theorem M_strong (sM : shModel h) (hn : h 1540 282 0 = (n : Int)) (h131 : n ≤ 131) (hs : ∀ k : Int, 0 ≤ k → k < n → h 2 311 k = s k) (hI : ∀ k : Int, 0 ≤ k → k < n → h 2 322 k = I k) {b : Int} : ∃ h2, vcl mX13_strong [(1, 282), (0, o), (0, b)] h = some (.inl none, h2) ∧ mF [321] [] h h2 ∧ ∀ j ∈ Ch I o n 0, h2 2 321 j = stW s b (Ch I o n 0) j := by
  have loop : ∀ (f : Nat) (k x : Int) (h1 : vH) (v5 : vv), k + f = n → 0 ≤ k → mF [321] [] h h1 → ∃ h2, vrun mX13_strong 5 [(1, 282), (0, o), (0, b), (0, x), (0, k), v5] [] h1 = some (.inl none, h2) ∧ mF [321] [] h h2 ∧ (∀ j, j < k → h2 2 321 j = h1 2 321 j) ∧ ∀ j ∈ Ch I o f k, h2 2 321 j = stW s x (Ch I o f k) j := by
    intro f
    induction f with
    | zero =>
      intro k x h1 v5 hk h0 hF
      have e0 : h1 1540 282 0 = (n : Int) := (hF _ _ _ (by simp) (by simp)).trans hn
      refine ⟨h1, ?_, hF, fun j _ => rfl, fun j hj => by cases hj⟩
      rw [rX13_strong_5 (shModel_sx (mF_sx hF (by decide)) sM), if_pos (by omega)]
      all_goals (first | (intros; omega) | assumption)
    | succ f ih =>
      intro k x h1 v5 hk h0 hF
      have sM1 := shModel_sx (mF_sx hF (by decide)) sM
      have e0 : h1 1540 282 0 = (n : Int) := (hF _ _ _ (by simp) (by simp)).trans hn
      have e1 : h1 2 311 k = s k := (hF _ _ _ (by simp) (by simp)).trans (hs k h0 (by omega))
      have e2 : h1 2 322 k = I k := (hF _ _ _ (by simp) (by simp)).trans (hI k h0 (by omega))
      by_cases c : I k = o
      · have hF2 : mF [321] [] h (vup h1 2 321 k (if wy (s k) = -1 then @ite _ (fig (s k)) (Classical.propDecidable _) x (-1) else wy (s k))) := mF_up hF (Or.inl ⟨rfl, by decide⟩)
        obtain ⟨h2, q1, q2, q3, q4⟩ := ih (k + 1) (if wy (s k) = -1 then x else wy (s k)) _ (0, if ¬ (fX13_isLeft h1 (s k) = 0) ∨ ¬ (fX13_isRight h1 (s k) = 0) then 1 else 0) (by omega) (by omega) hF2
        refine ⟨h2, ?_, q2, fun j hj => ?_, fun j hj => ?_⟩
        · rw [rX13_strong_5 sM1, if_neg (by omega), ← q1]
          · simp only [if_pos (e2.trans c), e1]
            by_cases w : wy (s k) = -1
            · have nl : ¬ (¬ (fX13_isLeft h1 (s k) = 0) ∨ ¬ (fX13_isRight h1 (s k) = 0)) := fun z => M_left.mp z w
              simp only [if_neg nl, if_pos w]
              by_cases g : fig (s k)
              · rw [if_pos g, if_pos (show ¬ (s k < 48) ∧ ¬ (57 < s k) from g)]
              · rw [if_neg g, if_neg (show ¬ (¬ (s k < 48) ∧ ¬ (57 < s k)) from g)]
            · have nl : ¬ (fX13_isLeft h1 (s k) = 0) ∨ ¬ (fX13_isRight h1 (s k) = 0) := M_left.mpr w
              simp only [if_pos nl, if_neg w, M_way w]
          all_goals (first | (intros; omega) | assumption)
        · rw [q3 j (by omega), vup_2, if_neg (by omega)]
        · rw [Ch_yes c] at hj ⊢
          unfold stW
          by_cases z : j = k
          · rw [if_pos z, z, q3 k (by omega), vup_s]
          · rw [if_neg z]
            exact q4 j ((List.mem_cons.mp hj).resolve_left z)
      · obtain ⟨h2, q1, q2, q3, q4⟩ := ih (k + 1) x h1 v5 (by omega) (by omega) hF
        refine ⟨h2, ?_, q2, fun j hj => q3 j (by omega), fun j hj => ?_⟩
        · have n2 : ¬ h1 2 322 k = o := by rw [e2]; exact c
          rw [rX13_strong_5 sM1, if_neg (by omega), ← q1]
          · simp only [if_neg n2]
          all_goals (first | (intros; omega) | assumption)
        · rw [Ch_no c] at hj ⊢
          exact q4 j hj
  obtain ⟨h2, a1, a2, a3, a4⟩ := loop n 0 b h (9, 0) (by omega) (by omega) mF_rf
  exact ⟨h2, rX13_strong_0.trans a1, a2, a4⟩
end MB
