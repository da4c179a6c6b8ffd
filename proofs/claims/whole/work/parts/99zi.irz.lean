/-! the invariants read the reference's part alone -/
section IRZ
variable {a b : vH}
theorem shM_rz (e : ∀ (k : Nat) (r i : Int), 282 ≤ r → r ≤ 337 → b k r i = a k r i) (g : shModel a) : shModel b := by
  unfold shModel at g ⊢
  simp (disch := decide) only [e]
  exact g
theorem iG_rz (e : ∀ (k : Nat) (r i : Int), 282 ≤ r → r ≤ 337 → b k r i = a k r i) (g : iG a) : iG b := by
  obtain ⟨⟨g1, g2, g3, g4⟩, g5⟩ := g
  refine ⟨⟨shM_rz e g1, ?_, ?_, fun p u v => ?_⟩, fun p u v => ?_⟩
  · simp (disch := decide) only [e]
    exact g2
  · simp (disch := decide) only [e]
    exact g3
  · have := g4 p u v
    unfold mOKp at this ⊢
    simp (disch := decide) only [e]
    exact this
  · have := g5 p u v
    simp (disch := decide) only [e]
    exact this
theorem iH_rz (e : ∀ (k : Nat) (r i : Int), 282 ≤ r → r ≤ 337 → b k r i = a k r i) (i : iH a) : iH b := iH_of (fun r j hr => e 2 r j (by omega) (by omega)) (e _ _ _ (by decide) (by decide)) (e _ _ _ (by decide) (by decide)) i
end IRZ
