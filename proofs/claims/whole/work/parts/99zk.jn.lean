/-! what holds between two calls of the law -/
def J (h : vH) : Prop := cAll h h ∧ iG h ∧ iH h ∧ iM h ∧ iC h
section JN
variable {h2 b : vH} {out : vH}
theorem sA2_no : ∀ r : Int, r ∈ sA2 → ¬ ((283 ≤ r ∧ r ≤ 310) ∨ r = 327 ∨ r = 329 ∨ r = 334 ∨ r = 335) := by decide
theorem m2_r (f : mF sA2 sT2 b h2) {r j : Int} (hr : (283 ≤ r ∧ r ≤ 310) ∨ r = 327 ∨ r = 329 ∨ r = 334 ∨ r = 335) : h2 2 r j = b 2 r j := f 2 r j (fun w => sA2_no r w.2 hr) (fun w => by omega)
theorem m2_A (f : mF sA2 sT2 b h2) : eqA b h2 := ⟨fun r i e e2 => m2_r f (by omega), f _ _ _ (by decide) (by decide), mF_sx f (by decide)⟩
theorem iG_m2 (f : mF sA2 sT2 b h2) (g : iG b) : iG h2 := iG_a (m2_A f) g (fun p u v => by
  rw [m2_r f (r := 305) (by decide), m2_r f (r := 306) (by decide), m2_r f (r := 308) (by decide), m2_r f (r := 309) (by decide)]
  obtain ⟨-, -, -, g4, g5, -⟩ := g.2 p u v
  exact ⟨g4, g5⟩)
theorem iH_m2 (f : mF sA2 sT2 b h2) (i : iH b) : iH h2 := iH_of (fun r j hr => m2_r f (by omega)) (f _ _ _ (by decide) (by decide)) (f _ _ _ (by decide) (by decide)) i
theorem iM_m2 (f : mF sA2 sT2 b h2) (i : iM b) : iM h2 := fun l u v => by
  rw [m2_r f (r := 285) (by decide)]
  exact i l u (by rw [← (m2_A f).2.1]; exact v)
theorem iC_m2 (f : mF sA2 sT2 b h2) (i : iC b) : iC h2 := fun l u v => by
  rw [m2_r f (r := 304) (by decide)]
  exact i l u v
theorem J_next (c : cAll out b) (z : rZ out b) (f : mF sA2 sT2 b h2) (g : iG b) (i : iH b) (m : iM b) (k : iC b) : J h2 := ⟨J_step c z f, iG_m2 f g, iH_m2 f i, iM_m2 f m, iC_m2 f k⟩
end JN
