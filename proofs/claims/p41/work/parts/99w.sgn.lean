/-! sign -/
section SGN
variable {h h1 a b : vH} {l x : Int}
noncomputable def kSg (a : vH) (l x : Int) : Int := if 0 ≤ l ∧ l < a 1504 282 0 then (if 0 ≤ x ∧ x < a 2 284 l then 0 else 2) else 1
theorem Cq_sign (c : cAll h a) (g : iG a) : cOut h a (kSg a l x) (a 2 283 (80 * l + x)) e3 (vcl mX12_sign [(1, 3), (0, l), (0, x)] h) := by
  unfold kSg
  by_cases z : 0 ≤ l ∧ l < a 1504 282 0
  · obtain ⟨d1, d2, d3⟩ := C_lineOf c z
    have gl := g.1.2.1
    have gz := g.1.2.2.1 l z.1 (by omega)
    have e1 := (rX12_sign_0 (x1 := l) (x2 := x) c.1).trans ((vret_v d1).trans (rX12_sign_5 d2 (by omega) (by omega) c.1))
    rw [if_pos z]
    by_cases y : 0 ≤ x ∧ x < a 2 284 l
    · rw [if_pos y]
      refine cO_eq (e1.trans ((vret_n (C_chkRange.1 (by omega))).trans ((rX12_sign_18 d2).trans ?_))) (cO_v c cR_rf)
      unfold fX4_signAt
      rw [if_neg (by omega), if_neg (by omega), if_neg (by omega), (c.2.1.2.2.2.2 l z.1 z.2).1.2.2 x y.1 y.2]
    · rw [if_neg y]
      exact cO_eq (e1.trans (vret_x (C_chkRange.2 (by omega)) rfl)) (cO_x c cR_rf (by decide) rfl)
  · rw [if_neg z]
    exact cO_eq ((rX12_sign_0 c.1).trans (vret_x (C_lineOfX c z) rfl)) (cO_x c cR_rf (by decide) rfl)
end SGN

