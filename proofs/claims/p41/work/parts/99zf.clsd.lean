/-! setClosed -/
def iC (a : vH) : Prop := ∀ k, 0 ≤ k → k < 24 → a 2 304 k = 0 ∨ a 2 304 k = 1
section CLD
variable {h h1 a b : vH} {p x v : Int}
theorem lnE_cl {q l i : Int} (o : mOKp a q) (n : i < 6 * q ∨ 6 * q + 6 ≤ i) : lnE a (vup a 2 304 i v) q l := lnE_of o rfl rfl rfl (fun r j u s t => if_neg (fun y => by omega)) rfl rfl rfl (fun _ _ _ => rfl)
theorem cAll_cl (c : cAll h a) (o : ∀ q, 0 ≤ q → q < 4 → mOKp a q) (hp : 0 ≤ p ∧ p < 4) (hx : 0 ≤ x ∧ x < a 2 301 p) (f1 : h 714 (138 + 36 * p) 0 = 0) (f2 : h 715 (138 + 36 * p) 0 = -1) (f3 : ∀ i, 0 ≤ i → i < 60 → h 2 (138 + 36 * p + 26) i = -1) : cAll (vup h 302 (lE h (138 + 36 * p + 1 + 3) x) 0 v) (vup a 2 304 (6 * p + x) v) := by
  obtain ⟨c1, c2, c3, c4, c5, c6⟩ := c
  refine ⟨shPL_sx (sx_up rfl sx_rf) c1, c2, fun q u w => ?_, c4, c5, c6⟩
  obtain ⟨d1, ⟨⟨g1, g2, g3, g4, g5, g6, g7, g8⟩, d3, d4⟩, d5⟩ := c3 q u w
  have o1 := o p hp.1 hp.2
  have o2 := o q u w
  have lay : cLay (vup h 302 (lE h (138 + 36 * p + 1 + 3) x) 0 v) (vup a 2 304 (6 * p + x) v) q (138 + 36 * q + 1) := by
    obtain ⟨l1, l2, l3, l4, l5, l6, l7⟩ := g2
    refine ⟨l1, l2, l3, l4, l5, l6, fun j s t => ?_⟩
    have t : j < a 2 301 q := t
    obtain ⟨m1, m2, m3, m4⟩ := l7 j s t
    refine ⟨m1, m2, m3, ?_⟩
    show vup h 302 (lE h (138 + 36 * p + 1 + 3) x) 0 v 302 (lE h (138 + 36 * q + 1 + 3) j) 0 = vup a 2 304 (6 * p + x) v 2 304 (6 * q + j)
    by_cases z : q = p ∧ j = x
    · rw [z.1, z.2, vup_s, vup_s]
    · have n1 : ¬ lE h (138 + 36 * q + 1 + 3) j = lE h (138 + 36 * p + 1 + 3) x := fun e => by
        have := c6.2.2.2.2 q 2 j p 2 x u w (by decide) (by decide) s (by unfold nL; rw [if_neg (by decide), if_neg (by decide)]; exact t) hp.1 hp.2 (by decide) (by decide) hx.1 (by unfold nL; rw [if_neg (by decide), if_neg (by decide)]; exact hx.2) (by
          unfold eL
          rw [show 140 + 36 * q + 2 = 138 + 36 * q + 1 + 3 by omega, show 140 + 36 * p + 2 = 138 + 36 * p + 1 + 3 by omega]
          exact e)
        exact z ⟨this.1, this.2.2⟩
      have n2 : ¬ 6 * q + j = 6 * p + x := by
        obtain ⟨-, -, -, -, -, q6, -⟩ := o2
        obtain ⟨-, -, -, -, -, p6, -⟩ := o1
        omega
      have e1 : vup h 302 (lE h (138 + 36 * p + 1 + 3) x) 0 v 302 (lE h (138 + 36 * q + 1 + 3) j) 0 = h 302 (lE h (138 + 36 * q + 1 + 3) j) 0 := vup_r n1
      have e2 : vup a 2 304 (6 * p + x) v 2 304 (6 * q + j) = a 2 304 (6 * q + j) := if_neg (fun y => n2 y.2.2)
      rw [e1, e2]
      exact m4
  refine ⟨d1, ⟨⟨g1, lay, g3, g4, g5, g6, g7, g8⟩, ?_⟩, d5⟩
  by_cases z : q = p
  · subst z
    exact ⟨⟨fun l s t => Or.inl (f3 l s t), Or.inl f1⟩, Or.inl f2⟩
  · have n : 6 * p + x < 6 * q ∨ 6 * q + 6 ≤ 6 * p + x := by
      obtain ⟨-, -, -, -, -, p6, -⟩ := o1
      omega
    have d3' : cCnt (vup h 302 (lE h (138 + 36 * p + 1 + 3) x) 0 v) a q (138 + 36 * q) := d3
    have d4' : cLd (vup h 302 (lE h (138 + 36 * p + 1 + 3) x) 0 v) a q (138 + 36 * q) := d4
    exact ⟨cCnt_loc (a := a) rfl (fun _ _ _ => lnE_cl o2 n) d3', cLd_loc (a := a) rfl (fun _ _ _ => lnE_cl o2 n) d4'⟩
noncomputable def kSl (a : vH) (p x : Int) : Int := if 0 ≤ p ∧ p < 4 then (if 0 ≤ x ∧ x < a 2 301 p then 0 else 2) else 1
noncomputable def tSl (a : vH) (p x v : Int) : vH := if kSl a p x = 0 then vup (th 0 a) 2 304 (6 * p + x) v else th (kSl a p x) a
theorem kSl_0 : kSl a p x = 0 ↔ (0 ≤ p ∧ p < 4) ∧ 0 ≤ x ∧ x < a 2 301 p := by
  unfold kSl
  split
  · split
    · exact ⟨fun _ => by omega, fun _ => rfl⟩
    · exact ⟨fun w => absurd w (by decide), fun w => by omega⟩
  · exact ⟨fun w => absurd w (by decide), fun w => by omega⟩
end CLD

