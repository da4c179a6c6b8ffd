/-! shape keeps the invariants -/
section SH3
variable {a : vH} {p w d m : Int}
theorem iG_sh (g : iG a) (hw : 10 ≤ w ∧ w ≤ 40) (hd : 0 ≤ d ∧ d ≤ 4) (hm : 0 ≤ m ∧ m ≤ 3) : iG (shM p w d m a) := by
  obtain ⟨⟨g1, g2, g3, g4⟩, g5⟩ := g
  refine ⟨⟨g1, g2, g3, fun q u v => ?_⟩, fun q u v => ?_⟩
  · obtain ⟨o, ow, od⟩ := g4 q u v
    refine ⟨o, ?_⟩
    by_cases z : q = p
    · subst z
      obtain ⟨e1, e2, e3⟩ := shM_p (p := q) (w := w) (d := d) (m := m) (a := a)
      rw [e1, e2]; exact ⟨hw, hd⟩
    · obtain ⟨e1, e2, e3⟩ := shM_o (w := w) (d := d) (m := m) (a := a) z
      rw [e1, e2]; exact ⟨ow, od⟩
  · obtain ⟨f1, f2, f3, f4, f5, f6⟩ := g5 q u v
    refine ⟨f1, f2, f3, f4, f5, ?_⟩
    by_cases z : q = p
    · subst z
      rw [(shM_p (p := q) (w := w) (d := d) (m := m) (a := a)).2.2]; exact hm
    · rw [(shM_o (w := w) (d := d) (m := m) (a := a) z).2.2]; exact f6
theorem iX_shape (g : iG a) (i : iH a) : iG (tSp a p w d m) ∧ iH (tSp a p w d m) := by
  unfold tSp
  by_cases z : kSp p w d m = 0
  · rw [if_pos z]
    have y := kSp_0.mp z
    have i0 : iH (th 0 a) := iH_th i
    have i1 : iH (shM p w d m (th 0 a)) := i0
    exact ⟨iG_sh (iG_tk g) y.2.1 y.2.2.1 y.2.2.2, i1⟩
  · rw [if_neg z]
    exact ⟨iG_tk g, iH_th i⟩
theorem iM_th {k : Int} (x : iM a) : iM (th k a) := x
theorem iM_shape (x : iM a) : iM (tSp a p w d m) := by
  unfold tSp
  split
  · exact x
  · exact x
end SH3

