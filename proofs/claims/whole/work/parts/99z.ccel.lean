/-! cell, the class -/
section CCE
variable {h h1 a b : vH} {p r i w : Int}
theorem Cq_cell (c : cAll h a) (g : iG a) (hi : -1000000 ≤ i ∧ i ≤ 1000000) : cOut h a (kCe a p r i w) (vCe a p r i w) e3 (vcl mX12_cell [(1, 3), (0, p), (0, r), (0, i), (0, w)] h) := by
  unfold kCe
  by_cases z : 0 ≤ p ∧ p < 4
  · obtain ⟨h1, d1, d2, d3, d4⟩ := C_laid c g z
    have e1 := (rX12_cell_0 (x1 := p) (x2 := r) (x3 := i) (x4 := w) c.1).trans ((vret_v d1).trans (rX12_cell_5 d3.1))
    by_cases y : isRw a p r
    · rw [if_pos ⟨z, y⟩]
      obtain ⟨l1, j1, j2, v, r7⟩ := rw_in g.1 z y
      obtain ⟨h2, m1, m2, m3, m4⟩ := C_measured g z d4.1 d4.2.1 d4.2.2.2.1 (l := mLn a p r) ⟨l1.1, l1.2.1⟩
      have c2 := cRd_qM (by omega) m2 d4 m3
      obtain ⟨h3, t1, t2, c3, t4, t5⟩ := C_laidT g z (by omega) c2 m4 l1.1
      have cA := cAll_qM z m2 d3 c2
      have cB := cAll_qM z t2 cA c3
      obtain ⟨R, q, ql, qt, qr⟩ := cRd_Q g z c3 t4 l1.1
      have qt := qt t5
      have qr := qr v
      obtain ⟨f1, f2⟩ := cRd_f g.1 c3 (l := mLn a p r) l1.2.1
      have s0 := cQ_st q (j := rwJ a p r) (by omega)
      have s1 := cQ_st q (j := rwJ a p r + 1) (by omega)
      have q0 := cQ_in q (rwJ a p r)
      have n131 := q.2.2.2.2.2.1
      have hr0 := y.1
      have ma := mRA_in g.1 z (mLn a p r) (by omega)
      rw [show ((rwJ a p r + 1 : Nat) : Int) = (rwJ a p r : Int) + 1 by omega] at s1
      have last := rX12_cell_35 (x1 := p) (x2 := r) (x3 := i) (x4 := w) (x5 := 138 + 36 * p) (x6 := (mLn a p r : Int)) (y0 := 138 + 36 * p + 5) (h := h3) c3.2.1.1 (by omega) (by omega) q.1 (by rw [f2, ← j1, s0]; omega) (by rw [f2, ← j1, s0]; omega) (by omega) (by omega) (by rw [f2, ← j1, s0, s1]; omega) (by rw [f2, ← j1, s0, s1]; omega) cB.1
      rw [f2, ← j1] at last
      have e2 := e1.trans ((vret_n ((C_chkRow d4).1 y)).trans ((rX12_cell_14 d4.2.1.1).trans ((vret_v (C_lineOfRow g.1 z d4 y)).trans ((rX12_cell_20 d4.2.1.1).trans ((vret_v m1).trans ((rX12_cell_29 c2.2.1.1).trans ((vret_v t1).trans last)))))))
      have kr := kR_qC z (qC_tr d2 (qC_tr (qM_C m2) (qM_C t2)))
      by_cases u : 0 ≤ i ∧ i < vCt a p r
      · rw [if_pos u]
        have on := C_onScreen q qt (j := rwJ a p r) (by omega) u.1
        have uu : i < rSt (sg (mCL a p (mLn a p r))) (mCL a p (mLn a p r)).length (a 2 286 p) (a 2 287 p) (rwJ a p r + 1) - rSt (sg (mCL a p (mLn a p r))) (mCL a p (mLn a p r)).length (a 2 286 p) (a 2 287 p) (rwJ a p r) := u.2
        rw [if_neg (by omega)] at on
        have eI : ceI a p r i = lS (sg (mCL a p (mLn a p r))) (mCL a p (mLn a p r)).length (a 2 286 p) (a 2 287 p) (rSt (sg (mCL a p (mLn a p r))) (mCL a p (mLn a p r)).length (a 2 286 p) (a 2 287 p) (rwJ a p r) + i) := rfl
        rw [← eI] at on
        have pf := (row_f q.2.2.2.1 q.2.2.2.2.1.1 q.2.2.1.1 q.2.2.1.2.1 (rwJ a p r)).1 (rSt (sg (mCL a p (mLn a p r))) (mCL a p (mLn a p r)).length (a 2 286 p) (a 2 287 p) (rwJ a p r) + i) (by omega) (by omega)
        rw [← eI] at pf
        rw [on, if_neg (by omega)] at e2
        by_cases x : 0 ≤ w ∧ w ≤ 5
        · rw [if_pos x]
          refine cO_eq (e2.trans ((vret_n (C_chkRange.1 x)).trans ((rX12_cell_77 q.1).trans ?_))) (cO_v cB kr)
          unfold fX3_tell
          obtain ⟨g1, g2, g3, -⟩ := kCl_g q.2.1 (k := ceI a p r i) (by omega) (by omega)
          obtain ⟨t1, t2, t3⟩ := qt (ceI a p r i) (by omega) (by omega)
          have w4 := cQ_w q (c := ceI a p r i) (by omega) (by omega)
          rw [if_neg (by omega), if_pos (by omega), g1, g2, g3, t1, t3, w4]
          rfl
        · rw [if_neg x]
          exact cO_eq (e2.trans (vret_x (C_chkRange.2 x) rfl)) (cO_x cB kr (by decide) rfl)
      · rw [if_neg u]
        have on : fX3_onScreen h3 (138 + 36 * p + 5) (rwJ a p r) i = -1 := by
          by_cases i0 : 0 ≤ i
          · have on := C_onScreen q qt (j := rwJ a p r) (by omega) i0
            have uu : ¬ i < rSt (sg (mCL a p (mLn a p r))) (mCL a p (mLn a p r)).length (a 2 286 p) (a 2 287 p) (rwJ a p r + 1) - rSt (sg (mCL a p (mLn a p r))) (mCL a p (mLn a p r)).length (a 2 286 p) (a 2 287 p) (rwJ a p r) := fun n => u ⟨i0, n⟩
            rw [if_pos (by omega)] at on
            exact on
          · exact if_pos (by omega)
        rw [if_pos on] at e2
        exact cO_eq e2 (cO_x cB kr (by decide) rfl)
    · rw [if_neg (fun w => y w.2)]
      exact cO_eq (e1.trans (vret_x ((C_chkRow d4).2 y) rfl)) (cO_x d3 (kR_qC z d2) (by decide) rfl)
  · rw [if_neg (fun w => z w.1)]
    exact cO_eq ((rX12_cell_0 c.1).trans (vret_x (C_laidX c z) rfl)) (cO_x c cR_rf (by decide) rfl)
end CCE
