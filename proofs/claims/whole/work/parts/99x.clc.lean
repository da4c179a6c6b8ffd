/-! clusters -/
section CLC
variable {h h1 a b : vH} {p r i w : Int}
noncomputable def vCt (a : vH) (p r : Int) : Int := rS a p (mLn a p r) (rwJ a p r + 1) - rS a p (mLn a p r) (rwJ a p r)
theorem vCt_eq (y : pR a b) : vCt b p r = vCt a p r := by
  unfold vCt
  rw [mLn_eq y, rwJ_eq y, rS_eq y, rS_eq y]
theorem Mq_clusters (g : iG h) : mOut h (kRw h p r) (vCt h p r) (vcl mX13_clusters [(1, 282), (0, p), (0, r)] h) := by
  obtain ⟨h1, i1, i2⟩ := M_isRow g.1 (p := p) (r := r)
  have g1 := iG_sc i2 g
  have f1 : mF sA sT h (vup h1 1500 282 0 (kRw h p r)) := mF_tr (sT_of i2) fine_F
  have g2 := iG_sT f1 g
  have e0 := (rX13_clusters_0 (x1 := p) (x2 := r) g.1.1).trans ((vret_v i1).trans (rX13_clusters_7 g1.1.1))
  rw [kRw_x] at e0
  by_cases z : (0 ≤ p ∧ p < 4) ∧ isRw h p r
  · have k0 : kRw h p r = 0 := if_pos z
    rw [k0] at e0 f1 g2 ⊢
    have y := eqA_sT f1
    have z2 := (isRw_eq y).mpr z.2
    obtain ⟨l1, j1, j2, v, r7⟩ := rw_in g2.1 z.1 z2
    obtain ⟨h2, R, d1, d2, d3, d4, d5⟩ := M_laysRow g2.1 z.1 z2 (by omega)
    rw [← vCt_eq y.1]
    rw [← j1] at d1 d4 d5
    have sR : ∀ j : Nat, j ≤ R → h2 2 320 j = rS (vup h1 1500 282 0 0) p (mLn (vup h1 1500 282 0 0) p r) j := d3.2.2.2.1
    have q0 := mQ_in d3 (rwJ (vup h1 1500 282 0 0) p r)
    have n131 := d3.2.2.2.2.2.2.2.1
    have r131 := d3.2.1.2
    have s0 := sR (rwJ (vup h1 1500 282 0 0) p r) (by omega)
    have s1 := sR (rwJ (vup h1 1500 282 0 0) p r + 1) (by omega)
    rw [show ((rwJ (vup h1 1500 282 0 0) p r + 1 : Nat) : Int) = (rwJ (vup h1 1500 282 0 0) p r : Int) + 1 by omega] at s1
    have q1 : 0 ≤ rS (vup h1 1500 282 0 0) p (mLn (vup h1 1500 282 0 0) p r) (rwJ (vup h1 1500 282 0 0) p r) ∧ rS (vup h1 1500 282 0 0) p (mLn (vup h1 1500 282 0 0) p r) (rwJ (vup h1 1500 282 0 0) p r) ≤ rS (vup h1 1500 282 0 0) p (mLn (vup h1 1500 282 0 0) p r) (rwJ (vup h1 1500 282 0 0) p r + 1) ∧ rS (vup h1 1500 282 0 0) p (mLn (vup h1 1500 282 0 0) p r) (rwJ (vup h1 1500 282 0 0) p r + 1) ≤ 131 := ⟨q0.1, q0.2.1, Int.le_trans q0.2.2 (by omega)⟩
    refine mO_eq (e0.trans ((fine1 g1.1.1).trans ((rX13_clusters_18 g2.1.1).trans ?_))) (mO_g (mF_tr f1 (sT_of d2)) (th_K vup_s d2) (fun _ => rfl))
    rw [if_neg (by decide)]
    refine (vret_v d1).trans ((rX13_clusters_29 (iG_sc d2 g2).1.1 (by omega) (by omega) (by omega) (by omega) (by omega) (by omega) (by omega) (by omega)).trans ?_)
    rw [s0, s1]
    rfl
  · have k1 : kRw h p r = 1 := if_neg z
    rw [k1] at e0 f1 g2 ⊢
    exact mO_eq (e0.trans ((fine0 g1.1.1 (by decide)).trans ((rX13_clusters_18 g2.1.1).trans (if_pos rfl)))) (mO_g f1 vup_s (fun w => absurd w (by decide)))
theorem Cq_clusters (c : cAll h a) (g : iG a) : cOut h a (kRw a p r) (vCt a p r) e3 (vcl mX12_clusters [(1, 3), (0, p), (0, r)] h) := by
  unfold kRw
  by_cases z : 0 ≤ p ∧ p < 4
  · obtain ⟨h1, d1, d2, d3, d4⟩ := C_laid c g z
    have e1 := (rX12_clusters_0 (x1 := p) (x2 := r) c.1).trans ((vret_v d1).trans (rX12_clusters_5 d3.1))
    by_cases y : isRw a p r
    · rw [if_pos ⟨z, y⟩]
      obtain ⟨l1, j1, j2, v, r7⟩ := rw_in g.1 z y
      obtain ⟨h2, m1, m2, m3, m4⟩ := C_measured g z d4.1 d4.2.1 d4.2.2.2.1 (l := mLn a p r) ⟨l1.1, l1.2.1⟩
      have c2 := cRd_qM (by omega) m2 d4 m3
      obtain ⟨R, q, ql, qt, qr⟩ := cRd_Q g z c2 m4 l1.1
      have qr := qr v
      obtain ⟨f1, f2⟩ := cRd_f g.1 c2 (l := mLn a p r) l1.2.1
      have s0 := cQ_st q (j := rwJ a p r) (by omega)
      have s1 := cQ_st q (j := rwJ a p r + 1) (by omega)
      have q0 := cQ_in q (rwJ a p r)
      have n131 := q.2.2.2.2.2.1
      rw [show ((rwJ a p r + 1 : Nat) : Int) = (rwJ a p r : Int) + 1 by omega] at s1
      rw [j1] at s0 s1
      have hr0 := y.1
      have ma := mRA_in g.1 z (mLn a p r) (by omega)
      have last := rX12_clusters_25 (x1 := p) (x2 := r) (x3 := 138 + 36 * p) (x4 := (mLn a p r : Int)) (y0 := 138 + 36 * p + 5) (h := h2) c2.2.1.1 (by omega) (by omega) q.1 (by omega) (by rw [f2, s0, s1]; omega) (by rw [f2, s0, s1]; omega)
      refine cO_eq (e1.trans ((vret_n ((C_chkRow d4).1 y)).trans ((rX12_clusters_12 d4.2.1.1).trans ((vret_v (C_lineOfRow g.1 z d4 y)).trans ((rX12_clusters_17 d4.2.1.1).trans ((vret_v m1).trans (last.trans ?_))))))) (cO_v (cAll_qM z m2 d3 c2) (kR_qC z (qC_tr d2 (qM_C m2))))
      unfold fX3_cellsIn
      rw [f2, s0, s1]
      rfl
    · rw [if_neg (fun w => y w.2)]
      exact cO_eq (e1.trans (vret_x ((C_chkRow d4).2 y) rfl)) (cO_x d3 (kR_qC z d2) (by decide) rfl)
  · rw [if_neg (fun w => z w.1)]
    exact cO_eq ((rX12_clusters_0 c.1).trans (vret_x (C_laidX c z) rfl)) (cO_x c cR_rf (by decide) rfl)
end CLC
