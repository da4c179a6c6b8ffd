/-! cell, of any number: what lies far outside of a row is no cell of it, also where the sum goes round -/
section BIG
variable {h a : vH} {p r i w n : Int}
theorem onScr_big {x0 x1 x2 : Int} (s1 : shLayout h x0) (p1 : -2147483648 ≤ x1 + 1) (p2 : x1 + 1 < 2147483648) (p4 : -2147483648 ≤ fX3_startOf h x0 (x1 + 1) - fX3_startOf h x0 x1) (p5 : fX3_startOf h x0 (x1 + 1) - fX3_startOf h x0 x1 < 2147483648) (h0 : 0 ≤ x2) (hb : fX3_cellsIn h x0 x1 ≤ x2) : vcl mX3_onScreen [(1, x0), (0, x1), (0, x2)] h = some (.inl (some (0, -1)), h) := by
  show vrun mX3_onScreen 0 [(1, x0), (0, x1), (0, x2), (9, 0)] [] h = _
  refine (rn_aload_n (pc := 0) (dd bX3_onScreen dX3_onScreen_0) rfl).trans ?_
  refine (rn_iload_n (pc := 1) (dd bX3_onScreen dX3_onScreen_1) rfl).trans ?_
  refine (rg_virtual (pc := 2) (dd bX3_onScreen dX3_onScreen_2) rfl rfl (by decide) (kc := 24) rfl s1.1 (as := [(1, x0), (0, x1)]) rfl ⟨Nat.le_of_ble_eq_true rfl, Nat.le_of_ble_eq_true rfl, Nat.le_of_ble_eq_true rfl, Nat.le_of_ble_eq_true rfl⟩).trans ?_
  refine (vret_v (spX3_startOf s1)).trans ?_
  refine (rn_iload_n (pc := 5) (dd bX3_onScreen dX3_onScreen_5) rfl).trans ?_
  refine (rn_iadd (pc := 6) (dd bX3_onScreen dX3_onScreen_6)).trans ?_
  refine (rn_istore_n (pc := 7) (dd bX3_onScreen dX3_onScreen_7) (Nat.le_of_ble_eq_true rfl) rfl).trans ?_
  refine (rn_iload_n (pc := 8) (dd bX3_onScreen dX3_onScreen_8) rfl).trans ?_
  refine (rn_if_lt (t := 41) (pc := 9) (dd bX3_onScreen dX3_onScreen_9) rfl).trans ?_
  refine (if_neg (by omega)).trans ?_
  refine (rn_iload_n (pc := 12) (dd bX3_onScreen dX3_onScreen_12) rfl).trans ?_
  refine (rn_aload_n (pc := 13) (dd bX3_onScreen dX3_onScreen_13) rfl).trans ?_
  refine (rn_iload_n (pc := 14) (dd bX3_onScreen dX3_onScreen_14) rfl).trans ?_
  refine (rg_virtual (pc := 15) (dd bX3_onScreen dX3_onScreen_15) rfl rfl (by decide) (kc := 24) rfl s1.1 (as := [(1, x0), (0, x1)]) rfl ⟨Nat.le_of_ble_eq_true rfl, Nat.le_of_ble_eq_true rfl, Nat.le_of_ble_eq_true rfl, Nat.le_of_ble_eq_true rfl⟩).trans ?_
  refine (vret_v (spX3_cellsIn p1 p2 s1 p4 p5)).trans ?_
  refine (rn_icmp_ge (t := 41) (pc := 18) (dd bX3_onScreen dX3_onScreen_18) rfl).trans ?_
  refine (if_pos hb).trans ?_
  refine (rn_iconst (pc := 41) (dd bX3_onScreen dX3_onScreen_41) (by decide)).trans ?_
  exact rn_ireturn (pc := 42) (dd bX3_onScreen dX3_onScreen_42) (Or.inl rfl)
theorem cell35_big {x1 x2 x3 x4 x5 x6 y0 : Int} (s1 : shPane h x5) (p2 : -2147483648 ≤ x2 - fX5_firstRow h x5 x6) (p3 : x2 - fX5_firstRow h x5 x6 < 2147483648) (s4 : shLayout h y0) (p7 : -2147483648 ≤ x2 - fX5_firstRow h x5 x6 + 1) (p8 : x2 - fX5_firstRow h x5 x6 + 1 < 2147483648) (p9 : -2147483648 ≤ fX3_startOf h y0 (x2 - fX5_firstRow h x5 x6 + 1) - fX3_startOf h y0 (x2 - fX5_firstRow h x5 x6)) (p10 : fX3_startOf h y0 (x2 - fX5_firstRow h x5 x6 + 1) - fX3_startOf h y0 (x2 - fX5_firstRow h x5 x6) < 2147483648) (h0 : 0 ≤ x3) (hb : fX3_cellsIn h y0 (x2 - fX5_firstRow h x5 x6) ≤ x3) : vrun mX12_cell 35 [(1, 3), (0, x1), (0, x2), (0, x3), (0, x4), (1, x5), (0, x6), (9, 0), (9, 0)] [(1, y0)] h = some (.inr "java/lang/IndexOutOfBoundsException", vexc h) := by
  refine (rn_astore (pc := 35) (dd bX12_cell dX12_cell_35) (Nat.le_of_ble_eq_true rfl) rfl).trans ?_
  refine (rn_aload (pc := 37) (dd bX12_cell dX12_cell_37) rfl).trans ?_
  refine (rn_aload (pc := 39) (dd bX12_cell dX12_cell_39) rfl).trans ?_
  refine (rn_iload_n (pc := 41) (dd bX12_cell dX12_cell_41) rfl).trans ?_
  refine (rn_iload (pc := 42) (dd bX12_cell dX12_cell_42) rfl).trans ?_
  refine (rg_virtual (pc := 44) (dd bX12_cell dX12_cell_44) rfl rfl (by decide) (kc := 26) rfl s1.1 (as := [(1, x5), (0, x2), (0, x6)]) rfl ⟨Nat.le_of_ble_eq_true rfl, Nat.le_of_ble_eq_true rfl, Nat.le_of_ble_eq_true rfl, Nat.le_of_ble_eq_true rfl⟩).trans ?_
  refine (vret_v (spX5_rowInLine s1 p2 p3)).trans ?_
  refine (rn_iload_n (pc := 47) (dd bX12_cell dX12_cell_47) rfl).trans ?_
  refine (rg_virtual (pc := 48) (dd bX12_cell dX12_cell_48) rfl rfl (by decide) (kc := 24) rfl s4.1 (as := [(1, y0), (0, x2 - fX5_firstRow h x5 x6), (0, x3)]) rfl ⟨Nat.le_of_ble_eq_true rfl, Nat.le_of_ble_eq_true rfl, Nat.le_of_ble_eq_true rfl, Nat.le_of_ble_eq_true rfl⟩).trans ?_
  refine (vret_v (onScr_big s4 p7 p8 p9 p10 h0 hb)).trans ?_
  refine (rn_istore (pc := 51) (dd bX12_cell dX12_cell_51) (Nat.le_of_ble_eq_true rfl) rfl).trans ?_
  refine (rn_iload (pc := 53) (dd bX12_cell dX12_cell_53) rfl).trans ?_
  refine (rn_iconst (pc := 55) (dd bX12_cell dX12_cell_55) (by decide)).trans ?_
  refine (rg_icmp_ne (t := 69) (pc := 56) (dd bX12_cell dX12_cell_56) rfl).trans ((if_pos rfl).trans ?_)
  exact rn_throw (pc := 59) (dd bX12_cell dX12_cell_59) rfl (vthrows_m bX12_cell (vthrows_s dX12_cell_59 dX12_cell_62 dX12_cell_63 dX12_cell_65 dX12_cell_68)) ⟨rfl, rfl, rfl, Nat.le_of_ble_eq_true rfl, Nat.le_of_ble_eq_true rfl⟩
theorem Cq_cell2 (c : cAll h a) (g : iG a) (hi : -2147483648 ≤ i ∧ i < 2147483648) : cOut h a (kCe a p r i w) (vCe a p r i w) e3 (vcl mX12_cell [(1, 3), (0, p), (0, r), (0, i), (0, w)] h) := by
  by_cases sm : -1000000 ≤ i ∧ i ≤ 1000000
  · exact Cq_cell c g sm
  unfold kCe
  by_cases z : 0 ≤ p ∧ p < 4
  · obtain ⟨h1, d1, d2, d3, d4⟩ := C_laid c g z
    have e1 := (rX12_cell_0 (x1 := p) (x2 := r) (x3 := i) (x4 := w) c.1).trans ((vret_v d1).trans (rX12_cell_5 d3.1))
    by_cases y : isRw a p r
    · rw [if_pos ⟨z, y⟩]
      obtain ⟨l1, j1, j2, v, r7⟩ := rw_in g.1 z y
      obtain ⟨h2, m1, m2, m3, m4⟩ := C_measured g z d4.1 d4.2.1 d4.2.2.2.1 (l := mLn a p r) ⟨l1.1, l1.2.1⟩
      have c2 := cRd_qM (by omega) m2 d4 m3
      obtain ⟨h3, t1, t2, c3, t4, t5⟩ := C_laidT g z (by omega) c2 m4 l1.1
      have cA := cAll_qM z m2 d3 c2
      have cB := cAll_qM z t2 cA c3
      obtain ⟨R, q, ql, qt, qr⟩ := cRd_Q g z c3 t4 l1.1
      have qt := qt t5
      have qr := qr v
      obtain ⟨f1, f2⟩ := cRd_f g.1 c3 (l := mLn a p r) l1.2.1
      have s0 := cQ_st q (j := rwJ a p r) (by omega)
      have s1 := cQ_st q (j := rwJ a p r + 1) (by omega)
      have q0 := cQ_in q (rwJ a p r)
      have qq := cQ_in q (rwJ a p r + 1)
      have n131 := q.2.2.2.2.2.1
      have hr0 := y.1
      have ma := mRA_in g.1 z (mLn a p r) (by omega)
      rw [show ((rwJ a p r + 1 : Nat) : Int) = (rwJ a p r : Int) + 1 by omega] at s1
      have ec : fX3_cellsIn h3 (138 + 36 * p + 5) (rwJ a p r) = fX3_startOf h3 (138 + 36 * p + 5) ((rwJ a p r : Int) + 1) - fX3_startOf h3 (138 + 36 * p + 5) (rwJ a p r) := rfl
      have last : vrun mX12_cell 35 [(1, 3), (0, p), (0, r), (0, i), (0, w), (1, 138 + 36 * p), (0, (mLn a p r : Int)), (9, 0), (9, 0)] [(1, 138 + 36 * p + 5)] h3 = some (.inr "java/lang/IndexOutOfBoundsException", vexc h3) := by
        by_cases i0 : 0 ≤ i
        · exact cell35_big c3.2.1.1 (by omega) (by omega) q.1 (by omega) (by omega) (by rw [f2, ← j1, s0, s1]; omega) (by rw [f2, ← j1, s0, s1]; omega) i0 (by rw [f2, ← j1, ec, s0, s1]; omega)
        · have la := rX12_cell_35 (x1 := p) (x2 := r) (x3 := i) (x4 := w) (x5 := 138 + 36 * p) (x6 := (mLn a p r : Int)) (y0 := 138 + 36 * p + 5) (h := h3) c3.2.1.1 (by omega) (by omega) q.1 (by rw [f2, ← j1, s0]; omega) (by rw [f2, ← j1, s0]; omega) (by omega) (by omega) (by rw [f2, ← j1, s0, s1]; omega) (by rw [f2, ← j1, s0, s1]; omega) cB.1
          refine la.trans (if_pos ?_)
          exact if_pos (by omega)
      have e2 := e1.trans ((vret_n ((C_chkRow d4).1 y)).trans ((rX12_cell_14 d4.2.1.1).trans ((vret_v (C_lineOfRow g.1 z d4 y)).trans ((rX12_cell_20 d4.2.1.1).trans ((vret_v m1).trans ((rX12_cell_29 c2.2.1.1).trans ((vret_v t1).trans last)))))))
      have kr := kR_qC z (qC_tr d2 (qC_tr (qM_C m2) (qM_C t2)))
      have u : ¬ (0 ≤ i ∧ i < vCt a p r) := fun w => by
        have e : vCt a p r = rSt (sg (mCL a p (mLn a p r))) (mCL a p (mLn a p r)).length (a 2 286 p) (a 2 287 p) (rwJ a p r + 1) - rSt (sg (mCL a p (mLn a p r))) (mCL a p (mLn a p r)).length (a 2 286 p) (a 2 287 p) (rwJ a p r) := rfl
        omega
      rw [if_neg u]
      exact cO_eq e2 (cO_x cB kr (by decide) rfl)
    · rw [if_neg (fun w => y w.2)]
      exact cO_eq (e1.trans (vret_x ((C_chkRow d4).2 y) rfl)) (cO_x d3 (kR_qC z d2) (by decide) rfl)
  · rw [if_neg (fun w => z w.1)]
    exact cO_eq ((rX12_cell_0 c.1).trans (vret_x (C_laidX c z) rfl)) (cO_x c cR_rf (by decide) rfl)
theorem N_cell2 (j : JN n h) (hi : -2147483648 ≤ i ∧ i < 2147483648) : stepN n h e3 (fun a => a) (fun a => kCe a p r i w) (fun a => vCe a p r i w) (vcl mX12_cell ((1, 3) :: [(0, p), (0, r), (0, i), (0, w)]) h) (fun a => vcl mX13_cell ((1, 282) :: [(0, p), (0, r), (0, i), (0, w)]) a) := J_loopO j (fun a v => v) (fun a v => v) (fun a c x => Cq_cell2 c x.1 hi) (fun a x => Mq_cell x.1) (fun a x => x) (fun a => rZ_rf)
end BIG
