/-! the signs of virtual texts stay signs -/
section IVS
variable {a b c h : vH} {p l x s j f u v w d m mv fr to y r n : Int}
theorem iVs_of (e : ∀ i, b 2 300 i = a 2 300 i) (V : iVs a) : iVs b := fun k u v c s t w => by
  rw [e]
  exact V k u v c s t w
theorem iVs_th {k : Int} (V : iVs a) : iVs (th k a) := V
theorem iVs_B (z : eqB p a b) (V : iVs a) : iVs b := iVs_of (fun i => z 2 _ i (by omega)) V
theorem iVs_L (z : eqL a b) (V : iVs a) : iVs b := iVs_of (fun i => z 2 _ i (by omega) (by omega)) V
theorem iVs_open (V : iVs a) : iVs (tOp a p) := by
  unfold tOp
  split
  · exact iVs_L eqL_st (iVs_th V)
  · exact iVs_th V
theorem iVs_close (V : iVs a) : iVs (tCs a p) := by
  unfold tCs
  split
  · exact iVs_L eqL_st (iVs_th V)
  · exact iVs_th V
theorem iVs_share (V : iVs a) : iVs (tSh a p w l m) := by
  unfold tSh
  split
  · exact iVs_L eqL_st (iVs_th V)
  · exact iVs_th V
theorem iVs_move (V : iVs a) : iVs (tMv a p mv) := by
  unfold tMv
  split
  · exact iVs_B eqB_Mk (iVs_L eqL_lg (iVs_th V))
  · exact iVs_th V
theorem iVs_put (V : iVs a) : iVs (tPu a p l x) := by
  unfold tPu
  split
  · exact iVs_B eqB_lk (iVs_B eqB_P1 (iVs_th V))
  · exact iVs_th V
theorem iVs_play (V : iVs a) : iVs (tPy a fr to) := by
  unfold tPy plA
  split
  · exact iVs_B (plH_B _ _ _ _) (iVs_th V)
  · exact iVs_th V
theorem iVs_shape (V : iVs a) : iVs (tSp a p w d m) := by
  unfold tSp
  split
  · exact V
  · exact V
theorem iVs_setClosed (V : iVs a) : iVs (tSl a p x v) := by
  unfold tSl
  split
  · exact V
  · exact V
theorem iVs_insert (V : iVs a) : iVs (tIn a l x s) := by
  unfold tIn
  split
  · exact iVs_of (a := th 0 a) (fun i => cm_o (by decide)) V
  · exact V
theorem iVs_remove (x0 : iA a) (V : iVs a) : iVs (tRm a l f u) := by
  unfold tRm
  split
  · exact iVs_of (a := th 0 a) (fun i => wd_o (a := th 0 a) (iG_n6 x0.1) (by omega)) V
  · exact V
theorem iVs_breakLine (V : iVs a) : iVs (tBl a l x) := by
  unfold tBl
  split
  · exact iVs_of (a := th 0 a) (fun i => bk_o (by decide) (by decide)) V
  · exact V
theorem iVs_join (x0 : iA a) (V : iVs a) : iVs (tJn a l) := by
  unfold tJn
  split
  · exact iVs_of (a := th 0 a) (fun i => jd_o (a := th 0 a) (iG_n6 x0.1) (by omega) (by omega)) V
  · exact V
theorem iVs_type (V : iVs a) : iVs (tTy a p s) := by
  unfold tTy
  split
  · exact iVs_B eqB_T1 (iVs_of (a := th 0 a) (b := tT0 a p s) (fun i => cm_o (by decide)) V)
  · exact V
theorem iVs_draw (V : iVs a) : iVs (tDw a p) := by
  unfold tDw
  split
  · exact iVs_of (a := th 0 a) (fun i => dr_o (by omega)) V
  · exact V
/-- one is added -/
theorem iVs_dA {t : Int} (V : iVs a) (ht : 0 ≤ t ∧ t < 3) (ok : t = 1 → ∀ b : Int, 0 ≤ b → b ≤ 56 → b % 8 = 0 → vsg u b ≤ 127) : iVs (dA a p t l f u) := fun k u' v c s1 t1 w1 => by
  rcases dA_slot (a := a) (p := p) (t := t) (l := l) (f := f) (u := u) (s := 1) (i := k) ht (by decide) with e | ⟨e1, e2⟩
  · rw [e 300 (by decide)]
    exact V k u' v c s1 t1 w1
  · have q := (dA_1 (a := a) (p := p) (t := t) (l := l) (f := f) (u := u)).2.2
    rw [← e1] at q ⊢
    rw [← e1] at e2
    rw [e2]
    have q2 : dA a p 1 l f u 2 300 (6 * p + a 2 (293 + 4 * 1) p) = u := q
    rw [q2]
    exact ok e1.symm c s1 t1 w1
theorem iVs_hide (V : iVs a) : iVs (tHd a p l f u) := by
  unfold tHd
  split
  · exact iVs_dA (a := th 0 a) V (by decide) (fun w => absurd w (by decide))
  · exact V
theorem iVs_addFold (V : iVs a) : iVs (tAf a p f u) := by
  unfold tAf
  split
  · exact iVs_dA (a := th 0 a) V (by decide) (fun w => absurd w (by decide))
  · exact V
theorem isVt_b (z : isVt u) : ∀ b : Int, 0 ≤ b → b ≤ 56 → b % 8 = 0 → vsg u b ≤ 127 := fun b b0 b1 b2 => by
  obtain ⟨m, m1, m2, m3, m4⟩ := z
  have e : b = 8 * (b / 8) := by omega
  rw [e]
  by_cases y : b / 8 < m
  · have := m3 (b / 8) (by omega) y
    omega
  · have := m4 (b / 8) (by omega) (by omega)
    omega
theorem iVs_addVirtual (V : iVs a) : iVs (tAv a p l f u) := by
  unfold tAv
  by_cases k : kAv a p l f u = 0
  · rw [if_pos k]
    exact iVs_dA (a := th 0 a) V (by decide) (fun _ => isVt_b (kAv_0.mp k).2.1.2)
  · rw [if_neg k]; exact V
end IVS

