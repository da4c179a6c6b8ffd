/-! marks and closed folds are kept by calls that leave them -/
section KEE
variable {a b c : vH} {p : Int}
theorem iM_L (x : eqL a b) (i : iM a) : iM b := fun l u v => by
  rw [x 2 285 l (by omega) (by omega)]
  exact i l u (by rw [← (eqL_A x).2.1]; exact v)
theorem iC_L (x : eqL a b) (i : iC a) : iC b := fun l u v => by
  rw [x 2 304 l (by omega) (by omega)]
  exact i l u v
theorem iM_B (x : eqB p a b) (i : iM a) : iM b := fun l u v => by
  rw [x 2 285 l (by omega)]
  exact i l u (by rw [← x 1504 282 0 (by omega)]; exact v)
theorem iC_B (x : eqB p a b) (i : iC a) : iC b := fun l u v => by
  rw [x 2 304 l (by omega)]
  exact i l u v
theorem iMC_th {k : Int} (i : iM a ∧ iC a) : iM (th k a) ∧ iC (th k a) := i
theorem iMC_L (x : eqL a b) (i : iM a ∧ iC a) : iM b ∧ iC b := ⟨iM_L x i.1, iC_L x i.2⟩
theorem iMC_B (x : eqB p a b) (i : iM a ∧ iC a) : iM b ∧ iC b := ⟨iM_B x i.1, iC_B x i.2⟩
theorem iMC_open (i : iM a ∧ iC a) : iM (tOp a p) ∧ iC (tOp a p) := by
  unfold tOp
  split
  · exact iMC_L eqL_st (iMC_th i)
  · exact iMC_th i
theorem iMC_close (i : iM a ∧ iC a) : iM (tCs a p) ∧ iC (tCs a p) := by
  unfold tCs
  split
  · exact iMC_L eqL_st (iMC_th i)
  · exact iMC_th i
theorem iMC_share {w l m : Int} (i : iM a ∧ iC a) : iM (tSh a p w l m) ∧ iC (tSh a p w l m) := by
  unfold tSh
  split
  · exact iMC_L eqL_st (iMC_th i)
  · exact iMC_th i
theorem iMC_move {mv : Int} (i : iM a ∧ iC a) : iM (tMv a p mv) ∧ iC (tMv a p mv) := by
  unfold tMv
  split
  · exact iMC_B eqB_Mk (iMC_L eqL_lg (iMC_th i))
  · exact iMC_th i
theorem iMC_put {l x : Int} (i : iM a ∧ iC a) : iM (tPu a p l x) ∧ iC (tPu a p l x) := by
  unfold tPu
  split
  · exact iMC_B eqB_lk (iMC_B eqB_P1 (iMC_th i))
  · exact iMC_th i
theorem iC_shape {w d m : Int} (i : iC a) : iC (tSp a p w d m) := by
  unfold tSp
  split
  · exact i
  · exact i
theorem iM_setClosed {x v : Int} (i : iM a) : iM (tSl a p x v) := by
  unfold tSl
  split
  · exact i
  · exact i
end KEE

