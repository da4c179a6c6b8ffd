/-! all that holds between two calls, and a whole step -/
def iN (n : Int) (a : vH) : Prop := iA a ∧ iV n a ∧ iVs a
section JNN
variable {h h1 h2 a b out : vH} {p l x v w d m y mv fr to n : Int}
/-- the slots of the layers are left by the calls that leave them -/
theorem iV_of (e : ∀ r i : Int, r = 284 ∨ (294 ≤ r ∧ r ≤ 303) → b 2 r i = a 2 r i) (el : b 1504 282 0 = a 1504 282 0) (V : iV n a) : iV n b := fun k u v => by
  rw [e 294 _ (by decide), e 295 _ (by decide), e 296 _ (by decide), e 298 _ (by decide), e 299 _ (by decide), e 302 _ (by decide), e 303 _ (by decide), e 284 _ (by decide), e 284 _ (by decide), el]
  exact V k u v
theorem iV_L (z : eqL a b) (V : iV n a) : iV n b := iV_of (fun r i hr => z 2 r i (by omega) (by omega)) (z _ _ _ (by omega) (by omega)) V
theorem iV_open (V : iV n a) : iV n (tOp a p) := by
  unfold tOp
  split
  · exact iV_L (a := th 0 a) eqL_st V
  · exact V
theorem iV_close (V : iV n a) : iV n (tCs a p) := by
  unfold tCs
  split
  · exact iV_L (a := th 0 a) eqL_st V
  · exact V
theorem iV_share (V : iV n a) : iV n (tSh a p w l m) := by
  unfold tSh
  split
  · exact iV_L (a := th 0 a) eqL_st V
  · exact V
theorem iV_move (V : iV n a) : iV n (tMv a p mv) := by
  unfold tMv
  split
  · exact iV_B eqB_Mk (iV_L (a := th 0 a) eqL_lg V)
  · exact V
theorem iV_put (V : iV n a) : iV n (tPu a p l x) := by
  unfold tPu
  split
  · exact iV_B eqB_lk (iV_B (a := th 0 a) eqB_P1 V)
  · exact V
theorem iV_play (V : iV n a) : iV n (tPy a fr to) := by
  unfold tPy plA
  split
  · exact iV_B (a := th 0 a) (plH_B _ _ _ _) V
  · exact V
theorem iV_shape (V : iV n a) : iV n (tSp a p w d m) := by
  unfold tSp
  split
  · exact V
  · exact V
theorem iV_setClosed (V : iV n a) : iV n (tSl a p x v) := by
  unfold tSl
  split
  · exact V
  · exact V
end JNN

