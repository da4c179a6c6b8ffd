/-! a step of the loop: the class has told of b, the reference goes there -/
def rZ (a b : vH) : Prop := ∀ (k : Nat) (r i : Int), ¬ (282 ≤ r ∧ r ≤ 337) → b k r i = a k r i
section JST
variable {h h1 h2 a b c : vH} {p : Int}
theorem rZ_rf : rZ a a := fun _ _ _ _ => rfl
theorem rZ_tr (x : rZ a b) (y : rZ b c) : rZ a c := fun k r i n => (y k r i n).trans (x k r i n)
theorem rZ_up {k : Nat} {r i v : Int} (hr : 282 ≤ r ∧ r ≤ 337) : rZ a (vup a k r i v) := fun _ _ _ n => if_neg (fun z => n (by rw [z.2.1]; exact hr))
theorem rZ_th {k : Int} : rZ a (th k a) := rZ_up (by decide)
theorem rZ_B (x : eqB p a b) : rZ a b := fun k r i n => x k r i (by omega)
theorem rZ_L (x : eqL a b) : rZ a b := fun k r i n => x k r i (by omega) (by omega)
theorem J_step (z : cAll h1 b) (x : rZ h1 b) (f : mF sA2 sT2 b h2) : cAll h2 h2 := by
  have sA : ∀ r : Int, r ∈ sA2 → 282 ≤ r ∧ r ≤ 337 := by decide
  have kc : kC h1 h2 := fun k r i n m => by
    refine (f k r i (fun w => ?_) (fun w => ?_)).trans (x k r i (by omega))
    · have := sA r w.2
      omega
    · omega
  exact cAll_rfE (fun k r i u v s t => f k r i s t) (mF_sx f (by decide)) (cAll_kC kc z)
theorem J_iG (g : iG b) (f : mF sA2 sT2 b h2) : mF sA2 sT2 b h2 ∧ iG b := ⟨f, g⟩
theorem rZ_open : rZ a (tOp a p) := by
  unfold tOp
  split
  · exact rZ_tr rZ_th (rZ_L eqL_st)
  · exact rZ_th
theorem rZ_close : rZ a (tCs a p) := by
  unfold tCs
  split
  · exact rZ_tr rZ_th (rZ_L eqL_st)
  · exact rZ_th
theorem rZ_share {w l m : Int} : rZ a (tSh a p w l m) := by
  unfold tSh
  split
  · exact rZ_tr rZ_th (rZ_L eqL_st)
  · exact rZ_th
theorem rZ_setMark {l v : Int} : rZ a (tSm a l v) := by
  unfold tSm
  split
  · exact rZ_tr rZ_th (rZ_up (by decide))
  · exact rZ_th
theorem rZ_shape {w d m : Int} : rZ a (tSp a p w d m) := by
  unfold tSp
  split
  · exact rZ_tr rZ_th (rZ_tr (rZ_tr (rZ_up (by decide)) (rZ_up (by decide))) (rZ_up (by decide)))
  · exact rZ_th
theorem rZ_setClosed {x v : Int} : rZ a (tSl a p x v) := by
  unfold tSl
  split
  · exact rZ_tr rZ_th (rZ_up (by decide))
  · exact rZ_th
theorem rZ_scroll {y : Int} : rZ a (tScr a p y) := by
  unfold tScr
  split
  · exact rZ_tr rZ_th (rZ_B eqB_Sc)
  · exact rZ_th
theorem rZ_move {mv : Int} : rZ a (tMv a p mv) := by
  unfold tMv
  split
  · exact rZ_tr rZ_th (rZ_tr (rZ_L eqL_lg) (rZ_B eqB_Mk))
  · exact rZ_th
end JST
