theorem pR_tr {a b c : vH} (x : pR a b) (y : pR b c) : pR a c := fun r i e f => (y r i e f).trans (x r i e f)
section FC
variable {h : vH} {p l : Int}
end FC
section FC2
variable {h : vH} {p l : Int}
end FC2

section MC
variable {h : vH} {p l : Int}
theorem mLF_eq {h h1 : vH} {p : Int} (x : pR h h1) : ∀ (f l : Nat) (r : Int), mLF h1 p f l r = mLF h p f l r
  | 0, _, _ => rfl
  | f + 1, l, r => by
    unfold mLF
    rw [mRC_eq x, mLF_eq x f]
theorem mLn_eq {h h1 : vH} {p r : Int} (x : pR h h1) : mLn h1 p r = mLn h p r := mLF_eq x _ _ _
end MC

theorem eqA_tr {a b c : vH} (x : eqA a b) (y : eqA b c) : eqA a c := ⟨pR_tr x.1 y.1, y.2.1.trans x.2.1, sx_tr x.2.2 y.2.2⟩
section MCU
variable {a b h : vH} {p l x : Int}
theorem dnC_eq {s : Int} (y : pR a b) : dnC b p l x s = dnC a p l x s := by unfold dnC; rw [mCL_eq y, y _ _ (by decide) (by decide), y _ _ (by decide) (by decide)]
theorem cuR_eq (y : pR a b) (z : eqC a b p) : cuR b p = cuR a p := by unfold cuR; rw [cuL_eq y z, cuX_eq y z, dnR_eq y]
theorem cuC_eq (y : pR a b) (z : eqC a b p) : cuC b p = cuC a p := by unfold cuC; rw [cuL_eq y z, cuX_eq y z, dnC_eq y]
theorem rwJ_eq {r : Int} (y : pR a b) : rwJ b p r = rwJ a p r := by unfold rwJ; rw [mLn_eq y, mRA_eq y]
theorem rS_eq {j : Nat} (y : pR a b) : rS b p l j = rS a p l j := by unfold rS; rw [mCL_eq y, y _ _ (by decide) (by decide), y _ _ (by decide) (by decide)]
theorem plR_eq {r : Int} (y : pR a b) : plR b p r = plR a p r := by
  unfold plR
  rw [mLn_eq y, rwJ_eq y, mCL_eq y, mRC_eq y, rS_eq y, rS_eq y, y _ _ (by decide) (by decide)]
theorem upR_eq {r : Int} (y : pR a b) : upR b p r x = upR a p r x := by
  unfold upR
  rw [mLn_eq y, rwJ_eq y, mCL_eq y, y 286 _ (by decide) (by decide), y 287 _ (by decide) (by decide), y 284 _ (by decide) (by decide)]
end MCU

section MMV
variable {a b h : vH} {p l x : Int}
theorem eqA_ch : eqA a (tCh a p l x) := by
  unfold tCh
  split
  · exact eqA_rf
  · exact eqA_go
theorem eqA_lk : eqA a (tLk a p) := by
  unfold tLk
  split
  · split
    · exact eqA_rf
    · exact eqA_top
  · exact eqA_top
end MMV

section MPL
variable {h h1 a b : vH} {p P l x y mv : Int}
theorem lpR_eq {r : Int} (y : pR a b) : lpR b p r = lpR a p r := by
  unfold lpR
  rw [mLn_eq y, rwJ_eq y, mRC_eq y, rS_eq y, rS_eq y, mCL_eq y, y 284 _ (by decide) (by decide)]
end MPL

