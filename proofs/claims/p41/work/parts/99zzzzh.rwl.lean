/-! rows and lines -/
section RWL
variable {a : vH} {p x s : Int}
theorem rw_vis (g : iG a) (hp : 0 ≤ p ∧ p < 4) {k : Nat} (hk : (k : Int) < a 1504 282 0) (nv : ¬ mInv a p k) : (1 ≤ mRC a p k ∧ mRC a p k ≤ 131) ∧ (isRw a p (mRA a p k) ∧ (mLn a p (mRA a p k) : Int) = k) ∧ (isRw a p (mRA a p k + mRC a p k - 1) ∧ (mLn a p (mRA a p k + mRC a p k - 1) : Int) = k) ∧ ∀ x s, mRA a p k ≤ vRA a p k x s ∧ vRA a p k x s < mRA a p k + mRC a p k := by
  have gl := g.1.2.1
  have r := mRC_in g.1 hp (l := (k : Int)) ⟨by omega, by omega⟩
  have r1 := r.2.2 nv
  have u1 := mLn_un g.1 hp (r := mRA a p k) (l := k) hk (Int.le_refl _) (by omega)
  have u2 := mLn_un g.1 hp (r := mRA a p k + mRC a p k - 1) (l := k) hk (by omega) (by omega)
  refine ⟨⟨r1, r.2.1⟩, ⟨u1.1, by rw [u1.2]⟩, ⟨u2.1, by rw [u2.2]⟩, fun x s => ?_⟩
  have e : vRA a p k x s = dnR a p k x s := if_neg nv
  rw [e]
  obtain ⟨d1, d2⟩ := dnR_in g.1 hp (l := (k : Int)) (x := x) (s := s) ⟨by omega, hk⟩ nv
  have i := mLn_in g.1 d1
  have e2 : mLn a p (dnR a p k x s) = k := by omega
  rw [e2] at i
  exact i.2
theorem rw_inv (g : iG a) (hp : 0 ≤ p ∧ p < 4) {k : Nat} (hk : (k : Int) < a 1504 282 0) (v : mInv a p k) : mRC a p k = 0 ∧ vRA a p k x s = -1 := ⟨if_pos v, if_pos v⟩
theorem rw_all (g : iG a) (hp : 0 ≤ p ∧ p < 4) : (0 < mAll a p ∧ mAll a p ≤ 7860) ∧ (0 ≤ cuR a p ∧ cuR a p < mAll a p) ∧ (0 ≤ toR a p ∧ toR a p < mAll a p) := by
  have c := (cu_in g hp).2.2.2.1
  have t := to_in g hp
  have i := mAll_in g.1 hp
  unfold isRw at c t
  have e : mAll a p = mRA a p (a 1504 282 0).toNat := rfl
  omega
end RWL
