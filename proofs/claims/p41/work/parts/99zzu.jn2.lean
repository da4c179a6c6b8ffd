/-! two lines are joined: the reference's layers -/
section JN2
variable {h h2 a b : vH} {p q P Q X l x s f u t j st r l0 x0 n e m : Int}
theorem dFk_sx : ∀ (k : Nat) (a : vH), sx a (dFk p k a)
  | 0, _ => sx_rf
  | k + 1, a => by
    unfold dFk
    split
    · exact sx_tr dR_sx (dFk_sx k _)
    · exact dFk_sx k _
theorem dF_sx : sx a (dF a p) := dFk_sx _ _
theorem dFn_sx : ∀ (k : Nat), sx a (dFn k a)
  | 0 => sx_rf
  | k + 1 => sx_tr (dFn_sx k) dF_sx
theorem dR2_n {k : Int} : dR a p 2 k 2 301 p = a 2 301 p - 1 := if_pos ⟨rfl, rfl, rfl⟩
/-- outside of the folds of a pane nothing changes -/
theorem dFk_o {i : Int} {kk : Nat} {r : Int} (hp : 0 ≤ p ∧ p < 4) (n : ¬ (kk = 2 ∧ (r = 301 ∧ i = p ∨ 302 ≤ r ∧ r ≤ 304 ∧ 6 * p ≤ i ∧ i < 6 * p + 6))) : ∀ (k : Nat) (a : vH), a 2 301 p ≤ 6 → (k : Int) ≤ a 2 301 p → dFk p k a kk r i = a kk r i
  | 0, _, _, _ => rfl
  | k + 1, a, h6, hk => by
    have e1 : dR a p 2 k kk r i = a kk r i := by
      unfold dR
      rw [if_neg (by omega), if_neg (by
        have : a 2 (293 + 4 * 2) p = a 2 301 p := rfl
        omega)]
    have e2 := dR2_n (a := a) (p := p) (k := (k : Int))
    unfold dFk
    split
    · rw [dFk_o hp n k _ (by omega) (by omega), e1]
    · exact dFk_o hp n k a h6 (by omega)
theorem dF_o {i : Int} {kk : Nat} {r : Int} (hp : 0 ≤ p ∧ p < 4) (n6 : 0 ≤ a 2 301 p ∧ a 2 301 p ≤ 6) (n : ¬ (kk = 2 ∧ (r = 301 ∧ i = p ∨ 302 ≤ r ∧ r ≤ 304 ∧ 6 * p ≤ i ∧ i < 6 * p + 6))) : dF a p kk r i = a kk r i := dFk_o hp n _ a n6.2 (by omega)
theorem dFk_n (hp : 0 ≤ p) : ∀ (k : Nat) (a : vH), (k : Int) ≤ a 2 301 p → 0 ≤ dFk p k a 2 301 p ∧ dFk p k a 2 301 p ≤ a 2 301 p
  | 0, a, hk => ⟨hk, Int.le_refl _⟩
  | k + 1, a, hk => by
    have e2 := dR2_n (a := a) (p := p) (k := (k : Int))
    unfold dFk
    split
    · have ih := dFk_n hp k (dR a p 2 k) (by omega)
      omega
    · exact dFk_n hp k a (by omega)
theorem dF_n6 (hp : 0 ≤ p ∧ p < 4) (n6 : cn6 a) : cn6 (dF a p) := fun q u v => by
  have k := n6 q u v
  have kp := n6 p hp.1 hp.2
  rw [dF_o hp kp.2.2 (r := 297) (by omega), dF_o hp kp.2.2 (r := 293) (by omega)]
  refine ⟨k.1, k.2.1, ?_⟩
  by_cases z : q = p
  · rw [z]
    have := dFk_n hp.1 (a 2 301 p).toNat a (by omega)
    unfold dF
    omega
  · rw [dF_o hp kp.2.2 (by omega)]
    exact k.2.2
theorem dFn_n6 : ∀ (k : Nat), (k : Int) ≤ 4 → cn6 a → cn6 (dFn k a)
  | 0, _, n6 => n6
  | k + 1, hk, n6 => dF_n6 (by omega) (dFn_n6 k (by omega) n6)
theorem dFn_o {kk : Nat} {r i : Int} (n6 : cn6 a) (n : ¬ (kk = 2 ∧ ((r = 301 ∧ 0 ≤ i ∧ i < 4) ∨ (302 ≤ r ∧ r ≤ 304)))) : ∀ (k : Nat), (k : Int) ≤ 4 → dFn k a kk r i = a kk r i
  | 0, _ => rfl
  | k + 1, hk => by
    have k6 := dFn_n6 k (by omega) n6
    exact (dF_o (by omega) (k6 k (by omega) (by omega)).2.2 (by omega)).trans (dFn_o n6 n k (by omega))
theorem iC_dFk (hp : 0 ≤ p ∧ p < 4) : ∀ (k : Nat) (a : vH), iC a → a 2 301 p ≤ 6 → (k : Int) ≤ a 2 301 p → iC (dFk p k a)
  | 0, _, c, _, _ => c
  | k + 1, a, c, h6, hk => by
    have e2 := dR2_n (a := a) (p := p) (k := (k : Int))
    unfold dFk
    split
    · exact iC_dFk hp k _ (iC_dR c (by decide) hp (by rw [nL_f]; exact h6) (by omega)) (by omega) (by omega)
    · exact iC_dFk hp k a c h6 (by omega)
theorem iC_dFn (n6 : cn6 a) (c : iC a) : ∀ (k : Nat), (k : Int) ≤ 4 → iC (dFn k a)
  | 0, _ => c
  | k + 1, hk => by
    have k6 := dFn_n6 k (by omega) n6
    have k7 := (k6 k (by omega) (by omega)).2.2
    exact iC_dFk (by omega) _ _ (iC_dFn n6 c k (by omega)) k7.2 (by omega)
end JN2

