/-! play keeps them too; a whole step of the loop for a call -/
section JPL
variable {a b h : vH} {fr to p : Int}
theorem plH_B {A : vH} : ∀ (f : Nat) (k : Int) (b : vH) (n : Int), eqB to b (plH A fr to f k b n).1
  | 0, _, _, _ => eqB_rf
  | f + 1, k, b, n => by
    have e : plH A fr to (f + 1) k b n = if A 2 334 k = fr then plH A fr to f (k + 1) (tMk b to (A 2 335 k)) (n + mvd b to (A 2 335 k)) else plH A fr to f (k + 1) b n := rfl
    rw [e]
    split
    · exact eqB_tr eqB_Mk (plH_B f (k + 1) _ _)
    · exact plH_B f (k + 1) b n
theorem rZ_play : rZ a (tPy a fr to) := by
  unfold tPy plA
  split
  · exact rZ_tr rZ_th (rZ_B (plH_B _ _ _ _))
  · exact rZ_th
theorem iMC_play (i : iM a ∧ iC a) : iM (tPy a fr to) ∧ iC (tPy a fr to) := by
  unfold tPy plA
  split
  · exact iMC_B (plH_B _ _ _ _) (iMC_th i)
  · exact iMC_th i
/-- both halves -/
theorem J_loop {X : Option (vR × vH)} {Y : vH → Option (vR × vH)} {tX : vH → vH} {kX vX : vH → Int} {E : Int → String} (j : J h)
    (C : ∀ a, cAll h a → iG a → iH a → cOut h (tX a) (kX a) (vX a) E X)
    (R : ∀ a, iG a → iH a → mOut (tX a) (kX a) (vX a) (Y a))
    (I : ∀ a, iG a → iH a → iG (tX a) ∧ iH (tX a)) (K : ∀ a, iM a ∧ iC a → iM (tX a) ∧ iC (tX a)) (Z : ∀ a, rZ a (tX a)) :
    ∃ h1 : vH, (∃ r, X = some (r, h1)) ∧ kR h h1 ∧ ct h h1 ∧ ∀ out : vH, (∀ (k : Nat) (r i : Int), ¬ r = 338 → out k r i = h1 k r i) →
      X = some (if kX out = 0 then .inl (some (0, vX out)) else .inr (E (kX out)), h1) ∧ ∃ (h2 : vH) (r : Int), Y out = some (.inl (some (0, r)), h2) ∧ h2 1500 282 0 = kX out ∧ (kX out = 0 → r = vX out) ∧ J h2 := by
  obtain ⟨c, g, i, m, k⟩ := j
  obtain ⟨h1, e1, r1, n1, f⟩ := J_call c g i C
  refine ⟨h1, e1, r1, n1, fun out ho => ?_⟩
  obtain ⟨x, co, go, io⟩ := f out ho
  have e : ∀ (k : Nat) (r i : Int), 282 ≤ r → r ≤ 337 → out k r i = h k r i := fun k r i u v => (ho k r i (by omega)).trans (r1 k r i (by omega))
  have mo : iM out := fun l u v => by
    rw [e _ _ _ (by decide) (by decide)]
    exact m l u (by rw [← e _ _ _ (by decide) (by decide)]; exact v)
  have ko : iC out := fun l u v => by
    rw [e _ _ _ (by decide) (by decide)]
    exact k l u v
  obtain ⟨h2, r, y1, y2, y3, y4⟩ := R out go io
  have ii := I out go io
  have kk := K out ⟨mo, ko⟩
  exact ⟨x, h2, r, y1, y3, y4, J_next co (Z out) y2 ii.1 ii.2 kk.1 kk.2⟩
end JPL
