/-! a whole step with all invariants; void calls -/
def iA (a : vH) : Prop := iG a ∧ iH a ∧ iM a ∧ iC a
section JL2
variable {h a b out : vH}
theorem iA_rz (e : ∀ (k : Nat) (r i : Int), 282 ≤ r → r ≤ 337 → b k r i = a k r i) (x : iA a) : iA b := ⟨iG_rz e x.1, iH_rz e x.2.1, fun l u v => by
  rw [e _ _ _ (by decide) (by decide)]
  exact x.2.2.1 l u (by rw [← e _ _ _ (by decide) (by decide)]; exact v), fun l u v => by
  rw [e _ _ _ (by decide) (by decide)]
  exact x.2.2.2 l u v⟩
theorem J_loopA {X : Option (vR × vH)} {Y : vH → Option (vR × vH)} {tX : vH → vH} {kX vX : vH → Int} {E : Int → String} (j : J h)
    (C : ∀ a, cAll h a → iA a → cOut h (tX a) (kX a) (vX a) E X)
    (R : ∀ a, iA a → mOut (tX a) (kX a) (vX a) (Y a))
    (I : ∀ a, iA a → iA (tX a)) (Z : ∀ a, rZ a (tX a)) :
    ∃ h1 : vH, (∃ r, X = some (r, h1)) ∧ kR h h1 ∧ ct h h1 ∧ ∀ out : vH, (∀ (k : Nat) (r i : Int), ¬ r = 338 → out k r i = h1 k r i) →
      X = some (if kX out = 0 then .inl (some (0, vX out)) else .inr (E (kX out)), h1) ∧ ∃ (h2 : vH) (r : Int), Y out = some (.inl (some (0, r)), h2) ∧ h2 1500 282 0 = kX out ∧ (kX out = 0 → r = vX out) ∧ J h2 := by
  obtain ⟨c, x⟩ := j
  obtain ⟨h1, e1, c1, r1, n1⟩ := C h c x
  refine ⟨h1, ⟨_, e1⟩, r1, n1, fun out ho => ?_⟩
  have e : ∀ (k : Nat) (r i : Int), 282 ≤ r → r ≤ 337 → out k r i = h k r i := fun k r i u v => (ho k r i (by omega)).trans (r1 k r i (by omega))
  have xo := iA_rz e x
  have co := cAll_rz e (fun q u v => (x.1.1.2.2.2 q u v).1) c
  obtain ⟨h1', e2, c2, r2, n2⟩ := C out co xo
  have eh : h1' = h1 := by
    rw [e1] at e2
    exact (Prod.mk.inj (Option.some.inj e2)).2.symm
  subst eh
  obtain ⟨h2, r, y1, y2, y3, y4⟩ := R out xo
  obtain ⟨i1, i2, i3, i4⟩ := I out xo
  exact ⟨e2, h2, r, y1, y3, y4, J_next (cAll_kC (fun k r i n m => ho k r i (by omega)) c2) (Z out) y2 i1 i2 i3 i4⟩
theorem J_loopV {X : Option (vR × vH)} {Y : vH → Option (vR × vH)} {tX : vH → vH} {kX : vH → Int} {E : Int → String} (j : J h)
    (C : ∀ a, cAll h a → iA a → cOutV h (tX a) (kX a) E X)
    (R : ∀ a, iA a → mOutV (tX a) (kX a) (Y a))
    (I : ∀ a, iA a → iA (tX a)) (Z : ∀ a, rZ a (tX a)) :
    ∃ h1 : vH, (∃ r, X = some (r, h1)) ∧ kR h h1 ∧ ct h h1 ∧ ∀ out : vH, (∀ (k : Nat) (r i : Int), ¬ r = 338 → out k r i = h1 k r i) →
      X = some (if kX out = 0 then .inl none else .inr (E (kX out)), h1) ∧ ∃ h2 : vH, Y out = some (.inl none, h2) ∧ h2 1500 282 0 = kX out ∧ J h2 := by
  obtain ⟨c, x⟩ := j
  obtain ⟨h1, e1, c1, r1, n1⟩ := C h c x
  refine ⟨h1, ⟨_, e1⟩, r1, n1, fun out ho => ?_⟩
  have e : ∀ (k : Nat) (r i : Int), 282 ≤ r → r ≤ 337 → out k r i = h k r i := fun k r i u v => (ho k r i (by omega)).trans (r1 k r i (by omega))
  have xo := iA_rz e x
  have co := cAll_rz e (fun q u v => (x.1.1.2.2.2 q u v).1) c
  obtain ⟨h1', e2, c2, r2, n2⟩ := C out co xo
  have eh : h1' = h1 := by
    rw [e1] at e2
    exact (Prod.mk.inj (Option.some.inj e2)).2.symm
  subst eh
  obtain ⟨h2, y1, y2, y3⟩ := R out xo
  obtain ⟨i1, i2, i3, i4⟩ := I out xo
  exact ⟨e2, h2, y1, y3, J_next (cAll_kC (fun k r i n m => ho k r i (by omega)) c2) (Z out) y2 i1 i2 i3 i4⟩
end JL2
