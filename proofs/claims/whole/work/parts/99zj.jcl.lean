/-! a call of the class, whatever the law keeps of it -/
section JCL
variable {h a b : vH}
theorem lnE_rz (e : ∀ (k : Nat) (r i : Int), 282 ≤ r → r ≤ 337 → b k r i = a k r i) {p l : Int} (o : mOKp a p) : lnE a b p l := by
  refine lnE_of o (e _ _ _ (by decide) (by decide)) (e _ _ _ (by decide) (by decide)) (e _ _ _ (by decide) (by decide)) (fun r i u _ _ => ?_) (e _ _ _ (by decide) (by decide)) (e _ _ _ (by decide) (by decide)) (e _ _ _ (by decide) (by decide)) (fun i _ _ => e _ _ _ (by decide) (by decide))
  unfold lyr at u
  exact e _ _ _ (by omega) (by omega)
theorem cAll_rz (e : ∀ (k : Nat) (r i : Int), 282 ≤ r → r ≤ 337 → b k r i = a k r i) (o : ∀ q, 0 ≤ q → q < 4 → mOKp a q) (c : cAll h a) : cAll h b := by
  obtain ⟨c1, c2, c3, c4, c5, c6⟩ := c
  have el : b 1504 282 0 = a 1504 282 0 := e _ _ _ (by decide) (by decide)
  refine ⟨c1, ?_, fun p u v => ?_, ?_, ?_, ?_⟩
  · unfold cTx cLn at c2 ⊢
    simp (disch := decide) only [e]
    exact c2
  · obtain ⟨d1, ⟨d2, d3, d4⟩, d5⟩ := c3 p u v
    refine ⟨d1, ⟨?_, cCnt_loc el (fun _ _ _ => lnE_rz e (o p u v)) d3, cLd_loc el (fun _ _ _ => lnE_rz e (o p u v)) d4⟩, ?_⟩
    · unfold cFix cLay at d2 ⊢
      simp (disch := decide) only [e]
      exact d2
    · unfold cPic at d5 ⊢
      simp (disch := decide) only [e]
      exact d5
  · unfold cStk at c4 ⊢
    simp (disch := decide) only [e]
    exact c4
  · unfold cLog at c5 ⊢
    simp (disch := decide) only [e]
    exact c5
  · unfold cUq nL at c6 ⊢
    simp (disch := decide) only [e]
    exact c6
theorem J_call {X : Option (vR × vH)} {tX : vH → vH} {kX vX : vH → Int} {E : Int → String} (c : cAll h h) (g : iG h) (i : iH h) (C : ∀ a, cAll h a → iG a → iH a → cOut h (tX a) (kX a) (vX a) E X) : ∃ h1 : vH, (∃ r, X = some (r, h1)) ∧ kR h h1 ∧ ct h h1 ∧ ∀ out : vH, (∀ (k : Nat) (r i : Int), ¬ r = 338 → out k r i = h1 k r i) → X = some (if kX out = 0 then .inl (some (0, vX out)) else .inr (E (kX out)), h1) ∧ cAll out (tX out) ∧ iG out ∧ iH out := by
  obtain ⟨h1, e1, c1, r1, n1⟩ := C h c g i
  refine ⟨h1, ⟨_, e1⟩, r1, n1, fun out ho => ?_⟩
  have e : ∀ (k : Nat) (r i : Int), 282 ≤ r → r ≤ 337 → out k r i = h k r i := fun k r i u v => (ho k r i (by omega)).trans (r1 k r i (by omega))
  have go := iG_rz e g
  have io := iH_rz e i
  have co := cAll_rz e (fun q u v => (g.1.2.2.2 q u v).1) c
  obtain ⟨h1', e2, c2, r2, n2⟩ := C out co go io
  have eh : h1' = h1 := by
    rw [e1] at e2
    exact (Prod.mk.inj (Option.some.inj e2)).2.symm
  subst eh
  exact ⟨e2, cAll_kC (fun k r i n m => ho k r i (by omega)) c2, go, io⟩
end JCL
