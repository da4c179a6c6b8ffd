/-! all that holds between two calls, and a whole step -/
def iN (n : Int) (a : vH) : Prop := iA a ∧ iV n a ∧ iVs a
def JN (n : Int) (h : vH) : Prop := cAll h h ∧ iN n h ∧ iD h
def stepN (n : Int) (h : vH) (E : Int → String) (tX : vH → vH) (kX vX : vH → Int) (X : Option (vR × vH)) (Y : vH → Option (vR × vH)) : Prop := ∃ h1 : vH, (∃ r, X = some (r, h1)) ∧ kR0 h h1 ∧ ct h h1 ∧ ∀ out : vH, (∀ (k : Nat) (r i : Int), ¬ r = 338 → out k r i = h1 k r i) →
      X = some (if kX out = 0 then .inl (some (0, vX out)) else .inr (E (kX out)), h1) ∧ ∃ (h2 : vH) (r : Int), Y out = some (.inl (some (0, r)), h2) ∧ h2 1500 282 0 = kX out ∧ (kX out = 0 → r = vX out) ∧ JN (n + 1) h2 ∧ rZ out h2
def stepNV (n : Int) (h : vH) (E : Int → String) (tX : vH → vH) (kX : vH → Int) (X : Option (vR × vH)) (Y : vH → Option (vR × vH)) : Prop := ∃ h1 : vH, (∃ r, X = some (r, h1)) ∧ kR0 h h1 ∧ ct h h1 ∧ ∀ out : vH, (∀ (k : Nat) (r i : Int), ¬ r = 338 → out k r i = h1 k r i) →
      X = some (if kX out = 0 then .inl none else .inr (E (kX out)), h1) ∧ ∃ h2 : vH, Y out = some (.inl none, h2) ∧ h2 1500 282 0 = kX out ∧ JN (n + 1) h2 ∧ rZ out h2
section JNN
variable {h h1 h2 a b out : vH} {p l x v w d m y mv fr to n : Int}
theorem iV_rz (e : ∀ (k : Nat) (r i : Int), 282 ≤ r → r ≤ 337 → b k r i = a k r i) (V : iV n a) : iV n b := fun k u v => by
  rw [e 2 294 _ (by decide) (by decide), e 2 295 _ (by decide) (by decide), e 2 296 _ (by decide) (by decide), e 2 298 _ (by decide) (by decide), e 2 299 _ (by decide) (by decide), e 2 302 _ (by decide) (by decide), e 2 303 _ (by decide) (by decide), e 2 284 _ (by decide) (by decide), e 2 284 _ (by decide) (by decide), e 1504 282 0 (by decide) (by decide)]
  exact V k u v
theorem iN_rz (e : ∀ (k : Nat) (r i : Int), 282 ≤ r → r ≤ 337 → b k r i = a k r i) (x : iN n a) : iN n b := ⟨iA_rz e x.1, iV_rz e x.2.1, iVs_of (fun i => e 2 _ i (by decide) (by decide)) x.2.2⟩
theorem iN_m2 (f : mF sA2 sT2 b h2) (x : iN n b) : iN n h2 := ⟨⟨iG_m2 f x.1.1, iH_m2 f x.1.2.1, iM_m2 f x.1.2.2.1, iC_m2 f x.1.2.2.2⟩, fun k u v => by
  rw [m2_r f (r := 294) (by decide), m2_r f (r := 295) (by decide), m2_r f (r := 296) (by decide), m2_r f (r := 298) (by decide), m2_r f (r := 299) (by decide), m2_r f (r := 302) (by decide), m2_r f (r := 303) (by decide), m2_r f (r := 284) (by decide), m2_r f (r := 284) (by decide), f 1504 282 0 (by decide) (by decide)]
  exact x.2.1 k u v, iVs_of (fun i => m2_r f (by decide)) x.2.2⟩
/-- the class's lists lie outside of the reference -/
theorem iD_out (e : ∀ (k : Nat) (r i : Int), ¬ (282 ≤ r ∧ r ≤ 338) → h2 k r i = h1 k r i) (I : iD h1) : iD h2 := by
  obtain ⟨⟨i1, i2⟩, i3⟩ := I
  refine ⟨⟨(e _ _ _ (by decide)).trans i1, (e _ _ _ (by decide)).trans i2⟩, fun p t u v s w => ?_⟩
  have ed : dL h2 p t = dL h1 p t := e _ _ _ (by omega)
  rw [ed]
  refine (i3 p t u v s w).imp (fun z => z) (fun z => ⟨z.1, ?_, ?_⟩)
  · rw [e _ _ _ (by omega)]; exact z.2.1
  · rw [e _ _ _ (by omega)]; exact z.2.2
theorem sA2_in : ∀ r : Int, r ∈ sA2 → 282 ≤ r ∧ r ≤ 337 := by decide
theorem mF_out (z : rZ out b) (f : mF sA2 sT2 b h2) : ∀ (k : Nat) (r i : Int), ¬ (282 ≤ r ∧ r ≤ 337) → h2 k r i = out k r i := fun k r i n => (f k r i (fun w => n (sA2_in r w.2)) (fun w => n (by omega))).trans (z k r i n)
theorem J_loopN {X : Option (vR × vH)} {Y : vH → Option (vR × vH)} {tX : vH → vH} {kX vX : vH → Int} {E : Int → String} (j : JN n h)
    (C : ∀ a, cAll h a → iN n a → cOutN h (tX a) (kX a) (vX a) E X)
    (R : ∀ a, iN n a → mOut (tX a) (kX a) (vX a) (Y a))
    (I : ∀ a, iN n a → iN (n + 1) (tX a)) (Z : ∀ a, iN n a → rZ a (tX a)) : stepN n h E tX kX vX X Y := by
  obtain ⟨c, x, D⟩ := j
  obtain ⟨h1, e1, c1, r1, D1, n1⟩ := C h c x
  refine ⟨h1, ⟨_, e1⟩, r1, n1, fun out ho => ?_⟩
  have e : ∀ (k : Nat) (r i : Int), 282 ≤ r → r ≤ 337 → out k r i = h k r i := fun k r i u v => (ho k r i (by omega)).trans (r1 k r i (by omega))
  have xo := iN_rz e x
  have co := cAll_rz e (fun q u v => (x.1.1.1.2.2.2 q u v).1) c
  obtain ⟨h1', e2, c2, r2, D2, n2⟩ := C out co xo
  have eh : h1' = h1 := by
    rw [e1] at e2
    exact (Prod.mk.inj (Option.some.inj e2)).2.symm
  subst eh
  obtain ⟨h2, r, y1, y2, y3, y4⟩ := R out xo
  exact ⟨e2, h2, r, y1, y3, y4, ⟨J_step (cAll_kC (fun k r i n m => ho k r i (by omega)) c2) (Z out xo) y2, iN_m2 y2 (I out xo), iD_out (fun k r i n => (mF_out (Z out xo) y2 k r i (by omega)).trans (ho k r i (by omega))) D1⟩, fun k r i u => mF_out (Z out xo) y2 k r i u⟩
theorem J_loopO {X : Option (vR × vH)} {Y : vH → Option (vR × vH)} {tX : vH → vH} {kX vX : vH → Int} {E : Int → String} (j : JN n h)
    (V : ∀ a, iV n a → iV n (tX a)) (W : ∀ a, iVs a → iVs (tX a))
    (C : ∀ a, cAll h a → iA a → cOut h (tX a) (kX a) (vX a) E X)
    (R : ∀ a, iA a → mOut (tX a) (kX a) (vX a) (Y a))
    (I : ∀ a, iA a → iA (tX a)) (Z : ∀ a, rZ a (tX a)) : stepN n h E tX kX vX X Y := J_loopN j (fun a c x => cN_of j.2.2 (C a c x.1)) (fun a x => R a x.1) (fun a x => ⟨I a x.1, iV_up (V a x.2.1) (by omega), W a x.2.2⟩) (fun a _ => Z a)
theorem J_loopNV {X : Option (vR × vH)} {Y : vH → Option (vR × vH)} {tX : vH → vH} {kX : vH → Int} {E : Int → String} (j : JN n h)
    (V : ∀ a, iV n a → iV n (tX a)) (W : ∀ a, iVs a → iVs (tX a))
    (C : ∀ a, cAll h a → iA a → cOutV h (tX a) (kX a) E X)
    (R : ∀ a, iA a → mOutV (tX a) (kX a) (Y a))
    (I : ∀ a, iA a → iA (tX a)) (Z : ∀ a, rZ a (tX a)) : stepNV n h E tX kX X Y := by
  obtain ⟨c, x, D⟩ := j
  obtain ⟨h1, e1, c1, r1, n1⟩ := C h c x.1
  refine ⟨h1, ⟨_, e1⟩, fun k r i u => r1 k r i (by omega), n1, fun out ho => ?_⟩
  have e : ∀ (k : Nat) (r i : Int), 282 ≤ r → r ≤ 337 → out k r i = h k r i := fun k r i u v => (ho k r i (by omega)).trans (r1 k r i (by omega))
  have xo := iN_rz e x
  have co := cAll_rz e (fun q u v => (x.1.1.1.2.2.2 q u v).1) c
  obtain ⟨h1', e2, c2, r2, n2⟩ := C out co xo.1
  have eh : h1' = h1 := by
    rw [e1] at e2
    exact (Prod.mk.inj (Option.some.inj e2)).2.symm
  subst eh
  obtain ⟨h2, y1, y2, y3⟩ := R out xo.1
  have D1 : iD h1' := iD_kR r1 D
  exact ⟨e2, h2, y1, y3, ⟨J_step (cAll_kC (fun k r i n m => ho k r i (by omega)) c2) (Z out) y2, iN_m2 y2 ⟨I out xo.1, iV_up (V out xo.2.1) (by omega), W out xo.2.2⟩, iD_out (fun k r i n => (mF_out (Z out) y2 k r i (by omega)).trans (ho k r i (by omega))) D1⟩, fun k r i u => mF_out (Z out) y2 k r i u⟩
/-- the slots of the layers are left by the calls that leave them -/
theorem iV_of (e : ∀ r i : Int, r = 284 ∨ (294 ≤ r ∧ r ≤ 303) → b 2 r i = a 2 r i) (el : b 1504 282 0 = a 1504 282 0) (V : iV n a) : iV n b := fun k u v => by
  rw [e 294 _ (by decide), e 295 _ (by decide), e 296 _ (by decide), e 298 _ (by decide), e 299 _ (by decide), e 302 _ (by decide), e 303 _ (by decide), e 284 _ (by decide), e 284 _ (by decide), el]
  exact V k u v
theorem iV_L (z : eqL a b) (V : iV n a) : iV n b := iV_of (fun r i hr => z 2 r i (by omega) (by omega)) (z _ _ _ (by omega) (by omega)) V
theorem iV_open (V : iV n a) : iV n (tOp a p) := by
  unfold tOp
  split
  · exact iV_L (a := th 0 a) eqL_st V
  · exact V
theorem iV_close (V : iV n a) : iV n (tCs a p) := by
  unfold tCs
  split
  · exact iV_L (a := th 0 a) eqL_st V
  · exact V
theorem iV_share (V : iV n a) : iV n (tSh a p w l m) := by
  unfold tSh
  split
  · exact iV_L (a := th 0 a) eqL_st V
  · exact V
theorem iV_scroll (V : iV n a) : iV n (tScr a p y) := by
  unfold tScr
  split
  · exact iV_B (a := th 0 a) eqB_Sc V
  · exact V
theorem iV_move (V : iV n a) : iV n (tMv a p mv) := by
  unfold tMv
  split
  · exact iV_B eqB_Mk (iV_L (a := th 0 a) eqL_lg V)
  · exact V
theorem iV_put (V : iV n a) : iV n (tPu a p l x) := by
  unfold tPu
  split
  · exact iV_B eqB_lk (iV_B (a := th 0 a) eqB_P1 V)
  · exact V
theorem iV_play (V : iV n a) : iV n (tPy a fr to) := by
  unfold tPy plA
  split
  · exact iV_B (a := th 0 a) (plH_B _ _ _ _) V
  · exact V
theorem iV_setMark (V : iV n a) : iV n (tSm a l v) := by
  unfold tSm
  split
  · exact V
  · exact V
theorem iV_shape (V : iV n a) : iV n (tSp a p w d m) := by
  unfold tSp
  split
  · exact V
  · exact V
theorem iV_setClosed (V : iV n a) : iV n (tSl a p x v) := by
  unfold tSl
  split
  · exact V
  · exact V
end JNN
