/-! a pane of the class that has counted its rows: what it tells -/
def cRd (h a : vH) (p P : Int) : Prop := cTx h a ∧ cFix h a p P ∧ cCnt h a p P ∧ cLd h a p P ∧ h 714 P 0 = 1
section CRD
variable {h a : vH} {p P l x : Int}
theorem cRd_qM {h2 : vH} (hP : 138 ≤ P) (x : qM P h h2) (c : cRd h a p P) (hL : cLd h2 a p P) : cRd h2 a p P := by
  obtain ⟨c1, c2, ⟨c3, c4⟩, -, c5⟩ := c
  have x' := qM_F x
  refine ⟨cTx_qF x' hP c1, cFix_qF x' c2.1 c2, ⟨fun l u v => ?_, ?_⟩, hL, (x _ _ _ (by omega)).trans c5⟩
  · rw [x 2 (P + 26) _ (by omega)]; exact c3 l u v
  · rw [x 714 P _ (by omega), x 713 P _ (by omega)]
    refine c4.imp (fun z => z) (fun z => ⟨z.1, fun j hj => ?_, z.2.2⟩)
    rw [x 2 (P + 26) _ (by omega), x 2 (P + 27) _ (by omega)]
    exact z.2.1 j hj
theorem cRd_n (c : cRd h a p P) : h 713 P 0 = mAll a p ∧ ∀ l : Nat, (l : Int) < a 1504 282 0 → h 2 (P + 26) l = mRC a p l ∧ h 2 (P + 27) l = mRA a p l := by
  have := c.2.2.1.2.resolve_left (by rw [c.2.2.2.2]; decide)
  exact ⟨this.2.2, this.2.1⟩
theorem cRd_f (g : mG a) (c : cRd h a p P) {l : Nat} (hl : (l : Int) < a 1504 282 0) : fX5_rowCount h P l = mRC a p l ∧ fX5_firstRow h P l = mRA a p l := by
  have gl := g.2.1
  have n := (cRd_n c).2 l hl
  unfold fX5_rowCount fX5_firstRow
  rw [if_neg (by omega), if_neg (by omega), if_neg (by omega), if_neg (by omega)]
  exact n
theorem cRd_F (g : mG a) (c : cRd h a p P) (hl : 0 ≤ l ∧ l < a 1504 282 0) : fX5_rowCount h P l = mRC a p l ∧ fX5_firstRow h P l = mRA a p l.toNat := by
  have := cRd_f g c (l := l.toNat) (by omega)
  rw [show ((l.toNat : Nat) : Int) = l by omega] at this
  exact this
theorem C_lineOfRow (g : mG a) (hp : 0 ≤ p ∧ p < 4) (c : cRd h a p P) {r : Int} (hr : isRw a p r) : vcl mX5_lineOfRow [(1, P), (0, r)] h = some (.inl (some (0, (mLn a p r : Int))), h) := by
  have gl := g.2.1
  have cn := c.1.2.1.1
  have loop : ∀ (f l : Nat), l + f = (a 1504 282 0).toNat → mRA a p l ≤ r → vrun mX5_lineOfRow 2 [(1, P), (0, r), (0, (l : Int))] [] h = some (.inl (some (0, (mLn a p r : Int))), h) := by
    intro f
    induction f with
    | zero =>
      intro l hl hr2
      have := hr.2
      rw [← hl, Nat.add_zero] at this
      omega
    | succ f ih =>
      intro l hl hr2
      obtain ⟨e1, e2⟩ := cRd_f g c (l := l) (by omega)
      have b1 := mRC_in g hp (l := l) ⟨by omega, by omega⟩
      have b2 := mRA_in g hp l (by omega)
      refine (rX5_lineOfRow_2 c.2.1.1 c.1.1 (by omega) (by omega) (by omega) (by omega)).trans ?_
      rw [if_neg (by omega), e1, e2]
      by_cases z : mRA a p l + mRC a p l ≤ r
      · rw [if_pos z]
        exact ih (l + 1) (by omega) z
      · rw [if_neg z, (mLn_un g hp (l := l) (by omega) hr2 (by omega)).2]
  exact rX5_lineOfRow_0.trans (loop (a 1504 282 0).toNat 0 (by omega) hr.1)
theorem cRd_Q (g : iG a) (hp : 0 ≤ p ∧ p < 4) (c : cRd h a p P) (hl : h 715 P 0 = l) (h0 : 0 ≤ l) : ∃ R : Nat, cQ h (P + 5) (mCL a p l) (a 2 286 p) (a 2 287 p) R ∧ h 512 (P + 5) 0 = a 2 284 l ∧ (h 716 P 0 = 1 → cQt h (P + 5) (mCL a p l) (a 2 286 p) (a 2 287 p)) ∧ (¬ mInv a p l → mRC a p l = (R : Int)) := by
  obtain ⟨c1, c2, c3, c4, c5⟩ := c
  obtain ⟨l0, l1, l2, l3⟩ := c4.resolve_left (by omega)
  rw [hl] at l1 l3
  obtain ⟨d1, d2, R, d3, d4⟩ := l3
  have gl := g.1.2.1
  have gp := g.1.2.2.2 p hp.1 hp.2
  have n131 := mN_131 g.1 hp (l := l) ⟨h0, by omega⟩
  have q : cQ h (P + 5) (mCL a p l) (a 2 286 p) (a 2 287 p) R := ⟨c2.1.2.2.2.2.2.1, d1, d3, gp.2.2, gp.2.1, n131, mCL_B (g.1.2.2.1 l h0 (by omega))⟩
  refine ⟨R, q, d2, fun z => cQt_of q (d4 z).2, fun z => ?_⟩
  unfold mRC
  rw [if_neg z]
  exact congrArg (fun n : Nat => (n : Int)) (rC_eq d3.1)
theorem tkE_ok {L : List Clu} {x s : Int} : tkE L x s = -1 ∨ (0 ≤ tkE L x s ∧ tkE L x s / 2 < L.length) := by
  have t := (tkC_in (L := L) (x := x) (sd := s)).1
  by_cases z : tkC L x s = -1
  · left; unfold tkE; rw [if_pos z]
  · obtain ⟨e1, e2, e3, e4, e5⟩ := tkE_h z
    right; omega
theorem C_rowDown (g : iG a) (hp : 0 ≤ p ∧ p < 4) (hP : 138 ≤ P) (c : cRd h a p P) (hl : 0 ≤ l ∧ l < a 1504 282 0) {s : Int} (hs : s = 0 ∨ s = 1) : ∃ h2, vcl mX5_rowDown [(1, P), (0, l), (0, x), (0, s)] h = some (.inl (some (0, dnR a p l x s)), h2) ∧ qM P h h2 ∧ cRd h2 a p P ∧ h2 715 P 0 = l := by
  obtain ⟨h1, m1, m2, m3, m4⟩ := C_measured g hp c.1 c.2.1 c.2.2.2.1 hl
  have c1 := cRd_qM hP m2 c m3
  obtain ⟨R, q, ql, -, -⟩ := cRd_Q g hp c1 m4 hl.1
  obtain ⟨f1, f2⟩ := cRd_F g.1 c1 hl
  have gl := g.1.2.1
  have ed := C_edgeAt q.1 q.2.1 q.2.2.2.2.2.1 q.2.2.2.2.2.2 (x := x) hs
  have re := C_rowOfEdge q (e := tkE (mCL a p l) x s) tkE_ok
  have er : (if tkE (mCL a p l) x s = -1 then 0 else (rowO (sg (mCL a p l)) (mCL a p l).length (a 2 286 p) (a 2 287 p) (tkE (mCL a p l) x s / 2) : Int)) = dRow (mCL a p l) (a 2 286 p) (a 2 287 p) x s := by
    unfold dRow
    by_cases z : tkC (mCL a p l) x s = -1
    · rw [if_pos z, if_pos (by unfold tkE; rw [if_pos z])]
    · obtain ⟨e1, e2, e3, e4, e5⟩ := tkE_h z
      rw [if_neg z, if_neg e2, e1]
  rw [er] at re
  have t := (tkC_in (L := mCL a p l) (x := x) (sd := s)).1
  have b : 0 ≤ dRow (mCL a p l) (a 2 286 p) (a 2 287 p) x s ∧ dRow (mCL a p l) (a 2 286 p) (a 2 287 p) x s < 132 := by
    have r131 := q.2.2.1.2.1
    unfold dRow
    by_cases z : tkC (mCL a p l) x s = -1
    · rw [if_pos z]; omega
    · rw [if_neg z]
      have ci := t.resolve_left z
      have := (rowO_in q.2.2.2.1 q.2.2.2.2.1.1 q.2.2.1.1 q.2.2.1.2.1 ci.1 ci.2).1
      omega
  have ma := mRA_in g.1 hp l.toNat (by omega)
  refine ⟨h1, ?_, m2, c1, m4⟩
  refine (rX5_rowDown_0 c.2.1.1).trans ((vret_v m1).trans ((rX5_rowDown_5 c1.2.1.1 q.1).trans ((vret_v ed).trans ((rX5_rowDown_21 q.1).trans ((vret_v re).trans ?_)))))
  rw [f2]
  exact rX5_rowDown_24 (by omega) (by omega)
theorem C_laidT (g : iG a) (hp : 0 ≤ p ∧ p < 4) (hP : 138 ≤ P) (c : cRd h a p P) (hl : h 715 P 0 = l) (h0 : 0 ≤ l) : ∃ h2, vcl mX5_turned [(1, P)] h = some (.inl (some (1, P + 5)), h2) ∧ qM P h h2 ∧ cRd h2 a p P ∧ h2 715 P 0 = l ∧ h2 716 P 0 = 1 := by
  obtain ⟨h1, m1, m2, m3, m4, m5⟩ := C_turned g hp c.1 c.2.1 c.2.2.2.1 (by omega)
  exact ⟨h1, m1, m2, cRd_qM hP m2 c m3, m4.trans hl, m5⟩
theorem C_columnDown (g : iG a) (hp : 0 ≤ p ∧ p < 4) (hP : 138 ≤ P) (c : cRd h a p P) (hl : 0 ≤ l ∧ l < a 1504 282 0) {s : Int} (hs : s = 0 ∨ s = 1) : ∃ h2, vcl mX5_columnDown [(1, P), (0, l), (0, x), (0, s)] h = some (.inl (some (0, dnC a p l x s)), h2) ∧ qM P h h2 ∧ cRd h2 a p P := by
  obtain ⟨h1, m1, m2, m3, m4⟩ := C_measured g hp c.1 c.2.1 c.2.2.2.1 hl
  have c1 := cRd_qM hP m2 c m3
  obtain ⟨h2, t1, t2, c2, t4, t5⟩ := C_laidT g hp hP c1 m4 hl.1
  obtain ⟨R, q, ql, qt, -⟩ := cRd_Q g hp c2 t4 hl.1
  have qt := qt t5
  have ed := C_edgeAt q.1 q.2.1 q.2.2.2.2.2.1 q.2.2.2.2.2.2 (x := x) hs
  refine ⟨h2, ?_, qM_tr m2 t2, c2⟩
  refine (rX5_columnDown_0 c.2.1.1).trans ((vret_v m1).trans ((rX5_columnDown_5 c1.2.1.1).trans ((vret_v t1).trans ((rX5_columnDown_10 q.1).trans ((vret_v ed).trans ?_)))))
  by_cases z : tkC (mCL a p l) x s = -1
  · have e : tkE (mCL a p l) x s = -1 := by unfold tkE; rw [if_pos z]
    rw [e]
    refine (rg_virtual (pc := 21) (dd bX5_columnDown dX5_columnDown_21) rfl rfl (by decide) (kc := 24) rfl q.1.1 (as := [(1, P + 5), (0, -1)]) rfl ⟨Nat.le_of_ble_eq_true rfl, Nat.le_of_ble_eq_true rfl, Nat.le_of_ble_eq_true rfl, Nat.le_of_ble_eq_true rfl⟩).trans ?_
    refine (vret_v (show vcl mX3_columnOfEdge [(1, P + 5), (0, -1)] h2 = some (.inl (some (0, 0)), h2) from rX3_columnOfEdge_m)).trans ?_
    have e2 : dnC a p l x s = 0 := if_pos z
    rw [e2]
    exact rn_ireturn (pc := 24) (dd bX5_columnDown dX5_columnDown_24) (Or.inl rfl)
  · obtain ⟨e1, e2, e3, e4, e5⟩ := tkE_h z
    have ci := (tkC_in (L := mCL a p l) (x := x) (sd := s)).1.resolve_left z
    have n131 := q.2.2.2.2.2.1
    obtain ⟨w1, w2, w3⟩ := qt _ ci.1 ci.2
    have w4 := cQ_w q ci.1 ci.2
    have b1 := lV_in (s := sg (mCL a p l)) q.2.2.2.1 q.2.2.2.2.1.1 n131 ci.1 ci.2
    have b2 := lC_in q.2.2.2.1 q.2.2.2.2.1.1 q.2.2.1.1 q.2.2.1.2.1 n131 ci.1 ci.2
    have u1 : h2 2 (P + 5 + 7) (tkE (mCL a p l) x s / 2) = _ := (congrArg (h2 2 (P + 5 + 7)) e1).trans w1
    have u3 : h2 2 (P + 5 + 6) (tkE (mCL a p l) x s / 2) = _ := (congrArg (h2 2 (P + 5 + 6)) e1).trans w3
    have u4 : h2 2 (P + 5 + 5) (tkE (mCL a p l) x s / 2) = _ := (congrArg (h2 2 (P + 5 + 5)) e1).trans w4
    have ce := C_colE q qt (x := x) (sd := s) z
    refine (rX5_columnDown_21 q.1 e3 (by omega) (by omega) (by omega) (by omega) (by omega) (by omega) (by omega)).trans ?_
    rw [ce]
    rfl
theorem C_placeUp (g : iG a) (hp : 0 ≤ p ∧ p < 4) (hP : 138 ≤ P) (c : cRd h a p P) {r : Int} (hr : isRw a p r) : ∃ h2, vcl mX5_placeUp [(1, P), (0, r), (0, x)] h = some (.inl (some (0, upR a p r x)), h2) ∧ qM P h h2 ∧ cRd h2 a p P := by
  obtain ⟨l1, j1, j2, v, r7⟩ := rw_in g.1 hp hr
  have lr := C_lineOfRow g.1 hp c hr
  obtain ⟨h1, m1, m2, m3, m4⟩ := C_measured g hp c.1 c.2.1 c.2.2.2.1 (l := mLn a p r) ⟨l1.1, l1.2.1⟩
  have c1 := cRd_qM hP m2 c m3
  obtain ⟨h2, t1, t2, c2, t4, t5⟩ := C_laidT g hp hP c1 m4 l1.1
  obtain ⟨R, q, ql, qt, qr⟩ := cRd_Q g hp c2 t4 l1.1
  have qr := qr v
  obtain ⟨f1, f2⟩ := cRd_f g.1 c2 (l := mLn a p r) l1.2.1
  have up := C_placeUpL q (qt t5) (j := rwJ a p r) (by omega) (x := x) ql
  have hr0 := hr.1
  have ma := mRA_in g.1 hp (mLn a p r) (by omega)
  refine ⟨h2, ?_, qM_tr m2 t2, c2⟩
  refine (rX5_placeUp_0 c.2.1.1).trans ((vret_v lr).trans ((rX5_placeUp_5 c.2.1.1).trans ((vret_v m1).trans ((rX5_placeUp_11 c1.2.1.1).trans ((vret_v t1).trans ((rX5_placeUp_16 c2.2.1.1 (by omega) (by omega) q.1).trans ?_))))))
  rw [f2, ← j1]
  exact (vret_v up).trans rX5_placeUp_26
theorem C_takenLine (g : iG a) (hp : 0 ≤ p ∧ p < 4) (c : cRd h a p P) {s : Int} (sp : shPlace h s) {st : Int} (pl : cPl h s st l x) (hl : 0 ≤ l ∧ l < a 1504 282 0) : vcl mX5_takenLine [(1, P), (1, s)] h = some (.inl (some (0, vsL a p l)), h) := by
  have gl := g.1.2.1
  have o := (g.1.2.2.2 p hp.1 hp.2).1
  have loop : ∀ (k : Nat), k ≤ 100 → vrun mX5_takenLine 5 [(1, P), (1, s), (0, (k : Int))] [] h = some (.inl (some (0, (mVs a p k : Int))), h) := by
    intro k
    induction k with
    | zero =>
      intro _
      refine (rX5_takenLine_5 c.2.1.1).trans ?_
      rw [if_pos (by omega)]
      rfl
    | succ k ih =>
      intro hk
      have e : mVs a p (k + 1) = @ite _ (mInv a p ((k + 1 : Nat) : Int)) (Classical.propDecidable _) (mVs a p k) (k + 1) := rfl
      have iv := C_isVisible (l := ((k + 1 : Nat) : Int)) c.2.1.2.1 ⟨o.2.2.2.2.1, o.2.2.2.2.2.1⟩
      refine (rX5_takenLine_5 c.2.1.1).trans ?_
      rw [if_neg (by omega)]
      refine (vret_v iv).trans ((rX5_takenLine_17 (by omega) (by omega)).trans ?_)
      rw [e]
      by_cases z : mInv a p ((k + 1 : Nat) : Int)
      · rw [if_pos (b2i_f (fun y => y z)), if_pos z, show ((k + 1 : Nat) : Int) + -1 = (k : Int) by omega]
        exact ih (by omega)
      · rw [if_neg (by rw [b2i_t z]; decide), if_neg z]
  have := loop l.toNat (by omega)
  rw [show ((l.toNat : Nat) : Int) = l by omega] at this
  refine (rX5_takenLine_0 sp).trans ?_
  rw [pl.2.1]
  exact this
theorem C_takenAt (g : iG a) (hp : 0 ≤ p ∧ p < 4) (c : cRd h a p P) {s : Int} (sp : shPlace h s) {st : Int} (pl : cPl h s st l x) (hl : 0 ≤ l ∧ l < a 1504 282 0) : vcl mX5_takenAt [(1, P), (1, s)] h = some (.inl (some (0, vsX a p l x)), h) := by
  have gl := g.1.2.1
  have m := mVs_in (mInv0 g hp) l.toNat
  rw [show ((l.toNat : Nat) : Int) = l by omega] at m
  have e0 : vsL a p l = (mVs a p l.toNat : Int) := rfl
  refine (rX5_takenAt_0 c.2.1.1).trans ((vret_v (C_takenLine g hp c sp pl hl)).trans ((rX5_takenAt_5 sp).trans ?_))
  rw [pl.2.1, pl.2.2]
  unfold vsX
  by_cases z : mInv a p l
  · rw [if_pos z, if_neg (fun y => m.2.1 (by rw [← e0, y]; exact z))]
  · have := m.2.2 z
    rw [if_neg z, if_pos (by omega)]
theorem cRd_cu (c : cRd h a p P) : shPlace h (P + 23) ∧ cPl h (P + 23) 0 (a 2 305 p) (a 2 306 p) := ⟨c.2.1.1.2.2.2.2.2.2.2.2.2.1, c.2.1.2.2.1⟩
theorem cRd_to (c : cRd h a p P) : shPlace h (P + 24) ∧ cPl h (P + 24) 0 (a 2 308 p) (a 2 309 p) := ⟨c.2.1.1.2.2.2.2.2.2.2.2.2.2.2.1, c.2.1.2.2.2.1⟩
theorem C_cuL (g : iG a) (hp : 0 ≤ p ∧ p < 4) (c : cRd h a p P) : vcl mX5_takenLine [(1, P), (1, P + 23)] h = some (.inl (some (0, cuL a p)), h) := by
  have q := (g.2 p hp.1 hp.2).2.2.2.1
  exact C_takenLine g hp c (cRd_cu c).1 (cRd_cu c).2 ⟨q.1, q.2.1⟩
theorem C_cuX (g : iG a) (hp : 0 ≤ p ∧ p < 4) (c : cRd h a p P) : vcl mX5_takenAt [(1, P), (1, P + 23)] h = some (.inl (some (0, cuX a p)), h) := by
  have q := (g.2 p hp.1 hp.2).2.2.2.1
  exact C_takenAt g hp c (cRd_cu c).1 (cRd_cu c).2 ⟨q.1, q.2.1⟩
theorem C_cursorRow (g : iG a) (hp : 0 ≤ p ∧ p < 4) (hP : 138 ≤ P) (c : cRd h a p P) : ∃ h2, vcl mX5_cursorRow [(1, P)] h = some (.inl (some (0, cuR a p)), h2) ∧ qM P h h2 ∧ cRd h2 a p P := by
  have q := cu_in g hp
  obtain ⟨h2, d1, d2, d3, -⟩ := C_rowDown g hp hP c (l := cuL a p) (x := cuX a p) q.1 (s := 0) (Or.inl rfl)
  exact ⟨h2, (rX5_cursorRow_0 c.2.1.1).trans ((vret_v (C_cuL g hp c)).trans ((rX5_cursorRow_9 c.2.1.1).trans ((vret_v (C_cuX g hp c)).trans ((rX5_cursorRow_17 c.2.1.1).trans ((vret_v d1).trans rX5_cursorRow_21))))), d2, d3⟩
theorem C_cursorColumn (g : iG a) (hp : 0 ≤ p ∧ p < 4) (hP : 138 ≤ P) (c : cRd h a p P) : ∃ h2, vcl mX5_cursorColumn [(1, P)] h = some (.inl (some (0, cuC a p)), h2) ∧ qM P h h2 ∧ cRd h2 a p P := by
  have q := cu_in g hp
  obtain ⟨h2, d1, d2, d3⟩ := C_columnDown g hp hP c (l := cuL a p) (x := cuX a p) q.1 (s := 0) (Or.inl rfl)
  exact ⟨h2, (rX5_cursorColumn_0 c.2.1.1).trans ((vret_v (C_cuL g hp c)).trans ((rX5_cursorColumn_9 c.2.1.1).trans ((vret_v (C_cuX g hp c)).trans ((rX5_cursorColumn_17 c.2.1.1).trans ((vret_v d1).trans rX5_cursorColumn_21))))), d2, d3⟩
theorem C_topRow (g : iG a) (hp : 0 ≤ p ∧ p < 4) (hP : 138 ≤ P) (c : cRd h a p P) : ∃ h2, vcl mX5_topRow [(1, P)] h = some (.inl (some (0, toR a p)), h2) ∧ qM P h h2 ∧ cRd h2 a p P := by
  obtain ⟨c1, c2, c3, c4⟩ := (g.2 p hp.1 hp.2).2.2.2.2.1
  obtain ⟨v1, v2, v3, v4⟩ := vs_in g hp ⟨c1, c2⟩ ⟨c3, c4⟩
  obtain ⟨h2, d1, d2, d3, -⟩ := C_rowDown g hp hP c (l := vsL a p (a 2 308 p)) (x := vsX a p (a 2 308 p) (a 2 309 p)) ⟨v1.1, v1.2.1⟩ (s := 0) (Or.inl rfl)
  exact ⟨h2, (rX5_topRow_0 c.2.1.1).trans ((vret_v (C_takenLine g hp c (cRd_to c).1 (cRd_to c).2 ⟨c1, c2⟩)).trans ((rX5_topRow_9 c.2.1.1).trans ((vret_v (C_takenAt g hp c (cRd_to c).1 (cRd_to c).2 ⟨c1, c2⟩)).trans ((rX5_topRow_17 c.2.1.1).trans ((vret_v d1).trans rX5_topRow_21))))), d2, d3⟩
end CRD

