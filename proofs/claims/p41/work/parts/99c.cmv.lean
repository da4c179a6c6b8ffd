/-! a pane of the class changes its cursor and its top -/
def qC (P : Int) (h h2 : vH) : Prop := ∀ (k : Nat) (r i : Int), ¬ (((k = 2 ∧ ((P + 6 ≤ r ∧ r ≤ P + 22 ∧ ¬ r = P + 15) ∨ r = P + 26 ∨ r = P + 27)) ∨ (r = P + 5 ∧ 509 ≤ k ∧ k ≤ 513) ∨ (r = P + 15 ∧ 207 ≤ k ∧ k ≤ 209) ∨ (r = P ∧ 713 ≤ k ∧ k ≤ 716)) ∨ (r = P ∧ k = 707) ∨ (P + 23 ≤ r ∧ r ≤ P + 25 ∧ 901 ≤ k ∧ k ≤ 902)) → h2 k r i = h k r i
/-- places and the wanted column alone -/
def qW (P : Int) (h h2 : vH) : Prop := ∀ (k : Nat) (r i : Int), ¬ ((r = P ∧ k = 707) ∨ (P + 23 ≤ r ∧ r ≤ P + 25 ∧ 901 ≤ k ∧ k ≤ 902)) → h2 k r i = h k r i
theorem qC_rf {P : Int} {h : vH} : qC P h h := fun _ _ _ _ => rfl
theorem qC_tr {P : Int} {a b c : vH} (x : qC P a b) (y : qC P b c) : qC P a c := fun k r i e => (y k r i e).trans (x k r i e)
theorem qF_C {P : Int} {h h2 : vH} (x : qF P h h2) : qC P h h2 := fun k r i e => x k r i (fun z => e (Or.inl z))
theorem qM_C {P : Int} {h h2 : vH} (x : qM P h h2) : qC P h h2 := qF_C (qM_F x)
theorem qW_C {P : Int} {h h2 : vH} (x : qW P h h2) : qC P h h2 := fun k r i e => x k r i (fun z => e (Or.inr z))
theorem qW_set {P s l x : Int} {h : vH} (hs : P + 23 ≤ s ∧ s ≤ P + 25) : qW P h (vup (vup h 901 s 0 l) 902 s 0 x) := fun k r i e => by
  unfold vup
  rw [if_neg (fun z => e (by omega)), if_neg (fun z => e (by omega))]
theorem qW_wn {P v : Int} {h : vH} : qW P h (vup h 707 P 0 v) := fun k r i e => by
  unfold vup
  rw [if_neg (fun z => e (by omega))]
theorem qC_sx {P : Int} {h h2 : vH} (x : qC P h h2) : sx h h2 := by
  intro k r i hk
  refine x k r i (fun z => ?_)
  by_cases e : k = 2
  · rw [e] at hk; cases hk
  · by_cases e2 : k = 707 ∨ k = 901 ∨ k = 902
    · rcases e2 with e2 | e2 | e2 <;> (rw [e2] at hk; cases hk)
    · have : stk k = false := pk_st (by unfold pk; omega)
      rw [this] at hk; cases hk
theorem qC_k {P : Int} {h h2 : vH} (x : qC P h h2) (s : shPane h P) {r i : Int} (e : ¬ h 0 r 0 = 1) : h2 2 r i = h 2 r i := x 2 r i (fun z => by
  rcases z with (z | z) | z
  · exact e (shPane_k s z.2)
  all_goals omega)
theorem cLi_qC {P : Int} {h h2 : vH} (x : qC P h h2) {r n : Int} (c : cLi h r n) : cLi h2 r n := by
  obtain ⟨c1, c2, c3⟩ := c
  have e1 : h2 101 r 0 = h 101 r 0 := x _ _ _ (by omega)
  refine ⟨(x 0 r 0 (by omega)).trans c1, (x _ _ _ (by omega)).trans c2, fun z => ?_⟩
  rw [e1, x 0 _ _ (by omega), x 1 _ _ (by omega)]
  exact c3 z
theorem lE_qC {P : Int} {h h2 : vH} (x : qC P h h2) (s : shPane h P) {r n j : Int} (c : cLi h r n) (hn : 0 < n) : lE h2 r j = lE h r j := by
  unfold lE
  rw [x 101 r 0 (by omega), qC_k x s (by rw [(c.2.2 hn).1]; decide)]
/-- an element of a list isn't a place of the pane -/
theorem el_off {P e : Int} {h : vH} (s : shPane h P) (k : h 0 e 0 = 29 ∨ h 0 e 0 = 32) : ¬ (P + 23 ≤ e + 1 ∧ e + 1 ≤ P + 25) ∧ ¬ (P + 23 ≤ e + 2 ∧ e + 2 ≤ P + 25) := by
  have k21 : h 0 (P + 21) 0 = 1 := shPane_k s (by omega)
  have k22 : h 0 (P + 22) 0 = 1 := shPane_k s (by omega)
  have k23 : h 0 (P + 23) 0 = 28 := s.2.2.2.2.2.2.2.2.2.1
  have k24 : h 0 (P + 24) 0 = 28 := s.2.2.2.2.2.2.2.2.2.2.2.1
  constructor
  · rintro ⟨u, v⟩
    rcases (show e = P + 22 ∨ e = P + 23 ∨ e = P + 24 by omega) with rfl | rfl | rfl <;> omega
  · rintro ⟨u, v⟩
    rcases (show e = P + 21 ∨ e = P + 22 ∨ e = P + 23 by omega) with rfl | rfl | rfl <;> omega
theorem cPl_qC {P : Int} {h h2 : vH} (x : qC P h h2) {r st l q : Int} (n : ¬ (P + 23 ≤ r ∧ r ≤ P + 25)) (c : cPl h r st l q) : cPl h2 r st l q := ⟨(x _ _ _ (by omega)).trans c.1, (x _ _ _ (by omega)).trans c.2.1, (x _ _ _ (by omega)).trans c.2.2⟩
theorem cLay_qC {P : Int} {h h2 a : vH} {p Y : Int} (x : qC P h h2) (s : shPane h P) (c : cLay h a p Y) : cLay h2 a p Y := by
  obtain ⟨c1, c2, c3, c4, c5, c6, c7⟩ := c
  have X := qC_sx x
  refine ⟨shLayers_sx X c1, cLi_qC x c2, cLi_qC x c3, cLi_qC x c4, fun j a b => ?_, fun j a b => ?_, fun j a b => ?_⟩
  · rw [lE_qC x s c2 (by omega)]
    obtain ⟨d1, d2, d3⟩ := c5 j a b
    have o := el_off s (Or.inl d1.1)
    exact ⟨shSpan_sx X d1, cPl_qC x o.1 d2, cPl_qC x o.2 d3⟩
  · rw [lE_qC x s c3 (by omega)]
    obtain ⟨d1, d2, d3, d4⟩ := c6 j a b
    have o := el_off s (Or.inr d1.1)
    exact ⟨shVirtual_sx X d1, cPl_qC x o.1 d2, (x _ _ _ (by omega)).trans d3, d4⟩
  · rw [lE_qC x s c4 (by omega)]
    obtain ⟨d1, d2, d3, d4⟩ := c7 j a b
    exact ⟨shFold_sx X d1, (x _ _ _ (by omega)).trans d2, (x _ _ _ (by omega)).trans d3, (x _ _ _ (by omega)).trans d4⟩
theorem cFix_qCo {P Q : Int} {h h2 a : vH} {q : Int} (x : qC P h h2) (s : shPane h P) (o : Q + 36 ≤ P ∨ P + 36 ≤ Q) (c : cFix h a q Q) : cFix h2 a q Q := by
  obtain ⟨c1, c2, c3, c4, c5, c6, c7, c8⟩ := c
  exact ⟨shPane_sx (qC_sx x) c1, cLay_qC x s c2, cPl_qC x (by omega) c3, cPl_qC x (by omega) c4, (x _ _ _ (by omega)).trans c5, (x _ _ _ (by omega)).trans c6, (x _ _ _ (by omega)).trans c7, (x _ _ _ (by omega)).trans c8⟩
theorem cTx_qC {P : Int} {h h2 a : vH} (x : qC P h h2) (hP : 138 ≤ P) (c : cTx h a) : cTx h2 a := by
  obtain ⟨c1, c2, c3, c4, c5⟩ := c
  have X := qC_sx x
  have e : ∀ i, h2 2 5 i = h 2 5 i := fun i => x _ _ _ (by omega)
  refine ⟨shText_sx X c1, ⟨(x _ _ _ (by omega)).trans c2.1, c2.2⟩, fun i u v => ?_, fun i j u v w => ?_, fun i u v => ?_⟩
  · rw [e]
    exact ⟨shLine_sx X (c3 i u v).1, (c3 i u v).2⟩
  · rw [e, e]; exact c4 i j u v w
  · rw [e]
    obtain ⟨⟨d1, d2, d3⟩, d4⟩ := c5 i u v
    have := c3 i u (by omega)
    exact ⟨⟨shLine_sx X d1, (x _ _ _ (by omega)).trans d2, fun j s t => (x _ _ _ (by omega)).trans (d3 j s t)⟩, (x _ _ _ (by omega)).trans d4⟩
/-- what the class tells of the reference is told of any other heap with the same text and layers -/
theorem cLay_a {h a b : vH} {p Y : Int} (y : pR a b) (c : cLay h a p Y) : cLay h b p Y := by
  obtain ⟨c1, c2, c3, c4, c5, c6, c7⟩ := c
  unfold cLay
  rw [y 293 _ (by decide) (by decide), y 297 _ (by decide) (by decide), y 301 _ (by decide) (by decide)]
  refine ⟨c1, c2, c3, c4, fun j u v => ?_, fun j u v => ?_, fun j u v => ?_⟩
  · rw [y 294 _ (by decide) (by decide), y 295 _ (by decide) (by decide), y 296 _ (by decide) (by decide)]
    exact c5 j u v
  · rw [y 298 _ (by decide) (by decide), y 299 _ (by decide) (by decide), y 300 _ (by decide) (by decide)]
    exact c6 j u v
  · rw [y 302 _ (by decide) (by decide), y 303 _ (by decide) (by decide), y 304 _ (by decide) (by decide)]
    exact c7 j u v
theorem cTx_a {h a b : vH} (y : eqA a b) (c : cTx h a) : cTx h b := by
  obtain ⟨c1, c2, c3, c4, c5⟩ := c
  refine ⟨c1, by rw [y.2.1]; exact c2, c3, c4, fun i u v => ?_⟩
  rw [y.2.1] at v
  obtain ⟨⟨d1, d2, d3⟩, d4⟩ := c5 i u v
  have len : b 2 284 i = a 2 284 i := y.1 _ _ (by decide) (by decide)
  exact ⟨⟨d1, by rw [len]; exact d2, fun j s t => by
    rw [len] at t
    rw [y.1 283 _ (by decide) (by decide)]; exact d3 j s t⟩, by rw [y.1 285 _ (by decide) (by decide)]; exact d4⟩
theorem cCnt_a {h a b : vH} {p P : Int} (y : eqA a b) (c : cCnt h a p P) : cCnt h b p P := by
  obtain ⟨c1, c2⟩ := c
  refine ⟨fun l u v => ?_, ?_⟩
  · rw [y.2.1, mRC_eq y.1]; exact c1 l u v
  · refine c2.imp (fun z => z) (fun z => ⟨z.1, fun l hl => ?_, by rw [mAll_eq y]; exact z.2.2⟩)
    rw [y.2.1] at hl
    rw [mRC_eq y.1, mRA_eq y.1]
    exact z.2.1 l hl
theorem cLaid_a {h a b : vH} {p P l : Int} {w : Prop} (y : eqA a b) (c : cLaid h a p l P w) : cLaid h b p l P w := by
  unfold cLaid
  rw [mCL_eq y.1, mS_eq y.1, mN_eq y.1, y.1 284 _ (by decide) (by decide), y.1 286 _ (by decide) (by decide), y.1 287 _ (by decide) (by decide)]
  exact c
theorem cLd_a {h a b : vH} {p P : Int} (y : eqA a b) (c : cLd h a p P) : cLd h b p P := by
  unfold cLd
  rw [y.2.1]
  exact c.imp (fun z => z) (fun z => ⟨z.1, z.2.1, z.2.2.1, cLaid_a y z.2.2.2⟩)
section CMV
variable {h h2 a b : vH} {p P l x : Int}
theorem cRd_qW (hP : 138 ≤ P) (x : qW P h h2) (y : eqA a b) (c : cRd h a p P) (F : cFix h2 b p P) : cRd h2 b p P := by
  obtain ⟨c1, c2, c3, c4, c5⟩ := c
  obtain ⟨c3, c6⟩ := cCnt_a y c3
  have c4 := cLd_a y c4
  refine ⟨cTx_a y (cTx_qC (qW_C x) hP c1), F, ⟨fun l u v => ?_, ?_⟩, ?_, (x _ _ _ (by omega)).trans c5⟩
  · rw [x 2 (P + 26) _ (by omega)]; exact c3 l u v
  · rw [x 714 P _ (by omega), x 713 P _ (by omega)]
    refine c6.imp (fun z => z) (fun z => ⟨z.1, fun j hj => ?_, z.2.2⟩)
    rw [x 2 (P + 26) _ (by omega), x 2 (P + 27) _ (by omega)]
    exact z.2.1 j hj
  · unfold cLd
    rw [x 715 P _ (by omega), x 716 P _ (by omega)]
    exact c4.imp (fun z => z) (fun z => ⟨z.1, z.2.1, z.2.2.1, cLaid_off (fun k r i u v => x k r i (by omega)) z.2.2.2⟩)
/-- the cursor, the top, the wanted column and the goal are set -/
theorem cRd_go (hP : 138 ≤ P) (c : cRd h a p P) : cRd (vup (vup h 901 (P + 23) 0 l) 902 (P + 23) 0 x) (tGo a p l x) p P := by
  obtain ⟨f1, f2, f3, f4, f5, f6, f7, f8⟩ := c.2.1
  have q : qW P h (vup (vup h 901 (P + 23) 0 l) 902 (P + 23) 0 x) := qW_set (by omega)
  have y : eqA a (tGo a p l x) := eqA_go
  refine cRd_qW hP q y c ⟨shPane_sx (qC_sx (qW_C q)) f1, cLay_a y.1 (cLay_qC (qW_C q) f1 f2), ⟨?_, ?_, ?_⟩, ?_, ?_, ?_, ?_, ?_⟩
  · exact (vup_k (by decide)).trans ((vup_k (by decide)).trans f3.1)
  · rw [vup_k (by decide), vup_s]
    exact ((vup_r (by decide)).trans vup_s).symm
  · rw [vup_s]
    exact vup_s.symm
  · refine ⟨?_, ?_, ?_⟩
    · exact (vup_k (by decide)).trans ((vup_k (by decide)).trans f4.1)
    · rw [vup_r (by omega), vup_r (by omega)]
      exact f4.2.1.trans ((vup_r (by decide)).trans (vup_r (by decide))).symm
    · rw [vup_r (by omega), vup_r (by omega)]
      exact f4.2.2.trans ((vup_r (by decide)).trans (vup_r (by decide))).symm
  · rw [vup_k (by decide), vup_k (by decide)]
    exact f5.trans ((vup_r (by decide)).trans (vup_r (by decide))).symm
  · rw [vup_k (by decide), vup_k (by decide)]
    exact f6.trans ((vup_r (by decide)).trans (vup_r (by decide))).symm
  · rw [vup_k (by decide), vup_k (by decide)]
    exact f7.trans ((vup_r (by decide)).trans (vup_r (by decide))).symm
  · rw [vup_k (by decide), vup_k (by decide)]
    exact f8.trans ((vup_r (by decide)).trans (vup_r (by decide))).symm
theorem cRd_tp (hP : 138 ≤ P) (c : cRd h a p P) {r : Int} : cRd (vup (vup h 901 (P + 24) 0 (mLn a p r)) 902 (P + 24) 0 (plR a p r)) (tTop a p r) p P := by
  obtain ⟨f1, f2, f3, f4, f5, f6, f7, f8⟩ := c.2.1
  have q : qW P h (vup (vup h 901 (P + 24) 0 (mLn a p r)) 902 (P + 24) 0 (plR a p r)) := qW_set (by omega)
  have y : eqA a (tTop a p r) := eqA_top
  refine cRd_qW hP q y c ⟨shPane_sx (qC_sx (qW_C q)) f1, cLay_a y.1 (cLay_qC (qW_C q) f1 f2), ⟨?_, ?_, ?_⟩, ⟨?_, ?_, ?_⟩, ?_, ?_, ?_, ?_⟩
  · exact (vup_k (by decide)).trans ((vup_k (by decide)).trans f3.1)
  · rw [vup_r (by omega), vup_r (by omega)]
    exact f3.2.1.trans ((vup_r (by decide)).trans (vup_r (by decide))).symm
  · rw [vup_r (by omega), vup_r (by omega)]
    exact f3.2.2.trans ((vup_r (by decide)).trans (vup_r (by decide))).symm
  · exact (vup_k (by decide)).trans ((vup_k (by decide)).trans f4.1)
  · rw [vup_k (by decide), vup_s]
    exact vup_s.symm
  · rw [vup_s]
    exact ((vup_r (by decide)).trans vup_s).symm
  · rw [vup_k (by decide), vup_k (by decide)]
    exact f5.trans ((vup_r (by decide)).trans (vup_r (by decide))).symm
  · rw [vup_k (by decide), vup_k (by decide)]
    exact f6.trans ((vup_r (by decide)).trans (vup_r (by decide))).symm
  · rw [vup_k (by decide), vup_k (by decide)]
    exact f7.trans ((vup_r (by decide)).trans (vup_r (by decide))).symm
  · rw [vup_k (by decide), vup_k (by decide)]
    exact f8.trans ((vup_r (by decide)).trans (vup_r (by decide))).symm
theorem cRd_wn (hP : 138 ≤ P) (c : cRd h a p P) {v : Int} : cRd (vup h 707 P 0 v) (tWn a p v) p P := by
  obtain ⟨f1, f2, f3, f4, f5, f6, f7, f8⟩ := c.2.1
  have q : qW P h (vup h 707 P 0 v) := qW_wn
  have y : eqA a (tWn a p v) := eqA_wn
  have r : ∀ r i : Int, ¬ r = 307 → tWn a p v 2 r i = a 2 r i := fun r i e => vup_r e
  refine cRd_qW hP q y c ⟨shPane_sx (qC_sx (qW_C q)) f1, cLay_a y.1 (cLay_qC (qW_C q) f1 f2), ⟨?_, ?_, ?_⟩, ⟨?_, ?_, ?_⟩, ?_, ?_, ?_, ?_⟩
  · exact (vup_k (by decide)).trans f3.1
  · exact (vup_k (by decide)).trans (f3.2.1.trans (r _ _ (by decide)).symm)
  · exact (vup_k (by decide)).trans (f3.2.2.trans (r _ _ (by decide)).symm)
  · exact (vup_k (by decide)).trans f4.1
  · exact (vup_k (by decide)).trans (f4.2.1.trans (r _ _ (by decide)).symm)
  · exact (vup_k (by decide)).trans (f4.2.2.trans (r _ _ (by decide)).symm)
  · exact vup_s.trans vup_s.symm
  · exact (vup_k (by decide)).trans (f6.trans (r _ _ (by decide)).symm)
  · exact (vup_k (by decide)).trans (f7.trans (r _ _ (by decide)).symm)
  · exact (vup_k (by decide)).trans (f8.trans (r _ _ (by decide)).symm)
theorem cRd_gl (hP : 138 ≤ P) (c : cRd h a p P) : cRd (vup (vup h 901 (P + 25) 0 l) 902 (P + 25) 0 x) a p P := by
  obtain ⟨f1, f2, f3, f4, f5, f6, f7, f8⟩ := c.2.1
  have q : qW P h (vup (vup h 901 (P + 25) 0 l) 902 (P + 25) 0 x) := qW_set (by omega)
  have pl : ∀ {r st l2 x2 : Int}, ¬ r = P + 25 → cPl h r st l2 x2 → cPl (vup (vup h 901 (P + 25) 0 l) 902 (P + 25) 0 x) r st l2 x2 := fun n c => ⟨(vup_r n).trans ((vup_r n).trans c.1), (vup_r n).trans ((vup_r n).trans c.2.1), (vup_r n).trans ((vup_r n).trans c.2.2)⟩
  refine cRd_qW hP q eqA_rf c ⟨shPane_sx (qC_sx (qW_C q)) f1, cLay_qC (qW_C q) f1 f2, pl (by omega) f3, pl (by omega) f4, ?_, ?_, ?_, ?_⟩
  · exact (vup_k (by decide)).trans ((vup_k (by decide)).trans f5)
  · exact (vup_k (by decide)).trans ((vup_k (by decide)).trans f6)
  · exact (vup_k (by decide)).trans ((vup_k (by decide)).trans f7)
  · exact (vup_k (by decide)).trans ((vup_k (by decide)).trans f8)
theorem C_setTop (g : iG a) (hp : 0 ≤ p ∧ p < 4) (hP : 138 ≤ P) (c : cRd h a p P) {r : Int} (hr : isRw a p r) : ∃ h2, vcl mX5_setTop [(1, P), (0, r)] h = some (.inl none, h2) ∧ qC P h h2 ∧ cRd h2 (tTop a p r) p P := by
  obtain ⟨l1, j1, j2, v, r7⟩ := rw_in g.1 hp hr
  have lr := C_lineOfRow g.1 hp c hr
  obtain ⟨h1, m1, m2, m3, m4⟩ := C_measured g hp c.1 c.2.1 c.2.2.2.1 (l := mLn a p r) ⟨l1.1, l1.2.1⟩
  have c1 := cRd_qM hP m2 c m3
  obtain ⟨R, q, ql, qt, qr⟩ := cRd_Q g hp c1 m4 l1.1
  have qr := qr v
  obtain ⟨f1, f2⟩ := cRd_f g.1 c1 (l := mLn a p r) l1.2.1
  have fp := C_firstPlace q (j := rwJ a p r) (by omega) ql
  rw [← qr] at fp
  have hr0 := hr.1
  have ma := mRA_in g.1 hp (mLn a p r) (by omega)
  refine ⟨_, ?_, qC_tr (qM_C m2) (qW_C (qW_set (s := P + 24) (l := (mLn a p r : Int)) (x := plR a p r) (by omega))), cRd_tp hP c1⟩
  refine (rX5_setTop_0 c.2.1.1).trans ((vret_v lr).trans ((rX5_setTop_5 c.2.1.1).trans ((vret_v m1).trans ((rX5_setTop_16 c1.2.1.1 (by omega) (by omega) q.1).trans ?_))))
  rw [f2, ← j1]
  refine (vret_v fp).trans ((rX5_setTop_25 (cRd_to c1).1).trans ((vret_n ?_).trans rX5_setTop_28))
  exact rX7_set_0 (cRd_to c1).1
theorem C_follow (g : iG a) (hp : 0 ≤ p ∧ p < 4) (hP : 138 ≤ P) (c : cRd h a p P) {H : Int} (eH : H = a 2 310 p) (hH : 1 ≤ a 2 310 p ∧ a 2 310 p ≤ 24) : ∃ h2, vcl mX5_follow [(1, P), (0, H)] h = some (.inl none, h2) ∧ qC P h h2 ∧ cRd h2 (tLk a p) p P := by
  obtain ⟨h1, a1, a2, c1⟩ := C_cursorRow g hp hP c
  obtain ⟨h2, b1, b2, c2⟩ := C_topRow g hp hP c1
  have f2 := qM_C (qM_tr a2 b2)
  have mg : h2 710 P 0 = a 2 288 p := c2.2.1.2.2.2.2.2.2.2
  have em : min (h2 710 P 0) ((H - 1) / 2) = fX13_marginOf a p := by
    unfold fX13_marginOf
    rw [mg, eH]
    split <;> omega
  have m := mgn_in hH (g.2 p hp.1 hp.2).2.2.2.2.2
  have cr := rw_in g.1 hp (cu_in g hp).2.2.2.1
  have tr := rw_in g.1 hp (to_in g hp)
  have c0 := (cu_in g hp).2.2.2.1.1
  have t0 := (to_in g hp).1
  have q := lk_in g hp hH
  have base : vcl mX5_follow [(1, P), (0, H)] h = _ := (rX5_follow_0 c.2.1.1).trans ((vret_v a1).trans ((rX5_follow_4 c1.2.1.1).trans ((vret_v b1).trans (rX5_follow_9 c2.2.1.1 (by omega) (by omega) (by omega) (by omega) (by omega) (by omega) (by omega) (by omega) (by omega) (by omega) (by omega) (by omega) (by omega) (by omega) (by omega) (by omega) (by omega)))))
  rw [em] at base
  unfold tLk
  by_cases z1 : toR a p + fX13_marginOf a p ≤ cuR a p
  · rw [if_pos z1]
    rw [if_pos z1] at base
    by_cases z2 : cuR a p ≤ toR a p + a 2 310 p - 1 - fX13_marginOf a p
    · rw [if_pos z2]
      rw [if_pos (by omega)] at base
      exact ⟨h2, base, f2, c2⟩
    · rw [if_neg z2]
      rw [if_neg (by omega), show max 0 (cuR a p + fX13_marginOf a p - H + 1) = cuR a p - (a 2 310 p - 1 - fX13_marginOf a p) by omega] at base
      obtain ⟨h3, d1, d2, d3⟩ := C_setTop g hp hP c2 (q.2 z2)
      exact ⟨h3, base.trans ((vret_n d1).trans rX5_follow_68), qC_tr f2 d2, d3⟩
  · rw [if_neg z1]
    rw [if_neg z1, show max 0 (cuR a p - fX13_marginOf a p) = (if cuR a p - fX13_marginOf a p ≤ 0 then 0 else cuR a p - fX13_marginOf a p) by split <;> omega] at base
    obtain ⟨h3, d1, d2, d3⟩ := C_setTop g hp hP c2 (q.1 z1)
    exact ⟨h3, base.trans ((vret_n d1).trans rX5_follow_37), qC_tr f2 d2, d3⟩
theorem C_putCursor (g : iG a) (hp : 0 ≤ p ∧ p < 4) (hP : 138 ≤ P) (c : cRd h a p P) (z : isP a (l, x)) : ∃ h2, vcl mX5_putCursor [(1, P), (0, l), (0, x)] h = some (.inl none, h2) ∧ qC P h h2 ∧ cRd h2 (tWn (tGo a p l x) p (cuC (tGo a p l x) p)) p P := by
  have g1 : iG (tGo a p l x) := iG_go g z.1 z.2
  have c1 := cRd_go hP c (l := l) (x := x)
  have q1 : qC P h (vup (vup h 901 (P + 23) 0 l) 902 (P + 23) 0 x) := qW_C (qW_set (by omega))
  obtain ⟨h2, b1, b2, c2⟩ := C_cursorColumn g1 hp hP c1
  refine ⟨_, ?_, qC_tr q1 (qC_tr (qM_C b2) (qW_C qW_wn)), cRd_wn hP c2⟩
  refine (rX5_putCursor_0 c.2.1.1).trans ((vret_n (show vcl mX7_set [(1, P + 23), (0, l), (0, x)] h = _ from rX7_set_0 (cRd_cu c).1)).trans ?_)
  exact (rX5_putCursor_9 c1.2.1.1).trans ((vret_v b1).trans (rX5_putCursor_14 c2.2.1.1))
end CMV

