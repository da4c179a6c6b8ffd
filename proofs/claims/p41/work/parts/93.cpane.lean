/-! PANES: what they keep -/
/-- the text -/
def cTx (h a : vH) : Prop := shText h ∧ (h 1201 4 0 = a 1504 282 0 ∧ a 1504 282 0 ≤ 60) ∧ (∀ i, 0 ≤ i → i < 60 → shLine h (h 2 5 i) ∧ 6 ≤ h 2 5 i ∧ h 2 5 i ≤ 124) ∧ (∀ i j, 0 ≤ i → i < j → j < 60 → ¬ h 2 5 i = h 2 5 j) ∧ ∀ i, 0 ≤ i → i < a 1504 282 0 → cLn h a (h 2 5 i) i ∧ h 602 (h 2 5 i) 0 = a 2 285 i
/-- what a pane holds besides what it has counted and laid -/
def cFix (h a : vH) (p P : Int) : Prop := shPane h P ∧ cLay h a p (P + 1) ∧ cPl h (P + 23) 0 (a 2 305 p) (a 2 306 p) ∧ cPl h (P + 24) 0 (a 2 308 p) (a 2 309 p) ∧ h 707 P 0 = a 2 307 p ∧ h 708 P 0 = a 2 286 p ∧ h 709 P 0 = a 2 287 p ∧ h 710 P 0 = a 2 288 p
/-- the rows that are counted -/
def cCnt (h a : vH) (p P : Int) : Prop := (∀ l, 0 ≤ l → l < 60 → h 2 (P + 26) l = -1 ∨ (l < a 1504 282 0 ∧ h 2 (P + 26) l = mRC a p l)) ∧ (h 714 P 0 = 0 ∨ (h 714 P 0 = 1 ∧ (∀ l : Nat, (l : Int) < a 1504 282 0 → h 2 (P + 26) l = mRC a p l ∧ h 2 (P + 27) l = mRA a p l) ∧ h 713 P 0 = mAll a p))
/-- a line that is laid; turned round, if w -/
def cLaid (h a : vH) (p l P : Int) (w : Prop) : Prop := kCl h (P + 5) (mCL a p l) ∧ h 512 (P + 5) 0 = a 2 284 l ∧ ∃ R, kRs h (P + 5) (mS a p l) (mN a p l) (a 2 286 p) (a 2 287 p) R ∧ (w → h 511 (P + 5) 0 = lB0 (mS a p l) (mN a p l) ∧ ∀ j : Nat, j < R → kRow h (P + 5) (mS a p l) (mN a p l) (a 2 286 p) (a 2 287 p) j)
/-- the line that the layout holds -/
def cLd (h a : vH) (p P : Int) : Prop := h 715 P 0 = -1 ∨ (0 ≤ h 715 P 0 ∧ h 715 P 0 < a 1504 282 0 ∧ (h 716 P 0 = 0 ∨ h 716 P 0 = 1) ∧ cLaid h a p (h 715 P 0) P (h 716 P 0 = 1))
/-- what holds of the reference between calls -/
def iG (a : vH) : Prop := mG a ∧ ∀ p, 0 ≤ p → p < 4 →
  (∀ k, 6 * p ≤ k → k < 6 * p + a 2 301 p → 0 ≤ a 2 302 k ∧ a 2 302 k < a 2 303 k ∧ a 2 303 k < a 1504 282 0) ∧
  (∀ k, 6 * p ≤ k → k < 6 * p + a 2 293 p → 0 ≤ a 2 294 k ∧ a 2 294 k < a 1504 282 0 ∧ 0 ≤ a 2 295 k ∧ a 2 295 k < a 2 296 k ∧ a 2 296 k ≤ a 2 284 (a 2 294 k)) ∧
  (∀ k, 6 * p ≤ k → k < 6 * p + a 2 297 p → 0 ≤ a 2 298 k ∧ a 2 298 k < a 1504 282 0 ∧ 0 ≤ a 2 299 k ∧ a 2 299 k ≤ a 2 284 (a 2 298 k)) ∧
  (0 ≤ a 2 305 p ∧ a 2 305 p < a 1504 282 0 ∧ 0 ≤ a 2 306 p ∧ a 2 306 p ≤ a 2 284 (a 2 305 p)) ∧
  (0 ≤ a 2 308 p ∧ a 2 308 p < a 1504 282 0 ∧ 0 ≤ a 2 309 p ∧ a 2 309 p ≤ a 2 284 (a 2 308 p)) ∧
  (0 ≤ a 2 288 p ∧ a 2 288 p ≤ 3)
/-- the fields of a pane that change -/
def pk (k : Nat) : Prop := (207 ≤ k ∧ k ≤ 209) ∨ (509 ≤ k ∧ k ≤ 513) ∨ (713 ≤ k ∧ k ≤ 716)
theorem pk_st {k : Nat} (h : pk k) : stk k = false := by
  unfold pk at h
  rcases (show k = 207 ∨ k = 208 ∨ k = 209 ∨ k = 509 ∨ k = 510 ∨ k = 511 ∨ k = 512 ∨ k = 513 ∨ k = 713 ∨ k = 714 ∨ k = 715 ∨ k = 716 by omega) with e | e | e | e | e | e | e | e | e | e | e | e <;> subst e <;> rfl
/-- laying a line in a pane -/
def qM (P : Int) (h h2 : vH) : Prop := ∀ (k : Nat) (r i : Int), ¬ ((k = 2 ∧ P + 6 ≤ r ∧ r ≤ P + 22 ∧ ¬ r = P + 15) ∨ (r = P + 5 ∧ 509 ≤ k ∧ k ≤ 513) ∨ (r = P + 15 ∧ 207 ≤ k ∧ k ≤ 209) ∨ (r = P ∧ 715 ≤ k ∧ k ≤ 716)) → h2 k r i = h k r i
/-- counting the rows of a pane -/
def qF (P : Int) (h h2 : vH) : Prop := ∀ (k : Nat) (r i : Int), ¬ ((k = 2 ∧ ((P + 6 ≤ r ∧ r ≤ P + 22 ∧ ¬ r = P + 15) ∨ r = P + 26 ∨ r = P + 27)) ∨ (r = P + 5 ∧ 509 ≤ k ∧ k ≤ 513) ∨ (r = P + 15 ∧ 207 ≤ k ∧ k ≤ 209) ∨ (r = P ∧ 713 ≤ k ∧ k ≤ 716)) → h2 k r i = h k r i
theorem qM_rf {P : Int} {h : vH} : qM P h h := fun _ _ _ _ => rfl
theorem qF_rf {P : Int} {h : vH} : qF P h h := fun _ _ _ _ => rfl
theorem qM_tr {P : Int} {a b c : vH} (x : qM P a b) (y : qM P b c) : qM P a c := fun k r i e => (y k r i e).trans (x k r i e)
theorem qF_tr {P : Int} {a b c : vH} (x : qF P a b) (y : qF P b c) : qF P a c := fun k r i e => (y k r i e).trans (x k r i e)
theorem qM_F {P : Int} {h h2 : vH} (x : qM P h h2) : qF P h h2 := fun k r i e => x k r i (fun z => e (by omega))
theorem qF_sx {P : Int} {h h2 : vH} (x : qF P h h2) : sx h h2 := by
  intro k r i hk
  refine x k r i (fun z => ?_)
  by_cases e : k = 2
  · rw [e] at hk; cases hk
  · have : stk k = false := pk_st (by unfold pk; omega)
    rw [this] at hk; cases hk
theorem qM_sx {P : Int} {h h2 : vH} (x : qM P h h2) : sx h h2 := qF_sx (qM_F x)
/-- the arrays of a pane -/
theorem shPane_k {h : vH} {P r : Int} (s : shPane h P) (a : (P + 6 ≤ r ∧ r ≤ P + 22 ∧ ¬ r = P + 15) ∨ r = P + 26 ∨ r = P + 27) : h 0 r 0 = 1 := by
  obtain ⟨-, -, -, -, -, s1, -, s2, -, -, -, -, -, -, -, s3, -, -, s4, -⟩ := s
  obtain ⟨-, -, d1, -, -, d2, -, -, d3, -, -, d4, -, -, d5, -, -, d6, -, -, d7, -⟩ := s2
  rcases (show (P + 5 + 1 ≤ r ∧ r ≤ P + 5 + 9) ∨ r = P + 15 + 1 ∨ r = P + 15 + 2 ∨ r = P + 15 + 3 ∨ r = P + 15 + 4 ∨ r = P + 15 + 5 ∨ r = P + 15 + 6 ∨ r = P + 15 + 7 ∨ r = P + 26 ∨ r = P + 27 by omega) with e | e | e | e | e | e | e | e | e | e
  · exact shLayout_k s1 e.1 e.2
  all_goals (subst e; assumption)
theorem qF_k {P : Int} {h h2 : vH} (x : qF P h h2) (s : shPane h P) {r i : Int} (e : ¬ h 0 r 0 = 1) : h2 2 r i = h 2 r i := x 2 r i (fun z => by
  rcases z with z | z | z | z
  · exact e (shPane_k s z.2)
  all_goals omega)
theorem cLi_qF {P : Int} {h h2 : vH} (x : qF P h h2) {r n : Int} (c : cLi h r n) : cLi h2 r n := by
  obtain ⟨c1, c2, c3⟩ := c
  have e1 : h2 101 r 0 = h 101 r 0 := x _ _ _ (by omega)
  refine ⟨(x 0 r 0 (by omega)).trans c1, (x _ _ _ (by omega)).trans c2, fun z => ?_⟩
  rw [e1, x 0 _ _ (by omega), x 1 _ _ (by omega)]
  exact c3 z
theorem lE_qF {P : Int} {h h2 : vH} (x : qF P h h2) (s : shPane h P) {r n j : Int} (c : cLi h r n) (hn : 0 < n) : lE h2 r j = lE h r j := by
  unfold lE
  rw [x 101 r 0 (by omega), qF_k x s (by rw [(c.2.2 hn).1]; decide)]
theorem cPl_qF {P : Int} {h h2 : vH} (x : qF P h h2) {r st l q : Int} (c : cPl h r st l q) : cPl h2 r st l q := ⟨(x _ _ _ (by omega)).trans c.1, (x _ _ _ (by omega)).trans c.2.1, (x _ _ _ (by omega)).trans c.2.2⟩
theorem cLay_qF {P : Int} {h h2 a : vH} {p Y : Int} (x : qF P h h2) (s : shPane h P) (c : cLay h a p Y) : cLay h2 a p Y := by
  obtain ⟨c1, c2, c3, c4, c5, c6, c7⟩ := c
  have X := qF_sx x
  refine ⟨shLayers_sx X c1, cLi_qF x c2, cLi_qF x c3, cLi_qF x c4, fun j a b => ?_, fun j a b => ?_, fun j a b => ?_⟩
  · rw [lE_qF x s c2 (by omega)]
    obtain ⟨d1, d2, d3⟩ := c5 j a b
    exact ⟨shSpan_sx X d1, cPl_qF x d2, cPl_qF x d3⟩
  · rw [lE_qF x s c3 (by omega)]
    obtain ⟨d1, d2, d3, d4⟩ := c6 j a b
    exact ⟨shVirtual_sx X d1, cPl_qF x d2, (x _ _ _ (by omega)).trans d3, d4⟩
  · rw [lE_qF x s c4 (by omega)]
    obtain ⟨d1, d2, d3, d4⟩ := c7 j a b
    exact ⟨shFold_sx X d1, (x _ _ _ (by omega)).trans d2, (x _ _ _ (by omega)).trans d3, (x _ _ _ (by omega)).trans d4⟩
theorem cFix_qF {P Q : Int} {h h2 a : vH} {q : Int} (x : qF P h h2) (s : shPane h P) (c : cFix h a q Q) : cFix h2 a q Q := by
  obtain ⟨c1, c2, c3, c4, c5, c6, c7, c8⟩ := c
  exact ⟨shPane_sx (qF_sx x) c1, cLay_qF x s c2, cPl_qF x c3, cPl_qF x c4, (x _ _ _ (by omega)).trans c5, (x _ _ _ (by omega)).trans c6, (x _ _ _ (by omega)).trans c7, (x _ _ _ (by omega)).trans c8⟩
theorem cTx_qF {P : Int} {h h2 a : vH} (x : qF P h h2) (hP : 138 ≤ P) (c : cTx h a) : cTx h2 a := by
  obtain ⟨c1, c2, c3, c4, c5⟩ := c
  have X := qF_sx x
  have e : ∀ i, h2 2 5 i = h 2 5 i := fun i => x _ _ _ (by omega)
  refine ⟨shText_sx X c1, ⟨(x _ _ _ (by omega)).trans c2.1, c2.2⟩, fun i u v => ?_, fun i j u v w => ?_, fun i u v => ?_⟩
  · rw [e]
    exact ⟨shLine_sx X (c3 i u v).1, (c3 i u v).2⟩
  · rw [e, e]; exact c4 i j u v w
  · rw [e]
    obtain ⟨⟨d1, d2, d3⟩, d4⟩ := c5 i u v
    have := c3 i u (by omega)
    exact ⟨⟨shLine_sx X d1, (x _ _ _ (by omega)).trans d2, fun j s t => (x _ _ _ (by omega)).trans (d3 j s t)⟩, (x _ _ _ (by omega)).trans d4⟩
/-- another pane is not touched -/
theorem cCnt_off {Q : Int} {h h2 a : vH} {q : Int} (x : ∀ k r i, Q ≤ r → r ≤ Q + 35 → h2 k r i = h k r i) (c : cCnt h a q Q) : cCnt h2 a q Q := by
  obtain ⟨c1, c2⟩ := c
  refine ⟨fun l u v => ?_, ?_⟩
  · rw [x _ _ _ (by omega) (by omega)]; exact c1 l u v
  · rw [x _ _ _ (by omega) (by omega), x _ _ _ (by omega) (by omega)]
    refine c2.imp (fun z => z) (fun z => ⟨z.1, fun l hl => ?_, z.2.2⟩)
    rw [x _ _ _ (by omega) (by omega), x _ _ _ (by omega) (by omega)]
    exact z.2.1 l hl
theorem kCl_off {y : Int} {h h2 : vH} {L : List Clu} (x : ∀ k r i, y ≤ r → r ≤ y + 9 → h2 k r i = h k r i) (c : kCl h y L) : kCl h2 y L := by
  refine ⟨(x _ _ _ (by omega) (by omega)).trans c.1, fun i z e => ?_⟩
  rw [x _ _ _ (by omega) (by omega), x _ _ _ (by omega) (by omega), x _ _ _ (by omega) (by omega), x _ _ _ (by omega) (by omega)]
  exact c.2 i z e
theorem kRs_off {y W d : Int} {n R : Nat} {s : Int → Int} {h h2 : vH} (x : ∀ k r i, y ≤ r → r ≤ y + 9 → h2 k r i = h k r i) (c : kRs h y s n W d R) : kRs h2 y s n W d R := by
  obtain ⟨r1, r2, r3, r4, r5, r6⟩ := c
  exact ⟨r1, r2, (x _ _ _ (by omega) (by omega)).trans r3, (x _ _ _ (by omega) (by omega)).trans r4, fun j hj => (x _ _ _ (by omega) (by omega)).trans (r5 j hj), fun j hj k u v => (x _ _ _ (by omega) (by omega)).trans (r6 j hj k u v)⟩
theorem kRow_off {y W d : Int} {n j : Nat} {s : Int → Int} {h h2 : vH} (x : ∀ k r i, y ≤ r → r ≤ y + 9 → h2 k r i = h k r i) (c : kRow h y s n W d j) : kRow h2 y s n W d j := by
  intro k u v
  rw [x _ _ _ (by omega) (by omega), x _ _ _ (by omega) (by omega), x _ _ _ (by omega) (by omega)]
  exact c k u v
theorem cLaid_off {P : Int} {h h2 a : vH} {p l : Int} {w : Prop} (x : ∀ k r i, P + 5 ≤ r → r ≤ P + 14 → h2 k r i = h k r i) (c : cLaid h a p l P w) : cLaid h2 a p l P w := by
  obtain ⟨c1, c2, R, c3, c4⟩ := c
  have x' : ∀ k r i, P + 5 ≤ r → r ≤ P + 5 + 9 → h2 k r i = h k r i := fun k r i u v => x k r i u (by omega)
  exact ⟨kCl_off x' c1, (x _ _ _ (by omega) (by omega)).trans c2, R, kRs_off x' c3, fun z => ⟨(x _ _ _ (by omega) (by omega)).trans (c4 z).1, fun j hj => kRow_off x' ((c4 z).2 j hj)⟩⟩
theorem cLd_off {Q : Int} {h h2 a : vH} {q : Int} (x : ∀ k r i, Q ≤ r → r ≤ Q + 14 → h2 k r i = h k r i) (c : cLd h a q Q) : cLd h2 a q Q := by
  unfold cLd
  rw [x _ _ _ (by omega) (by omega), x _ _ _ (by omega) (by omega)]
  exact c.imp (fun z => z) (fun z => ⟨z.1, z.2.1, z.2.2.1, cLaid_off (fun k r i u v => x k r i (by omega) v) z.2.2.2⟩)
theorem kCl_s {h a : vH} {p l y : Int} (c : kCl h y (mCL a p l)) : ∀ k : Int, 0 ≤ k → k < mN a p l → h 2 (y + 1) k = mS a p l k := by
  intro k u v
  unfold mN at v
  have hk : k.toNat < (mCL a p l).length := by omega
  have := (c.2 k.toNat _ (List.getElem?_eq_getElem hk)).1
  rw [show ((k.toNat : Nat) : Int) = k by omega] at this
  rw [this]
  unfold mS
  rw [List.getD_eq_getElem?_getD, List.getElem?_eq_getElem hk]
  rfl
theorem mN_131 {a : vH} {p l : Int} (g : mG a) (hp : 0 ≤ p ∧ p < 4) (hl : 0 ≤ l ∧ l < 60) : mN a p l ≤ 131 := by
  obtain ⟨R, n131, -⟩ := P_rows g hp hl
  exact n131
section CPN
variable {h a : vH} {p P l : Int}
theorem C_at (cT : cTx h a) (hl : 0 ≤ l ∧ l < a 1504 282 0) : fX10_at h l = h 2 5 l := by
  have := cT.2.1
  unfold fX10_at
  rw [if_neg (by omega), if_neg (by omega), if_neg (by omega)]
theorem C_measured (g : iG a) (hp : 0 ≤ p ∧ p < 4) (cT : cTx h a) (cF : cFix h a p P) (cL : cLd h a p P) (hl : 0 ≤ l ∧ l < a 1504 282 0) : ∃ h2, vcl mX5_measured [(1, P), (0, l)] h = some (.inl (some (1, P + 5)), h2) ∧ qM P h h2 ∧ cLd h2 a p P ∧ h2 715 P 0 = l := by
  obtain ⟨f1, f2, f3, f4, f5, f6, f7, f8⟩ := id cF
  by_cases c : h 715 P 0 = l
  · exact ⟨h, (show _ = _ from rX5_measured_0 f1 cT.1).trans (if_pos c), qM_rf, cL, c⟩
  · have gp := g.2 p hp.1 hp.2
    have lin := cT.2.1
    have gm := g.1.2.2.2 p hp.1 hp.2
    have sL : shLayout h (P + 5) := f1.2.2.2.2.2.1
    have n131 := mN_131 g.1 hp (l := l) ⟨hl.1, by omega⟩
    obtain ⟨h1, a1, a2, a3, a4⟩ := C_collect (X := h 2 5 l) (l := l) sL f2 (cT.2.2.2.2 l hl.1 hl.2).1 gm.1 (g.1.2.2.1 l hl.1 (by omega)) (fun k u v => by have := gp.1 k u v; omega) (fun k u v e => by have := gp.2.2.1 k u v; rw [e] at this; exact this.2.2.2)
    have x1 : qM P h h1 := fun k r i e => a3 k r i (fun z => e (by omega))
    have f1' := shPane_sx (qM_sx x1) f1
    have sL1 : shLayout h1 (P + 5) := f1'.2.2.2.2.2.1
    obtain ⟨h2, R, b1, b2, b3, b4, b5⟩ := C_wrap (s := mS a p l) (n := mN a p l) (W := h 708 P 0) (d := h 709 P 0) sL1 a2.1 n131 (kCl_s a2) (by rw [f6]; exact gm.2.1) (by rw [f7]; exact gm.2.2)
    have x2 : qM P h1 h2 := fun k r i e => b2 k r i (fun z => e (by omega))
    have x3 : qM P h (vup (vup h2 715 P 0 l) 716 P 0 0) := fun k r i e => by
      unfold vup
      rw [if_neg (fun z => e (by omega)), if_neg (fun z => e (by omega))]
      exact qM_tr x1 x2 k r i e
    have la : (vup (vup h2 715 P 0 l) 716 P 0 0) 715 P 0 = l := (vup_k (by decide)).trans vup_s
    have tu : (vup (vup h2 715 P 0 l) 716 P 0 0) 716 P 0 = 0 := vup_s
    refine ⟨_, ?_, x3, ?_, la⟩
    · refine (show _ = _ from rX5_measured_0 f1 cT.1).trans ((if_neg c).trans ?_)
      rw [C_at cT hl]
      refine (vret_n a1).trans ((rX5_measured_28 f1').trans ?_)
      rw [x1 708 P 0 (by omega), x1 709 P 0 (by omega)]
      exact (vret_n b1).trans (rX5_measured_43 (shPane_sx (qM_sx x2) f1'))
    · right
      rw [la, tu]
      refine ⟨hl.1, hl.2, Or.inl rfl, ?_⟩
      refine cLaid_off (h := h2) (fun k r i u v => by unfold vup; rw [if_neg (by omega), if_neg (by omega)]) ⟨?_, b4.trans a4, R, ?_, fun z => absurd z (by decide)⟩
      · refine ⟨(b2 _ _ _ (by omega)).trans a2.1, fun i z e => ?_⟩
        rw [b2 _ _ _ (by omega), b2 _ _ _ (by omega), b2 _ _ _ (by omega), b2 _ _ _ (by omega)]
        exact a2.2 i z e
      · rw [f6, f7] at b5
        exact b5
theorem C_turned (g : iG a) (hp : 0 ≤ p ∧ p < 4) (cT : cTx h a) (cF : cFix h a p P) (cL : cLd h a p P) (hl : ¬ h 715 P 0 = -1) : ∃ h2, vcl mX5_turned [(1, P)] h = some (.inl (some (1, P + 5)), h2) ∧ qM P h h2 ∧ cLd h2 a p P ∧ h2 715 P 0 = h 715 P 0 ∧ h2 716 P 0 = 1 := by
  obtain ⟨f1, f2, f3, f4, f5, f6, f7, f8⟩ := id cF
  obtain ⟨l0, l1, l2, l3⟩ := cL.resolve_left hl
  rcases l2 with t | t
  · have lin := cT.2.1
    have gm := g.1.2.2.2 p hp.1 hp.2
    have n131 := mN_131 g.1 hp (l := h 715 P 0) ⟨l0, by omega⟩
    have sL : shLayout h (P + 5) := f1.2.2.2.2.2.1
    have sD : shDirections h (P + 15) := f1.2.2.2.2.2.2.2.1
    obtain ⟨c1, c2, R, c3, -⟩ := l3
    obtain ⟨h1, a1, a2, a3, a4⟩ := C_find (s := mS a p (h 715 P 0)) (n := mN a p (h 715 P 0)) sD sL (by omega) c1.1 n131 (kCl_s c1)
    have x1 : qM P h h1 := fun k r i e => a2 k r i (fun z => e (by omega))
    have f1' := shPane_sx (qM_sx x1) f1
    have sL1 : shLayout h1 (P + 5) := f1'.2.2.2.2.2.1
    have c3' : kRs h1 (P + 5) (mS a p (h 715 P 0)) (mN a p (h 715 P 0)) (a 2 286 p) (a 2 287 p) R := by
      obtain ⟨r1, r2, r3, r4, r5, r6⟩ := c3
      exact ⟨r1, r2, (a2 _ _ _ (by omega)).trans r3, (a2 _ _ _ (by omega)).trans r4, fun j hj => (a2 _ _ _ (by omega)).trans (r5 j hj), fun j hj k u v => (a2 _ _ _ (by omega)).trans (r6 j hj k u v)⟩
    obtain ⟨h2, b1, b2, b3⟩ := C_turnRows (s := mS a p (h 715 P 0)) (n := mN a p (h 715 P 0)) sL1 ((a2 _ _ _ (by omega)).trans c1.1) n131 (fun k u v => (a2 _ _ _ (by omega)).trans (kCl_s c1 k u v)) gm.2.2 gm.2.1.1 c3' a4 a3
    have x2 : qM P h1 h2 := fun k r i e => b2 k r i (fun z => e (by omega))
    have x3 : qM P h (vup h2 716 P 0 1) := fun k r i e => by
      unfold vup
      rw [if_neg (fun z => e (by omega))]
      exact qM_tr x1 x2 k r i e
    have la : (vup h2 716 P 0 1) 715 P 0 = h 715 P 0 := (vup_k (by decide)).trans ((b2 _ _ _ (by omega)).trans (a2 _ _ _ (by omega)))
    refine ⟨_, ?_, x3, ?_, la, vup_s⟩
    · refine (show _ = _ from rX5_turned_0 f1).trans ((if_pos t).trans ?_)
      refine (vret_n a1).trans ((rX5_turned_18 f1').trans ?_)
      exact (vret_n b1).trans (rX5_turned_25 (shPane_sx (qM_sx x2) f1'))
    · right
      rw [la, vup_s]
      refine ⟨l0, l1, Or.inr rfl, ?_⟩
      refine cLaid_off (h := h2) (fun k r i u v => by unfold vup; rw [if_neg (by omega)]) ⟨?_, (b2 _ _ _ (by omega)).trans ((a2 _ _ _ (by omega)).trans c2), R, kRs_yF b2 (by omega) (by omega) c3', fun _ => ⟨(b2 _ _ _ (by omega)).trans a4, b3⟩⟩
      refine ⟨(b2 _ _ _ (by omega)).trans ((a2 _ _ _ (by omega)).trans c1.1), fun i z e => ?_⟩
      rw [b2 _ _ _ (by omega), b2 _ _ _ (by omega), b2 _ _ _ (by omega), b2 _ _ _ (by omega), a2 _ _ _ (by omega), a2 _ _ _ (by omega), a2 _ _ _ (by omega), a2 _ _ _ (by omega)]
      exact c1.2 i z e
  · exact ⟨h, (show _ = _ from rX5_turned_0 f1).trans (if_neg (by omega)), qM_rf, cL, rfl, t⟩
/-- THE CLASS COUNTS THE ROWS OF A PANE -/
theorem C_refresh (g : iG a) (hp : 0 ≤ p ∧ p < 4) (hP : 138 ≤ P) (cT : cTx h a) (cF : cFix h a p P) (cC : cCnt h a p P) (cL : cLd h a p P) : ∃ h2, vcl mX5_refresh [(1, P)] h = some (.inl none, h2) ∧ qF P h h2 ∧ cCnt h2 a p P ∧ cLd h2 a p P ∧ h2 714 P 0 = 1 := by
  have lin := g.1.2.1
  rcases cC.2 with c | c
  · have loop : ∀ (f l : Nat) (h1 : vH), l + f = (a 1504 282 0).toNat → qF P h h1 → cLd h1 a p P → h1 714 P 0 = 0 → h1 713 P 0 = mRA a p l → (∀ l, 0 ≤ l → l < 60 → h1 2 (P + 26) l = -1 ∨ (l < a 1504 282 0 ∧ h1 2 (P + 26) l = mRC a p l)) → (∀ j : Nat, j < l → h1 2 (P + 26) j = mRC a p j ∧ h1 2 (P + 27) j = mRA a p j) → ∃ h2, vrun mX5_refresh 15 [(1, P), (0, l)] [] h1 = some (.inl none, h2) ∧ qF P h h2 ∧ cCnt h2 a p P ∧ cLd h2 a p P ∧ h2 714 P 0 = 1 := by
      intro f
      induction f with
      | zero =>
        intro l h1 hl hF hL hic hal hlc hd
        have cT1 := cTx_qF hF hP cT
        have f1 := (cFix_qF hF cF.1 cF).1
        have en : (l : Int) = a 1504 282 0 := by omega
        have x3 : qF P h (vup h1 714 P 0 1) := fun k r i e => by
          unfold vup
          rw [if_neg (fun z => e (by omega))]
          exact hF k r i e
        refine ⟨_, ?_, x3, ⟨fun j u v => ?_, Or.inr ⟨vup_s, fun j hj => ?_, ?_⟩⟩, ?_, vup_s⟩
        · rw [rX5_refresh_15 f1 cT1.1, if_pos (by rw [cT1.2.1.1]; omega)]
          all_goals (intro z; exact absurd (show h1 1201 4 0 ≤ l by rw [cT1.2.1.1]; omega) z)
        · rw [vup_k (by decide)]; exact hlc j u v
        · rw [vup_k (by decide), vup_k (by decide)]; exact hd j (by omega)
        · rw [vup_k (by decide), hal]
          unfold mAll
          rw [show l = (a 1504 282 0).toNat by omega]
        · unfold cLd
          rw [vup_k (by decide), vup_k (by decide)]
          exact hL.imp (fun z => z) (fun z => ⟨z.1, z.2.1, z.2.2.1, cLaid_off (fun k r i u v => by unfold vup; rw [if_neg (by omega)]) z.2.2.2⟩)
      | succ f ih =>
        intro l h1 hl hF hL hic hal hlc hd
        have cT1 := cTx_qF hF hP cT
        have cF1 := cFix_qF hF cF.1 cF
        have f1 := cF1.1
        have li : (l : Int) < a 1504 282 0 := by omega
        have mc := mRC_in g.1 hp (l := l) ⟨by omega, by omega⟩
        have ma := mRA_in g.1 hp l (by omega)
        have e : mRA a p (l + 1) = mRA a p l + mRC a p l := rfl
        -- what one line adds
        have stp : ∀ h3 : vH, qF P h h3 → cLd h3 a p P → h3 714 P 0 = 0 → (∀ r, r = P + 27 → ∀ i, h3 2 r i = h1 2 r i) → h3 2 (P + 26) l = mRC a p l → (∀ j : Int, ¬ j = l → h3 2 (P + 26) j = h1 2 (P + 26) j) → ∃ h2, vrun mX5_refresh 15 [(1, P), (0, (l : Int) + 1)] [] (vup (vup h3 2 (P + 27) l (mRA a p l)) 713 P 0 (mRA a p l + mRC a p l)) = some (.inl none, h2) ∧ qF P h h2 ∧ cCnt h2 a p P ∧ cLd h2 a p P ∧ h2 714 P 0 = 1 := by
          intro h3 q1 q2 q3 q4 q5 q6
          refine ih (l + 1) _ (by omega) ?_ ?_ ?_ (vup_s.trans e.symm) ?_ ?_
          · intro k r i e
            unfold vup
            rw [if_neg (fun z => e (by omega)), if_neg (fun z => e (by omega))]
            exact q1 k r i e
          · unfold cLd
            rw [vup_k (by decide), vup_k (by decide), vup_k (by decide), vup_k (by decide)]
            exact q2.imp (fun z => z) (fun z => ⟨z.1, z.2.1, z.2.2.1, cLaid_off (fun k r i u v => by unfold vup; rw [if_neg (by omega), if_neg (by omega)]) z.2.2.2⟩)
          · rw [vup_k (by decide), vup_k (by decide)]; exact q3
          · intro j u v
            rw [vup_k (by decide), vup_r (by omega)]
            by_cases z : j = l
            · right
              rw [z]; exact ⟨li, q5⟩
            · rw [q6 j z]; exact hlc j u v
          · intro j hj
            have e1 : ∀ r i, (vup (vup h3 2 (P + 27) l (mRA a p l)) 713 P 0 (mRA a p l + mRC a p l)) 2 r i = (vup h3 2 (P + 27) l (mRA a p l)) 2 r i := fun r i => vup_k (by decide)
            rw [e1, e1, vup_r (by omega), vup_2]
            by_cases z : j = l
            · rw [z, if_pos rfl]; exact ⟨q5, rfl⟩
            · rw [if_neg (by omega), q6 j (by omega), q4 _ rfl]
              exact hd j (by omega)
        rcases hlc l (by omega) (by omega) with v | v
        · -- it has to be counted
          have o := (g.1.2.2.2 p hp.1 hp.2).1
          have iv := C_isVisible (l := l) cF1.2.1 ⟨o.2.2.2.2.1, o.2.2.2.2.2.1⟩
          have sh : h1 0 (P + 26) 0 = 1 ∧ h1 1 (P + 26) 0 = 60 := by
            obtain ⟨-, -, -, -, -, -, -, -, -, -, -, -, -, -, -, z1, z2, -⟩ := f1
            exact ⟨z1, z2⟩
          by_cases w : mInv a p l
          · have e0 : mRC a p l = 0 := if_pos w
            obtain ⟨h2, r1, r2⟩ := stp (vup h1 2 (P + 26) l 0) (fun k r i e => by
              unfold vup
              rw [if_neg (fun z => e (by omega))]
              exact hF k r i e) (by
              unfold cLd
              rw [vup_k (by decide), vup_k (by decide)]
              exact hL.imp (fun z => z) (fun z => ⟨z.1, z.2.1, z.2.2.1, cLaid_off (fun k r i u v => by unfold vup; rw [if_neg (by omega)]) z.2.2.2⟩)) ((vup_k (by decide)).trans hic) (fun r hr i => by rw [vup_r (by omega)]) (by rw [vup_s, e0]) (fun j hj => by rw [vup_2, if_neg hj])
            refine ⟨h2, ?_, r2⟩
            rw [rX5_refresh_15 f1 cT1.1, if_neg (by rw [cT1.2.1.1]; omega), if_neg (by omega), if_pos v]
            · refine (vret_v iv).trans ?_
              refine (rX5_refresh_55 (fun _ => sh.1) (by omega) (by omega) f1 (by omega) (by omega) ?_ ?_).trans ?_
              · intro _; rw [vup_r (by omega), vup_s, hal]; omega
              · intro _; rw [vup_r (by omega), vup_s, hal]; omega
              · rw [if_pos (b2i_f (fun z => z w)), vup_r (by omega), vup_s, hal, ← r1, e0]
            all_goals (try rw [hal])
            all_goals (first | (intros; omega) | assumption)
          · obtain ⟨h3, m1, m2, m3, m4⟩ := C_measured g hp cT1 cF1 hL (l := l) ⟨by omega, li⟩
            have x3 := qF_tr hF (qM_F m2)
            have f3 := shPane_sx (qM_sx m2) f1
            have l3 := m3.resolve_left (by omega)
            obtain ⟨-, -, R, rs, -⟩ := l3.2.2.2
            rw [m4] at rs
            have rc : h3 510 (P + 5) 0 = mRC a p l := by
              unfold mRC
              rw [if_neg w, rC_eq rs.1]
              exact rs.2.2.1
            have k26 : ∀ i, h3 2 (P + 26) i = h1 2 (P + 26) i := fun i => m2 _ _ _ (by omega)
            have k27 : ∀ i, h3 2 (P + 27) i = h1 2 (P + 27) i := fun i => m2 _ _ _ (by omega)
            obtain ⟨h2, r1, r2⟩ := stp (vup h3 2 (P + 26) l (mRC a p l)) (fun k r i e => by
              unfold vup
              rw [if_neg (fun z => e (by omega))]
              exact x3 k r i e) (by
              unfold cLd
              rw [vup_k (by decide), vup_k (by decide)]
              exact m3.imp (fun z => z) (fun z => ⟨z.1, z.2.1, z.2.2.1, cLaid_off (fun k r i u v => by unfold vup; rw [if_neg (by omega)]) z.2.2.2⟩)) ((vup_k (by decide)).trans ((m2 _ _ _ (by omega)).trans hic)) (fun r hr i => by rw [vup_r (by omega), hr, k27]) vup_s (fun j hj => by rw [vup_2, if_neg hj, k26])
            refine ⟨h2, ?_, r2⟩
            have al3 : h3 713 P 0 = mRA a p l := (m2 _ _ _ (by omega)).trans hal
            rw [rX5_refresh_15 f1 cT1.1, if_neg (by rw [cT1.2.1.1]; omega), if_neg (by omega), if_pos v]
            · refine (vret_v iv).trans ?_
              have b1 := b2i_t (P := ¬ mInv a p l) w
              refine (rX5_refresh_55 (by omega) (by omega) (by omega) f1 (by omega) (by omega) (by omega) (by omega)).trans ?_
              rw [if_neg (by omega)]
              refine (vret_v m1).trans ?_
              have sh3 : h3 0 (P + 26) 0 = 1 ∧ h3 1 (P + 26) 0 = 60 := ⟨(m2 _ _ _ (by omega)).trans sh.1, (m2 _ _ _ (by omega)).trans sh.2⟩
              refine (rX5_refresh_63 f3.2.2.2.2.2.1 sh3.1 (by omega) (by omega) f3 (by omega) (by omega) ?_ ?_).trans ?_
              · rw [vup_r (by omega), vup_s, al3, rc]; omega
              · rw [vup_r (by omega), vup_s, al3, rc]; omega
              · rw [vup_r (by omega), vup_s, al3, rc, ← r1]
            all_goals (try rw [hal])
            all_goals (first | (intros; omega) | assumption)
        · obtain ⟨h2, r1, r2⟩ := stp h1 hF hL hic (fun r hr i => rfl) v.2 (fun _ _ => rfl)
          refine ⟨h2, ?_, r2⟩
          rw [rX5_refresh_15 f1 cT1.1, if_neg (by rw [cT1.2.1.1]; omega), if_neg (by omega), if_neg (by omega), v.2, hal]
          · exact r1
          all_goals (try rw [v.2, hal])
          all_goals (first | (intros; omega) | assumption)
    have x0 : qF P h (vup h 713 P 0 0) := fun k r i e => by
      unfold vup
      rw [if_neg (fun z => e (by omega))]
    obtain ⟨h2, r1, r2⟩ := loop (a 1504 282 0).toNat 0 (vup h 713 P 0 0) (by omega) x0 (by
      unfold cLd
      rw [vup_k (by decide), vup_k (by decide)]
      exact cL.imp (fun z => z) (fun z => ⟨z.1, z.2.1, z.2.2.1, cLaid_off (fun k r i u v => by unfold vup; rw [if_neg (by omega)]) z.2.2.2⟩)) ((vup_k (by decide)).trans c) vup_s (fun l u v => by rw [vup_k (by decide)]; exact cC.1 l u v) (fun j hj => absurd hj (Nat.not_lt_zero j))
    refine ⟨h2, ?_, r2⟩
    exact (show _ = _ from rX5_refresh_0 cF.1).trans ((if_pos c).trans r1)
  · exact ⟨h, (show _ = _ from rX5_refresh_0 cF.1).trans (if_neg (by omega)), qF_rf, cC, cL, c.1⟩
end CPN

