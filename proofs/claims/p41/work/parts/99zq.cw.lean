/-! ARRAYS OF THE REFERENCE THAT CHANGE TOGETHER -/
noncomputable def mp (b : vH) (R : Int → Prop) (lo hi : Int) (G : Int → Int → Int) : vH := fun k r i => @ite _ (k = 2 ∧ R r ∧ lo ≤ i ∧ i < hi) (Classical.propDecidable _) (G r i) (b k r i)
section MPA
variable {b h' : vH} {R : Int → Prop} {lo hi mid : Int} {G : Int → Int → Int}
theorem mp_in {r i : Int} (hr : R r) (u : lo ≤ i) (v : i < hi) : mp b R lo hi G 2 r i = G r i := if_pos ⟨rfl, hr, u, v⟩
theorem mp_k {k : Nat} {r i : Int} (n : ¬ k = 2) : mp b R lo hi G k r i = b k r i := if_neg (fun z => n z.1)
theorem mp_r {k : Nat} {r i : Int} (n : ¬ R r) : mp b R lo hi G k r i = b k r i := if_neg (fun z => n z.2.1)
theorem mp_i {k : Nat} {r i : Int} (n : ¬ (lo ≤ i ∧ i < hi)) : mp b R lo hi G k r i = b k r i := if_neg (fun z => n z.2.2)
theorem mp_0 : mp b R lo lo G = b := by
  funext k r i
  exact mp_i (by omega)
theorem mp_next (hl : lo ≤ hi) (e1 : ∀ r, R r → h' 2 r hi = G r hi) (e2 : ∀ (k : Nat) (r i : Int), ¬ (k = 2 ∧ R r ∧ i = hi) → h' k r i = mp b R lo hi G k r i) : h' = mp b R lo (hi + 1) G := by
  funext k r i
  by_cases z : k = 2 ∧ R r ∧ i = hi
  · obtain ⟨z1, z2, z3⟩ := z
    rw [z1, z3, e1 r z2, mp_in z2 hl (by omega)]
  · rw [e2 k r i z]
    by_cases y : k = 2 ∧ R r ∧ lo ≤ i ∧ i < hi
    · obtain ⟨y1, y2, y3, y4⟩ := y
      rw [y1, mp_in y2 y3 y4, mp_in y2 y3 (by omega)]
    · have n : ¬ (k = 2 ∧ R r ∧ lo ≤ i ∧ i < hi + 1) := fun w => by
        by_cases q : i = hi
        · exact z ⟨w.1, w.2.1, q⟩
        · exact y ⟨w.1, w.2.1, w.2.2.1, by omega⟩
      exact (if_neg y).trans (if_neg n).symm
end MPA
/-! WHAT THE CLASS TELLS BUT FOR WHAT A PANE HAS COUNTED AND LAID -/
def cW (h a : vH) : Prop := shPL h ∧ cTx h a ∧ (∀ p, 0 ≤ p → p < 4 → h 2 126 p = 138 + 36 * p ∧ cFix h a p (138 + 36 * p) ∧ cPic h a p (138 + 36 * p)) ∧ cStk h a ∧ cLog h a ∧ cUq h a
/-- the counts of layers -/
def cn6 (a : vH) : Prop := ∀ q, 0 ≤ q → q < 4 → (0 ≤ a 2 293 q ∧ a 2 293 q ≤ 6) ∧ (0 ≤ a 2 297 q ∧ a 2 297 q ≤ 6) ∧ (0 ≤ a 2 301 q ∧ a 2 301 q ≤ 6)
def pS (h : vH) (X l x : Int) : vH := vup (vup h 901 X 0 l) 902 X 0 x
def fS (h : vH) (X f t : Int) : vH := vup (vup h 300 X 0 f) 301 X 0 t
def aSp (a : vH) (K l f t : Int) : vH := vup (vup (vup a 2 294 K l) 2 295 K f) 2 296 K t
def aVi (a : vH) (K l x : Int) : vH := vup (vup a 2 298 K l) 2 299 K x
def aFo (a : vH) (K f t : Int) : vH := vup (vup a 2 302 K f) 2 303 K t
def aCu (a : vH) (p l x : Int) : vH := vup (vup a 2 305 p l) 2 306 p x
def aTp (a : vH) (p l x : Int) : vH := vup (vup a 2 308 p l) 2 309 p x
/-- nothing but places, folds, lists -/
def lF (h h2 : vH) : Prop := ∀ (k : Nat) (r i : Int), ¬ (((k = 901 ∨ k = 902 ∨ k = 300 ∨ k = 301 ∨ k = 100 ∨ k = 102) ∧ (138 ≤ r ∧ r ≤ 281 ∨ 282 ≤ r)) ∨ (k = 2 ∧ 282 ≤ r)) → h2 k r i = h k r i
section CWW
variable {h h2 a b : vH} {p q P Q X l x f t j st r l0 x0 : Int}
theorem cW_of (c : cAll h a) : cW h a := ⟨c.1, c.2.1, fun p u v => ⟨(c.2.2.1 p u v).1, (c.2.2.1 p u v).2.1.1, (c.2.2.1 p u v).2.2⟩, c.2.2.2⟩
theorem cAll_of (w : cW h a) (n : ∀ p, 0 ≤ p → p < 4 → cCnt h a p (138 + 36 * p) ∧ cLd h a p (138 + 36 * p)) : cAll h a := ⟨w.1, w.2.1, fun p u v => ⟨(w.2.2.1 p u v).1, ⟨(w.2.2.1 p u v).2.1, (n p u v).1, (n p u v).2⟩, (w.2.2.1 p u v).2.2⟩, w.2.2.2⟩
theorem lF_rf : lF h h := fun _ _ _ _ => rfl
theorem lF_tr {h3 : vH} (x : lF h h2) (y : lF h2 h3) : lF h h3 := fun k r i e => (y k r i e).trans (x k r i e)
theorem lF_pS (hX : 138 ≤ X ∧ X ≤ 281 ∨ 282 ≤ X) : lF h (pS h X l x) := fun k r i e => by
  unfold pS vup
  rw [if_neg (fun z => e (by omega)), if_neg (fun z => e (by omega))]
theorem lF_fS (hX : 282 ≤ X) : lF h (fS h X l x) := fun k r i e => by
  unfold fS vup
  rw [if_neg (fun z => e (by omega)), if_neg (fun z => e (by omega))]
theorem lF_sx (x : lF h h2) : sx h h2 := fun k r i e => x k r i (fun z => by
  have : stk k = false := by
    rcases (show k = 901 ∨ k = 902 ∨ k = 300 ∨ k = 301 ∨ k = 100 ∨ k = 102 ∨ k = 2 by omega) with y | y | y | y | y | y | y <;> subst y <;> rfl
  rw [this] at e
  cases e)
theorem pS_own (c : cPl h X st l0 x0) : cPl (pS h X l x) X st l x := ⟨c.1, (vup_k (by decide)).trans vup_s, vup_s⟩
theorem pS_off (n : ¬ r = X) (c : cPl h r st l0 x0) : cPl (pS h X l x) r st l0 x0 := ⟨c.1, (vup_k (by decide)).trans ((vup_r n).trans c.2.1), (vup_r n).trans ((vup_k (by decide)).trans c.2.2)⟩
theorem aSp_1 {K : Int} : aSp a K l f t 2 294 K = l ∧ aSp a K l f t 2 295 K = f ∧ aSp a K l f t 2 296 K = t := ⟨(vup_r (by decide)).trans ((vup_r (by decide)).trans vup_s), (vup_r (by decide)).trans vup_s, vup_s⟩
theorem aSp_n {K i : Int} (n : ¬ i = K) (r : Int) : aSp a K l f t 2 r i = a 2 r i := (vup_i n).trans ((vup_i n).trans (vup_i n))
theorem aVi_1 {K : Int} : aVi a K l x 2 298 K = l ∧ aVi a K l x 2 299 K = x := ⟨(vup_r (by decide)).trans vup_s, vup_s⟩
theorem aVi_n {K i : Int} (n : ¬ i = K) (r : Int) : aVi a K l x 2 r i = a 2 r i := (vup_i n).trans (vup_i n)
theorem aFo_1 {K : Int} : aFo a K l x 2 302 K = l ∧ aFo a K l x 2 303 K = x := ⟨(vup_r (by decide)).trans vup_s, vup_s⟩
theorem aFo_n {K i : Int} (n : ¬ i = K) (r : Int) : aFo a K l x 2 r i = a 2 r i := (vup_i n).trans (vup_i n)
theorem aCu_1 : aCu a p l x 2 305 p = l ∧ aCu a p l x 2 306 p = x := ⟨(vup_r (by decide)).trans vup_s, vup_s⟩
theorem aCu_n {i : Int} (n : ¬ i = p) (r : Int) : aCu a p l x 2 r i = a 2 r i := (vup_i n).trans (vup_i n)
theorem aTp_1 : aTp a p l x 2 308 p = l ∧ aTp a p l x 2 309 p = x := ⟨(vup_r (by decide)).trans vup_s, vup_s⟩
theorem aTp_n {i : Int} (n : ¬ i = p) (r : Int) : aTp a p l x 2 r i = a 2 r i := (vup_i n).trans (vup_i n)
theorem eL_s {j : Int} : lE h (138 + 36 * p + 1 + 1) j = eL h p 0 j := by
  unfold eL
  rw [show 138 + 36 * p + 1 + 1 = 140 + 36 * p + 0 by omega]
theorem eL_v {j : Int} : lE h (138 + 36 * p + 1 + 2) j = eL h p 1 j := by
  unfold eL
  rw [show 138 + 36 * p + 1 + 2 = 140 + 36 * p + 1 by omega]
theorem eL_f {j : Int} : lE h (138 + 36 * p + 1 + 3) j = eL h p 2 j := by
  unfold eL
  rw [show 138 + 36 * p + 1 + 3 = 140 + 36 * p + 2 by omega]
theorem nL_s : nL a p 0 = a 2 293 p := if_pos rfl
theorem nL_v : nL a p 1 = a 2 297 p := (if_neg (by decide)).trans (if_pos rfl)
theorem nL_f : nL a p 2 = a 2 301 p := (if_neg (by decide)).trans (if_neg (by decide))
theorem cW_eS {j : Int} (c : cW h a) (hp : 0 ≤ p ∧ p < 4) (hj : 0 ≤ j ∧ j < a 2 293 p) : 282 ≤ lE h (138 + 36 * p + 1 + 1) j := by
  have E3 := (c.2.2.2.2.2.2.2.2.1 p 0 j hp.1 hp.2 (by decide) (by decide) hj.1 (by rw [nL_s]; exact hj.2)).1
  rw [← eL_s] at E3
  exact E3
theorem cW_eV {j : Int} (c : cW h a) (hp : 0 ≤ p ∧ p < 4) (hj : 0 ≤ j ∧ j < a 2 297 p) : 282 ≤ lE h (138 + 36 * p + 1 + 2) j := by
  have E3 := (c.2.2.2.2.2.2.2.2.1 p 1 j hp.1 hp.2 (by decide) (by decide) hj.1 (by rw [nL_v]; exact hj.2)).1
  rw [← eL_v] at E3
  exact E3
theorem cW_eF {j : Int} (c : cW h a) (hp : 0 ≤ p ∧ p < 4) (hj : 0 ≤ j ∧ j < a 2 301 p) : 282 ≤ lE h (138 + 36 * p + 1 + 3) j := by
  have E3 := (c.2.2.2.2.2.2.2.2.1 p 2 j hp.1 hp.2 (by decide) (by decide) hj.1 (by rw [nL_f]; exact hj.2)).1
  rw [← eL_f] at E3
  exact E3
/-- a span goes -/
theorem cW_sp (c : cW h a) (n6 : cn6 a) (hp : 0 ≤ p ∧ p < 4) (hj : 0 ≤ j ∧ j < a 2 293 p) : cW (pS (pS h (lE h (138 + 36 * p + 1 + 1) j + 1) l f) (lE h (138 + 36 * p + 1 + 1) j + 2) l t) (aSp a (6 * p + j) l f t) := by
  obtain ⟨c1, c2, c3, c4, c5, c6⟩ := c
  obtain ⟨⟨e1, e2, e3, e4, e5⟩, -, -⟩ := (c3 p hp.1 hp.2).2.1.2.1.2.2.2.2.1 j hj.1 hj.2
  have E3 := (c6.2.2.2.1 p 0 j hp.1 hp.2 (by decide) (by decide) hj.1 (by rw [nL_s]; exact hj.2)).1
  rw [← eL_s] at E3
  have p6 := (n6 p hp.1 hp.2).1
  refine ⟨shPL_sx (sx_up rfl (sx_up rfl (sx_up rfl (sx_up rfl sx_rf)))) c1, c2, fun q u v => ?_, c4, c5, c6⟩
  obtain ⟨d1, ⟨g1, ⟨l1, l2, l3, l4, l5, l6, l7⟩, g3, g4, g5, g6, g7, g8⟩, d5⟩ := c3 q u v
  have q6 := (n6 q u v).1
  have G3 := pS_off (X := lE h (138 + 36 * p + 1 + 1) j + 2) (l := l) (x := t) (by omega) (pS_off (X := lE h (138 + 36 * p + 1 + 1) j + 1) (l := l) (x := f) (by omega) g3)
  have G4 := pS_off (X := lE h (138 + 36 * p + 1 + 1) j + 2) (l := l) (x := t) (by omega) (pS_off (X := lE h (138 + 36 * p + 1 + 1) j + 1) (l := l) (x := f) (by omega) g4)
  refine ⟨d1, ⟨g1, ⟨l1, l2, l3, l4, fun i s w => ?_, fun i s w => ?_, l7⟩, G3, G4, g5, g6, g7, g8⟩, d5⟩
  · have w : i < a 2 293 q := w
    obtain ⟨m1, m2, m3⟩ := l5 i s w
    refine ⟨m1, ?_, ?_⟩
    · show cPl (pS (pS h (lE h (138 + 36 * p + 1 + 1) j + 1) l f) (lE h (138 + 36 * p + 1 + 1) j + 2) l t) (lE h (138 + 36 * q + 1 + 1) i + 1) 1 (aSp a (6 * p + j) l f t 2 294 (6 * q + i)) (aSp a (6 * p + j) l f t 2 295 (6 * q + i))
      by_cases z : q = p ∧ i = j
      · rw [z.1, z.2] at m2 ⊢
        rw [aSp_1.1, aSp_1.2.1]
        exact pS_off (by omega) (pS_own m2)
      · have n1 : ¬ lE h (138 + 36 * q + 1 + 1) i = lE h (138 + 36 * p + 1 + 1) j := fun e => by
          rw [eL_s, eL_s] at e
          have := c6.2.2.2.2 q 0 i p 0 j u v (by decide) (by decide) s (by rw [nL_s]; exact w) hp.1 hp.2 (by decide) (by decide) hj.1 (by rw [nL_s]; exact hj.2) e
          exact z ⟨this.1, this.2.2⟩
        have n2 : ¬ lE h (138 + 36 * q + 1 + 1) i = lE h (138 + 36 * p + 1 + 1) j + 1 := fun e => by
          have k1 := m1.1
          rw [e] at k1
          have k2 : h 0 (lE h (138 + 36 * p + 1 + 1) j + 1) 0 = 28 := e3
          omega
        rw [aSp_n (by omega), aSp_n (by omega)]
        exact pS_off (by omega) (pS_off (by omega) m2)
    · show cPl (pS (pS h (lE h (138 + 36 * p + 1 + 1) j + 1) l f) (lE h (138 + 36 * p + 1 + 1) j + 2) l t) (lE h (138 + 36 * q + 1 + 1) i + 2) 0 (aSp a (6 * p + j) l f t 2 294 (6 * q + i)) (aSp a (6 * p + j) l f t 2 296 (6 * q + i))
      by_cases z : q = p ∧ i = j
      · rw [z.1, z.2] at m3 ⊢
        rw [aSp_1.1, aSp_1.2.2]
        exact pS_own (pS_off (l := l) (x := f) (by omega) m3)
      · have n1 : ¬ lE h (138 + 36 * q + 1 + 1) i = lE h (138 + 36 * p + 1 + 1) j := fun e => by
          rw [eL_s, eL_s] at e
          have := c6.2.2.2.2 q 0 i p 0 j u v (by decide) (by decide) s (by rw [nL_s]; exact w) hp.1 hp.2 (by decide) (by decide) hj.1 (by rw [nL_s]; exact hj.2) e
          exact z ⟨this.1, this.2.2⟩
        have n2 : ¬ lE h (138 + 36 * q + 1 + 1) i + 2 = lE h (138 + 36 * p + 1 + 1) j + 1 := fun e => by
          have k1 : h 0 (lE h (138 + 36 * q + 1 + 1) i + 1) 0 = 28 := m1.2.2.1
          rw [show lE h (138 + 36 * q + 1 + 1) i + 1 = lE h (138 + 36 * p + 1 + 1) j by omega] at k1
          omega
        rw [aSp_n (by omega), aSp_n (by omega)]
        exact pS_off (by omega) (pS_off (by omega) m3)
  · have w : i < a 2 297 q := w
    obtain ⟨m1, m2, m3, m4⟩ := l6 i s w
    have k1 := m1.1
    have n1 : ¬ lE h (138 + 36 * q + 1 + 2) i = lE h (138 + 36 * p + 1 + 1) j := fun e => by
      rw [e] at k1
      omega
    have n2 : ¬ lE h (138 + 36 * q + 1 + 2) i = lE h (138 + 36 * p + 1 + 1) j + 1 := fun e => by
      rw [e] at k1
      have k2 : h 0 (lE h (138 + 36 * p + 1 + 1) j + 1) 0 = 28 := e3
      omega
    have M2 := pS_off (X := lE h (138 + 36 * p + 1 + 1) j + 2) (l := l) (x := t) (by omega) (pS_off (X := lE h (138 + 36 * p + 1 + 1) j + 1) (l := l) (x := f) (by omega) m2)
    exact ⟨m1, M2, m3, m4⟩
/-- a virtual text goes -/
theorem cW_vi (c : cW h a) (n6 : cn6 a) (hp : 0 ≤ p ∧ p < 4) (hj : 0 ≤ j ∧ j < a 2 297 p) : cW (pS h (lE h (138 + 36 * p + 1 + 2) j + 1) l x) (aVi a (6 * p + j) l x) := by
  obtain ⟨c1, c2, c3, c4, c5, c6⟩ := c
  obtain ⟨⟨e1, e2, e3⟩, -, -⟩ := (c3 p hp.1 hp.2).2.1.2.1.2.2.2.2.2.1 j hj.1 hj.2
  have E3 := (c6.2.2.2.1 p 1 j hp.1 hp.2 (by decide) (by decide) hj.1 (by rw [nL_v]; exact hj.2)).1
  rw [← eL_v] at E3
  have p6 := (n6 p hp.1 hp.2).2.1
  refine ⟨shPL_sx (sx_up rfl (sx_up rfl sx_rf)) c1, c2, fun q u v => ?_, c4, c5, c6⟩
  obtain ⟨d1, ⟨g1, ⟨l1, l2, l3, l4, l5, l6, l7⟩, g3, g4, g5, g6, g7, g8⟩, d5⟩ := c3 q u v
  have q6 := (n6 q u v).2.1
  have G3 := pS_off (X := lE h (138 + 36 * p + 1 + 2) j + 1) (l := l) (x := x) (by omega) g3
  have G4 := pS_off (X := lE h (138 + 36 * p + 1 + 2) j + 1) (l := l) (x := x) (by omega) g4
  refine ⟨d1, ⟨g1, ⟨l1, l2, l3, l4, fun i s w => ?_, fun i s w => ?_, l7⟩, G3, G4, g5, g6, g7, g8⟩, d5⟩
  · have w : i < a 2 293 q := w
    obtain ⟨m1, m2, m3⟩ := l5 i s w
    have k1 := m1.1
    have k2 : h 0 (lE h (138 + 36 * q + 1 + 1) i + 1) 0 = 28 := m1.2.2.1
    have n1 : ¬ lE h (138 + 36 * q + 1 + 1) i = lE h (138 + 36 * p + 1 + 2) j := fun e => by
      rw [e] at k1
      omega
    have n2 : ¬ lE h (138 + 36 * q + 1 + 1) i + 1 = lE h (138 + 36 * p + 1 + 2) j := fun e => by
      rw [e] at k2
      omega
    have M2 := pS_off (X := lE h (138 + 36 * p + 1 + 2) j + 1) (l := l) (x := x) (by omega) m2
    have M3 := pS_off (X := lE h (138 + 36 * p + 1 + 2) j + 1) (l := l) (x := x) (by omega) m3
    exact ⟨m1, M2, M3⟩
  · have w : i < a 2 297 q := w
    obtain ⟨m1, m2, m3, m4⟩ := l6 i s w
    refine ⟨m1, ?_, m3, m4⟩
    show cPl (pS h (lE h (138 + 36 * p + 1 + 2) j + 1) l x) (lE h (138 + 36 * q + 1 + 2) i + 1) 0 (aVi a (6 * p + j) l x 2 298 (6 * q + i)) (aVi a (6 * p + j) l x 2 299 (6 * q + i))
    by_cases z : q = p ∧ i = j
    · rw [z.1, z.2] at m2 ⊢
      rw [aVi_1.1, aVi_1.2]
      exact pS_own m2
    · have n1 : ¬ lE h (138 + 36 * q + 1 + 2) i = lE h (138 + 36 * p + 1 + 2) j := fun e => by
        rw [eL_v, eL_v] at e
        have := c6.2.2.2.2 q 1 i p 1 j u v (by decide) (by decide) s (by rw [nL_v]; exact w) hp.1 hp.2 (by decide) (by decide) hj.1 (by rw [nL_v]; exact hj.2) e
        exact z ⟨this.1, this.2.2⟩
      rw [aVi_n (by omega), aVi_n (by omega)]
      exact pS_off (by omega) m2
/-- a fold goes -/
theorem cW_fo (c : cW h a) (n6 : cn6 a) (hp : 0 ≤ p ∧ p < 4) (hj : 0 ≤ j ∧ j < a 2 301 p) : cW (fS h (lE h (138 + 36 * p + 1 + 3) j) f t) (aFo a (6 * p + j) f t) := by
  obtain ⟨c1, c2, c3, c4, c5, c6⟩ := c
  have p6 := (n6 p hp.1 hp.2).2.2
  refine ⟨shPL_sx (sx_up rfl (sx_up rfl sx_rf)) c1, c2, fun q u v => ?_, c4, c5, c6⟩
  obtain ⟨d1, ⟨g1, ⟨l1, l2, l3, l4, l5, l6, l7⟩, g3, g4, g5, g6, g7, g8⟩, d5⟩ := c3 q u v
  have q6 := (n6 q u v).2.2
  refine ⟨d1, ⟨g1, ⟨l1, l2, l3, l4, l5, l6, fun i s w => ?_⟩, g3, g4, g5, g6, g7, g8⟩, d5⟩
  have w : i < a 2 301 q := w
  obtain ⟨m1, m2, m3, m4⟩ := l7 i s w
  refine ⟨m1, ?_, ?_, m4⟩
  · show fS h (lE h (138 + 36 * p + 1 + 3) j) f t 300 (lE h (138 + 36 * q + 1 + 3) i) 0 = aFo a (6 * p + j) f t 2 302 (6 * q + i)
    by_cases z : q = p ∧ i = j
    · rw [z.1, z.2, aFo_1.1]
      exact (vup_k (by decide)).trans vup_s
    · have n1 : ¬ lE h (138 + 36 * q + 1 + 3) i = lE h (138 + 36 * p + 1 + 3) j := fun e => by
        rw [eL_f, eL_f] at e
        have := c6.2.2.2.2 q 2 i p 2 j u v (by decide) (by decide) s (by rw [nL_f]; exact w) hp.1 hp.2 (by decide) (by decide) hj.1 (by rw [nL_f]; exact hj.2) e
        exact z ⟨this.1, this.2.2⟩
      rw [aFo_n (by omega)]
      exact (vup_k (by decide)).trans ((vup_r n1).trans m2)
  · show fS h (lE h (138 + 36 * p + 1 + 3) j) f t 301 (lE h (138 + 36 * q + 1 + 3) i) 0 = aFo a (6 * p + j) f t 2 303 (6 * q + i)
    by_cases z : q = p ∧ i = j
    · rw [z.1, z.2, aFo_1.2]
      exact vup_s
    · have n1 : ¬ lE h (138 + 36 * q + 1 + 3) i = lE h (138 + 36 * p + 1 + 3) j := fun e => by
        rw [eL_f, eL_f] at e
        have := c6.2.2.2.2 q 2 i p 2 j u v (by decide) (by decide) s (by rw [nL_f]; exact w) hp.1 hp.2 (by decide) (by decide) hj.1 (by rw [nL_f]; exact hj.2) e
        exact z ⟨this.1, this.2.2⟩
      rw [aFo_n (by omega)]
      exact (vup_r n1).trans ((vup_k (by decide)).trans m3)
/-- a cursor goes, a top goes -/
theorem lay_pS (c6 : cUq h a) (hX : X < 282) (hq : 0 ≤ q ∧ q < 4) (g2 : cLay h a q (138 + 36 * q + 1)) : cLay (pS h X l x) a q (138 + 36 * q + 1) := by
  obtain ⟨l1, l2, l3, l4, l5, l6, l7⟩ := g2
  refine ⟨l1, l2, l3, l4, fun i s w => ?_, fun i s w => ?_, l7⟩
  · obtain ⟨m1, m2, m3⟩ := l5 i s w
    have E3 := (c6.2.2.2.1 q 0 i hq.1 hq.2 (by decide) (by decide) s (by rw [nL_s]; exact w)).1
    rw [← eL_s] at E3
    have M2 := pS_off (X := X) (l := l) (x := x) (by omega) m2
    have M3 := pS_off (X := X) (l := l) (x := x) (by omega) m3
    exact ⟨m1, M2, M3⟩
  · obtain ⟨m1, m2, m3, m4⟩ := l6 i s w
    have E3 := (c6.2.2.2.1 q 1 i hq.1 hq.2 (by decide) (by decide) s (by rw [nL_v]; exact w)).1
    rw [← eL_v] at E3
    have M2 := pS_off (X := X) (l := l) (x := x) (by omega) m2
    exact ⟨m1, M2, m3, m4⟩
theorem cW_cu (c : cW h a) (hp : 0 ≤ p ∧ p < 4) : cW (pS h (138 + 36 * p + 23) l x) (aCu a p l x) := by
  obtain ⟨c1, c2, c3, c4, c5, c6⟩ := c
  refine ⟨shPL_sx (sx_up rfl (sx_up rfl sx_rf)) c1, c2, fun q u v => ?_, c4, c5, c6⟩
  obtain ⟨d1, ⟨g1, g2, g3, g4, g5, g6, g7, g8⟩, d5⟩ := c3 q u v
  have G4 := pS_off (X := 138 + 36 * p + 23) (l := l) (x := x) (by omega) g4
  have L := lay_pS (X := 138 + 36 * p + 23) (l := l) (x := x) c6 (by omega) ⟨u, v⟩ g2
  refine ⟨d1, ⟨g1, L, ?_, G4, g5, g6, g7, g8⟩, d5⟩
  show cPl (pS h (138 + 36 * p + 23) l x) (138 + 36 * q + 23) 0 (aCu a p l x 2 305 q) (aCu a p l x 2 306 q)
  by_cases z : q = p
  · rw [z] at g3 ⊢
    rw [aCu_1.1, aCu_1.2]
    exact pS_own g3
  · rw [aCu_n z, aCu_n z]
    exact pS_off (by omega) g3
theorem cW_tp (c : cW h a) (hp : 0 ≤ p ∧ p < 4) : cW (pS h (138 + 36 * p + 24) l x) (aTp a p l x) := by
  obtain ⟨c1, c2, c3, c4, c5, c6⟩ := c
  refine ⟨shPL_sx (sx_up rfl (sx_up rfl sx_rf)) c1, c2, fun q u v => ?_, c4, c5, c6⟩
  obtain ⟨d1, ⟨g1, g2, g3, g4, g5, g6, g7, g8⟩, d5⟩ := c3 q u v
  have G3 := pS_off (X := 138 + 36 * p + 24) (l := l) (x := x) (by omega) g3
  have L := lay_pS (X := 138 + 36 * p + 24) (l := l) (x := x) c6 (by omega) ⟨u, v⟩ g2
  refine ⟨d1, ⟨g1, L, G3, ?_, g5, g6, g7, g8⟩, d5⟩
  show cPl (pS h (138 + 36 * p + 24) l x) (138 + 36 * q + 24) 0 (aTp a p l x 2 308 q) (aTp a p l x 2 309 q)
  by_cases z : q = p
  · rw [z] at g4 ⊢
    rw [aTp_1.1, aTp_1.2]
    exact pS_own g4
  · rw [aTp_n z, aTp_n z]
    exact pS_off (by omega) g4
end CWW

