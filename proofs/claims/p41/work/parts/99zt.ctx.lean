/-! the text changes: the class's panes are the same -/
def tF (h h2 : vH) : Prop := ∀ (k : Nat) (r i : Int), ¬ (4 ≤ r ∧ r ≤ 125) → h2 k r i = h k r i
def eqTx (a b : vH) : Prop := ∀ (k : Nat) (r i : Int), ¬ (k = 2 ∧ 283 ≤ r ∧ r ≤ 285) → ¬ (r = 282 ∧ (k = 1504 ∨ k = 1500)) → b k r i = a k r i
/-- signs of the reference go on by one -/
def sgR (a : vH) (k e : Int) : vH := fun kk r i => if kk = 2 ∧ r = 283 ∧ k < i ∧ i ≤ e then a 2 283 (i - 1) else a kk r i
/-- a sign is put in -/
def tI (a : vH) (l x s : Int) : vH := vup (vup (sgR a (80 * l + x) (80 * l + a 2 284 l)) 2 283 (80 * l + x) s) 2 284 l (a 2 284 l + 1)
section CTX
variable {h h2 a b : vH} {p q P Q X l x s f t j st r l0 x0 : Int}
theorem cPl_tF (x : tF h h2) (n : 126 ≤ r) (c : cPl h r st l q) : cPl h2 r st l q := ⟨(x _ _ _ (by omega)).trans c.1, (x _ _ _ (by omega)).trans c.2.1, (x _ _ _ (by omega)).trans c.2.2⟩
theorem cLi_tF {r n : Int} (x : tF h h2) (hr : 126 ≤ r) (hd : h 101 r 0 = 1 ∨ 282 ≤ h 101 r 0) (c : cLi h r n) : cLi h2 r n ∧ h2 101 r 0 = h 101 r 0 ∧ ∀ j, lE h2 r j = lE h r j := by
  obtain ⟨c1, c2, c3⟩ := c
  have e1 : h2 101 r 0 = h 101 r 0 := x _ _ _ (by omega)
  refine ⟨⟨(x 0 r 0 (by omega)).trans c1, (x _ _ _ (by omega)).trans c2, fun z => ?_⟩, e1, fun j => ?_⟩
  · rw [e1, x 0 _ _ (by omega), x 1 _ _ (by omega)]
    exact c3 z
  · unfold lE
    rw [e1, x 2 _ _ (by omega)]
theorem cLay_tF (x : tF h h2) (X : sx h h2) (hp : 0 ≤ p ∧ p < 4) (u : cUq h a) (c : cLay h a p (138 + 36 * p + 1)) : cLay h2 a p (138 + 36 * p + 1) ∧ ∀ t j, 0 ≤ t → t < 3 → dL h2 p t = dL h p t ∧ eL h2 p t j = eL h p t j := by
  obtain ⟨u0, u1, u2, u3, u4⟩ := u
  obtain ⟨c1, c2, c3, c4, c5, c6, c7⟩ := c
  have d0 := (u1 p 0 hp.1 hp.2 (by omega) (by omega)).1
  have d1 := (u1 p 1 hp.1 hp.2 (by omega) (by omega)).1
  have d2 := (u1 p 2 hp.1 hp.2 (by omega) (by omega)).1
  unfold dL at d0 d1 d2
  rw [show 140 + 36 * p + 0 = 138 + 36 * p + 1 + 1 by omega] at d0
  rw [show 140 + 36 * p + 1 = 138 + 36 * p + 1 + 2 by omega] at d1
  rw [show 140 + 36 * p + 2 = 138 + 36 * p + 1 + 3 by omega] at d2
  obtain ⟨l0, m0, n0⟩ := cLi_tF x (by omega) d0 c2
  obtain ⟨l1, m1, n1⟩ := cLi_tF x (by omega) d1 c3
  obtain ⟨l2, m2, n2⟩ := cLi_tF x (by omega) d2 c4
  refine ⟨⟨shLayers_sx X c1, l0, l1, l2, fun j s t => ?_, fun j s t => ?_, fun j s t => ?_⟩, fun t j t0 t3 => ?_⟩
  · have e := u3 p 0 j hp.1 hp.2 (by omega) (by omega) s (by rw [nL_s]; exact t)
    rw [← eL_s] at e
    rw [n0]
    obtain ⟨k1, q2, q3⟩ := c5 j s t
    exact ⟨shSpan_sx X k1, cPl_tF x (by omega) q2, cPl_tF x (by omega) q3⟩
  · have e := u3 p 1 j hp.1 hp.2 (by omega) (by omega) s (by rw [nL_v]; exact t)
    rw [← eL_v] at e
    rw [n1]
    obtain ⟨k1, q2, q3, q4⟩ := c6 j s t
    exact ⟨shVirtual_sx X k1, cPl_tF x (by omega) q2, (x _ _ _ (by omega)).trans q3, q4⟩
  · have e := u3 p 2 j hp.1 hp.2 (by omega) (by omega) s (by rw [nL_f]; exact t)
    rw [← eL_f] at e
    rw [n2]
    obtain ⟨k1, q2, q3, q4⟩ := c7 j s t
    exact ⟨shFold_sx X k1, (x _ _ _ (by omega)).trans q2, (x _ _ _ (by omega)).trans q3, (x _ _ _ (by omega)).trans q4⟩
  · unfold dL eL
    rcases (show t = 0 ∨ t = 1 ∨ t = 2 by omega) with z | z | z <;> subst z
    · rw [show 140 + 36 * p + 0 = 138 + 36 * p + 1 + 1 by omega]; exact ⟨m0, n0 j⟩
    · rw [show 140 + 36 * p + 1 = 138 + 36 * p + 1 + 2 by omega]; exact ⟨m1, n1 j⟩
    · rw [show 140 + 36 * p + 2 = 138 + 36 * p + 1 + 3 by omega]; exact ⟨m2, n2 j⟩
/-- the text changes on both sides -/
theorem cW_tx (x : tF h h2) (X : sx h h2) (y : eqTx a b) (c : cW h a) (tx : cTx h2 b) : cW h2 b := by
  obtain ⟨c1, c2, c3, c4, c5, c6⟩ := c
  have key : ∀ h0 : vH, cTx h0 b → shPL h0 → (∀ p, 0 ≤ p → p < 4 → h0 2 126 p = 138 + 36 * p ∧ cFix h0 a p (138 + 36 * p) ∧ cPic h0 a p (138 + 36 * p)) → cStk h0 a → cLog h0 a → cUq h0 a → cW h0 b := by
    intro h0 t0 s0 s1 s2 s3 s4
    have R : ∀ r i : Int, 286 ≤ r → b 2 r i = a 2 r i := fun r i u => y 2 r i (by omega) (by omega)
    have en : b 1559 282 0 = a 1559 282 0 := y _ _ _ (by decide) (by decide)
    refine ⟨s0, t0, fun p u v => ?_, fun p u v => ?_, ?_, ?_⟩
    · obtain ⟨d1, ⟨e1, ⟨l1, l2, l3, l4, l5, l6, l7⟩, e3, e4, e5, e6, e7, e8⟩, p1, p2, p3, p4, p5, p6⟩ := s1 p u v
      have es := R 293 p (by decide)
      have ev := R 297 p (by decide)
      have ef := R 301 p (by decide)
      refine ⟨d1, ⟨e1, ⟨l1, by rw [es]; exact l2, by rw [ev]; exact l3, by rw [ef]; exact l4, fun j s t => ?_, fun j s t => ?_, fun j s t => ?_⟩, ?_, ?_, ?_, ?_, ?_, ?_⟩, p1, p2, p3, ?_, ?_, fun k s t => ?_⟩
      · rw [es] at t
        rw [R 294 _ (by decide), R 295 _ (by decide), R 296 _ (by decide)]
        exact l5 j s t
      · rw [ev] at t
        rw [R 298 _ (by decide), R 299 _ (by decide), R 300 _ (by decide)]
        exact l6 j s t
      · rw [ef] at t
        rw [R 302 _ (by decide), R 303 _ (by decide), R 304 _ (by decide)]
        exact l7 j s t
      · rw [R 305 p (by decide), R 306 p (by decide)]; exact e3
      · rw [R 308 p (by decide), R 309 p (by decide)]; exact e4
      · rw [R 307 p (by decide)]; exact e5
      · rw [R 286 p (by decide)]; exact e6
      · rw [R 287 p (by decide)]; exact e7
      · rw [R 288 p (by decide)]; exact e8
      · rw [R 330 p (by decide)]; exact p4
      · rw [R 329 p (by decide)]; exact p5
      · rw [R 329 p (by decide)] at t
        rw [R 327 (24 * p + k) (by decide), R 328 (24 * p + k) (by decide)]
        obtain ⟨q1, q2, q3⟩ := p6 k s t
        refine ⟨q1, q2, fun c s2 t2 => ?_⟩
        rw [R 326 _ (by decide)]
        exact q3 c s2 t2
    · rw [R 289 p (by decide), R 290 p (by decide), R 291 p (by decide), R 292 p (by decide), R 310 p (by decide)]
      exact s2 p u v
    · obtain ⟨l1, l2, l3, l4⟩ := s3
      refine ⟨by rw [en]; exact l1, by rw [en]; exact l2, l3, fun i u v => ?_⟩
      rw [en] at v
      rw [en, R 334 i (by decide), R 335 i (by decide)]
      exact l4 i u v
    · have en : ∀ p t, nL b p t = nL a p t := fun p t => by
        unfold nL
        rw [R 293 p (by decide), R 297 p (by decide), R 301 p (by decide)]
      obtain ⟨u0, u1, u2, u3, u4⟩ := s4
      exact ⟨u0, u1, u2, fun p t j a1 a2 a3 a4 a5 a6 => u3 p t j a1 a2 a3 a4 a5 (by rw [← en]; exact a6), fun p t j p2 t2 j2 a1 a2 a3 a4 a5 a6 b1 b2 b3 b4 b5 b6 => u4 p t j p2 t2 j2 a1 a2 a3 a4 a5 (by rw [← en]; exact a6) b1 b2 b3 b4 b5 (by rw [← en]; exact b6)⟩
  refine key h2 tx (shPL_sx X c1) (fun q u v => ?_) (fun q u v => ?_) ?_ ?_
  · obtain ⟨d1, ⟨g1, g2, g3, g4, g5, g6, g7, g8⟩, p1, p2, p3, p4, p5, p6⟩ := c3 q u v
    have ed : h2 717 (138 + 36 * q) 0 = h 717 (138 + 36 * q) 0 := x _ _ _ (by omega)
    refine ⟨(x _ _ _ (by omega)).trans d1, ⟨shPane_sx X g1, (cLay_tF x X ⟨u, v⟩ c6 g2).1, cPl_tF x (by omega) g3, cPl_tF x (by omega) g4, (x _ _ _ (by omega)).trans g5, (x _ _ _ (by omega)).trans g6, (x _ _ _ (by omega)).trans g7, (x _ _ _ (by omega)).trans g8⟩, shPicture_sx X p1, shPicture_sx X p2, ?_, (x _ _ _ (by omega)).trans p4, ?_, fun k s t => ?_⟩
    · rw [ed, x 718 (138 + 36 * q) 0 (by omega)]; exact p3
    · rw [ed, x 803 _ _ (by omega)]; exact p5
    · obtain ⟨q1, q2, q3⟩ := p6 k s t
      rw [ed, x 2 (h 717 (138 + 36 * q) 0 + 2) _ (by omega), x 2 (h 717 (138 + 36 * q) 0 + 3) _ (by omega)]
      refine ⟨q1, q2, fun c s2 t2 => ?_⟩
      rw [x 2 (h 717 (138 + 36 * q) 0 + 1) _ (by omega)]
      exact q3 c s2 t2
  · rw [x 2 128 q (by omega), x 2 129 q (by omega), x 2 130 q (by omega), x 2 131 q (by omega), x 2 132 q (by omega)]
    exact c4 q u v
  · obtain ⟨l1, l2, l3, l4⟩ := c5
    have ex : h2 1406 3 0 = h 1406 3 0 := x _ _ _ (by omega)
    refine ⟨(x _ _ _ (by omega)).trans l1, l2, by rw [ex]; exact l3, fun i u v => ?_⟩
    rw [ex, x 2 134 _ (by omega), x 2 135 _ (by omega)]
    exact l4 i u v
  · exact cUq_of (x 3 0 0 (by omega)) (fun q t j a1 a2 a3 a4 => by
      have := (cLay_tF x X ⟨a1, a2⟩ c6 (c3 q a1 a2).2.1.2.1).2 t j a3 a4
      exact ⟨this.1, fun _ _ => this.2⟩) c6
end CTX

