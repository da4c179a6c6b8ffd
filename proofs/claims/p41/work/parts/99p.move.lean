/-! logs and the stack change: the panes tell the same -/
def kL (h h2 : vH) : Prop := ∀ (k : Nat) (r i : Int), ¬ (282 ≤ r ∧ r ≤ 281) → ¬ ((r = 0 ∧ (k = 4 ∨ k = 5)) ∨ (k = 2 ∧ 128 ≤ r ∧ r ≤ 137) ∨ (r = 3 ∧ (k = 1405 ∨ k = 1406))) → h2 k r i = h k r i
def eqL (a b : vH) : Prop := ∀ (k : Nat) (r i : Int), ¬ (k = 2 ∧ ((289 ≤ r ∧ r ≤ 292) ∨ r = 310 ∨ r = 334 ∨ r = 335)) → ¬ (r = 282 ∧ (k = 1559 ∨ k = 1500)) → b k r i = a k r i
theorem eqL_A {a b : vH} (x : eqL a b) : eqA a b := ⟨fun r i e f => x 2 r i (by omega) (by omega), x _ _ _ (by omega) (by omega), fun k r i hk => x k r i (fun z => by rw [z.1] at hk; cases hk) (fun z => by rcases z.2 with e | e <;> (rw [e] at hk; cases hk))⟩
theorem iG_L {a b : vH} (x : eqL a b) (g : iG a) : iG b := iG_a (eqL_A x) g (fun p u v => by
  rw [x 2 305 p (by omega) (by omega), x 2 306 p (by omega) (by omega), x 2 308 p (by omega) (by omega), x 2 309 p (by omega) (by omega)]
  obtain ⟨-, -, -, g4, g5, -⟩ := g.2 p u v
  exact ⟨g4, g5⟩)
section KL
variable {h h2 a b : vH} {p P : Int}
theorem cPl_kL {r st l q : Int} (x : kL h h2) (n : ¬ (282 ≤ r ∧ r ≤ 281)) (n0 : ¬ r = 0) (c : cPl h r st l q) : cPl h2 r st l q := ⟨(x _ _ _ n (by omega)).trans c.1, (x _ _ _ n (by omega)).trans c.2.1, (x _ _ _ n (by omega)).trans c.2.2⟩
theorem shLay_kL {r : Int} (x : kL h h2) (n : 138 ≤ r ∧ r + 9 < 282) (s : shLayout h r) : shLayout h2 r := by
  have e : ∀ (k : Nat) (q i : Int), r ≤ q → q ≤ r + 9 → h2 k q i = h k q i := fun k q i u v => x k q i (by omega) (by omega)
  unfold shLayout at s ⊢
  rw [e 0 r 0 (by omega) (by omega), e 500 r 0 (by omega) (by omega), e 501 r 0 (by omega) (by omega), e 502 r 0 (by omega) (by omega), e 503 r 0 (by omega) (by omega), e 504 r 0 (by omega) (by omega), e 505 r 0 (by omega) (by omega), e 506 r 0 (by omega) (by omega), e 507 r 0 (by omega) (by omega), e 508 r 0 (by omega) (by omega), e 0 (r + 1) 0 (by omega) (by omega), e 1 (r + 1) 0 (by omega) (by omega), e 0 (r + 2) 0 (by omega) (by omega), e 1 (r + 2) 0 (by omega) (by omega), e 0 (r + 3) 0 (by omega) (by omega), e 1 (r + 3) 0 (by omega) (by omega), e 0 (r + 4) 0 (by omega) (by omega), e 1 (r + 4) 0 (by omega) (by omega), e 0 (r + 5) 0 (by omega) (by omega), e 1 (r + 5) 0 (by omega) (by omega), e 0 (r + 6) 0 (by omega) (by omega), e 1 (r + 6) 0 (by omega) (by omega), e 0 (r + 7) 0 (by omega) (by omega), e 1 (r + 7) 0 (by omega) (by omega), e 0 (r + 8) 0 (by omega) (by omega), e 1 (r + 8) 0 (by omega) (by omega), e 0 (r + 9) 0 (by omega) (by omega), e 1 (r + 9) 0 (by omega) (by omega)]
  exact s
theorem shDir_kL {r : Int} (x : kL h h2) (n : 138 ≤ r ∧ r + 7 < 282) (s : shDirections h r) : shDirections h2 r := by
  have e : ∀ (k : Nat) (q i : Int), r ≤ q → q ≤ r + 7 → h2 k q i = h k q i := fun k q i u v => x k q i (by omega) (by omega)
  unfold shDirections at s ⊢
  rw [e 0 r 0 (by omega) (by omega), e 200 r 0 (by omega) (by omega), e 201 r 0 (by omega) (by omega), e 202 r 0 (by omega) (by omega), e 203 r 0 (by omega) (by omega), e 204 r 0 (by omega) (by omega), e 205 r 0 (by omega) (by omega), e 206 r 0 (by omega) (by omega), e 0 (r + 1) 0 (by omega) (by omega), e 1 (r + 1) 0 (by omega) (by omega), e 0 (r + 2) 0 (by omega) (by omega), e 1 (r + 2) 0 (by omega) (by omega), e 0 (r + 3) 0 (by omega) (by omega), e 1 (r + 3) 0 (by omega) (by omega), e 0 (r + 4) 0 (by omega) (by omega), e 1 (r + 4) 0 (by omega) (by omega), e 0 (r + 5) 0 (by omega) (by omega), e 1 (r + 5) 0 (by omega) (by omega), e 0 (r + 6) 0 (by omega) (by omega), e 1 (r + 6) 0 (by omega) (by omega), e 0 (r + 7) 0 (by omega) (by omega), e 1 (r + 7) 0 (by omega) (by omega)]
  exact s
theorem shLys_kL {r : Int} (x : kL h h2) (n : 138 ≤ r ∧ r + 3 < 282) (s : shLayers h r) : shLayers h2 r := by
  have e : ∀ (k : Nat) (q i : Int), r ≤ q → q ≤ r + 3 → h2 k q i = h k q i := fun k q i u v => x k q i (by omega) (by omega)
  unfold shLayers at s ⊢
  rw [e 0 r 0 (by omega) (by omega), e 400 r 0 (by omega) (by omega), e 401 r 0 (by omega) (by omega), e 402 r 0 (by omega) (by omega)]
  exact s
theorem shPane_kL (x : kL h h2) (n : 138 ≤ P ∧ P + 27 < 282) (s : shPane h P) : shPane h2 P := by
  have e : ∀ (k : Nat) (q i : Int), P ≤ q → q ≤ P + 27 → h2 k q i = h k q i := fun k q i u v => x k q i (by omega) (by omega)
  obtain ⟨s1, s2, s3, s4, s5, s6, s7, s8, s9, s10, s11, s12, s13, s14, s15, s16, s17, s18, s19, s20⟩ := s
  exact ⟨(e _ _ _ (by omega) (by omega)).trans s1, (e _ _ _ (by omega) (by omega)).trans s2, (e _ _ _ (by omega) (by omega)).trans s3, shLys_kL x (by omega) s4, (e _ _ _ (by omega) (by omega)).trans s5, shLay_kL x (by omega) s6, (e _ _ _ (by omega) (by omega)).trans s7, shDir_kL x (by omega) s8, (e _ _ _ (by omega) (by omega)).trans s9, (e _ _ _ (by omega) (by omega)).trans s10, (e _ _ _ (by omega) (by omega)).trans s11, (e _ _ _ (by omega) (by omega)).trans s12, (e _ _ _ (by omega) (by omega)).trans s13, (e _ _ _ (by omega) (by omega)).trans s14, (e _ _ _ (by omega) (by omega)).trans s15, (e _ _ _ (by omega) (by omega)).trans s16, (e _ _ _ (by omega) (by omega)).trans s17, (e _ _ _ (by omega) (by omega)).trans s18, (e _ _ _ (by omega) (by omega)).trans s19, (e _ _ _ (by omega) (by omega)).trans s20⟩
theorem shPic_kL {r : Int} (x : kL h h2) (n : 138 ≤ r ∧ r + 3 < 282) (s : shPicture h r) : shPicture h2 r := by
  have e : ∀ (k : Nat) (q i : Int), r ≤ q → q ≤ r + 3 → h2 k q i = h k q i := fun k q i u v => x k q i (by omega) (by omega)
  obtain ⟨s1, s2, s3, s4, s5, s6, s7, s8, s9, s10⟩ := s
  exact ⟨(e _ _ _ (by omega) (by omega)).trans s1, (e _ _ _ (by omega) (by omega)).trans s2, (e _ _ _ (by omega) (by omega)).trans s3, (e _ _ _ (by omega) (by omega)).trans s4, (e _ _ _ (by omega) (by omega)).trans s5, (e _ _ _ (by omega) (by omega)).trans s6, (e _ _ _ (by omega) (by omega)).trans s7, (e _ _ _ (by omega) (by omega)).trans s8, (e _ _ _ (by omega) (by omega)).trans s9, (e _ _ _ (by omega) (by omega)).trans s10⟩
theorem cLi_kL {r n : Int} (x : kL h h2) (hr : 1 ≤ r ∧ r < 282) (hd : h 101 r 0 = 1 ∨ 282 ≤ h 101 r 0) (c : cLi h r n) : cLi h2 r n ∧ h2 101 r 0 = h 101 r 0 ∧ ∀ j, lE h2 r j = lE h r j := by
  obtain ⟨c1, c2, c3⟩ := c
  have e1 : h2 101 r 0 = h 101 r 0 := x _ _ _ (by omega) (by omega)
  refine ⟨⟨(x 0 r 0 (by omega) (by omega)).trans c1, (x _ _ _ (by omega) (by omega)).trans c2, fun z => ?_⟩, e1, fun j => ?_⟩
  · rw [e1, x 0 _ _ (by omega) (by omega), x 1 _ _ (by omega) (by omega)]
    exact c3 z
  · unfold lE
    rw [e1, x 2 _ _ (by omega) (by omega)]
theorem cLay_kL (x : kL h h2) (hp : 0 ≤ p ∧ p < 4) (u : cUq h a) (c : cLay h a p (139 + 36 * p)) : cLay h2 a p (139 + 36 * p) ∧ ∀ t j, 0 ≤ t → t < 3 → dL h2 p t = dL h p t ∧ eL h2 p t j = eL h p t j := by
  obtain ⟨u0, u1, u2, u3, u4⟩ := u
  obtain ⟨c1, c2, c3, c4, c5, c6, c7⟩ := c
  have d0 := (u1 p 0 hp.1 hp.2 (by omega) (by omega)).1
  have d1 := (u1 p 1 hp.1 hp.2 (by omega) (by omega)).1
  have d2 := (u1 p 2 hp.1 hp.2 (by omega) (by omega)).1
  unfold dL at d0 d1 d2
  rw [show 140 + 36 * p + 0 = 139 + 36 * p + 1 by omega] at d0
  rw [show 140 + 36 * p + 1 = 139 + 36 * p + 2 by omega] at d1
  rw [show 140 + 36 * p + 2 = 139 + 36 * p + 3 by omega] at d2
  obtain ⟨l0, m0, n0⟩ := cLi_kL x (by omega) d0 c2
  obtain ⟨l1, m1, n1⟩ := cLi_kL x (by omega) d1 c3
  obtain ⟨l2, m2, n2⟩ := cLi_kL x (by omega) d2 c4
  refine ⟨⟨shLys_kL x (by omega) c1, l0, l1, l2, fun j s t => ?_, fun j s t => ?_, fun j s t => ?_⟩, fun t j t0 t3 => ?_⟩
  · have e := u3 p 0 j hp.1 hp.2 (by omega) (by omega) s (by unfold nL; rw [if_pos rfl]; exact t)
    unfold eL at e
    rw [show 140 + 36 * p + 0 = 139 + 36 * p + 1 by omega] at e
    rw [n0]
    obtain ⟨⟨k1, k2, k3, k4, k5⟩, q2, q3⟩ := c5 j s t
    exact ⟨⟨(x _ _ _ (by omega) (by omega)).trans k1, (x _ _ _ (by omega) (by omega)).trans k2, (x 0 _ _ (by omega) (by omega)).trans k3, (x _ _ _ (by omega) (by omega)).trans k4, (x 0 _ _ (by omega) (by omega)).trans k5⟩, cPl_kL x (by omega) (by omega) q2, cPl_kL x (by omega) (by omega) q3⟩
  · have e := u3 p 1 j hp.1 hp.2 (by omega) (by omega) s (by unfold nL; rw [if_neg (by decide), if_pos rfl]; exact t)
    unfold eL at e
    rw [show 140 + 36 * p + 1 = 139 + 36 * p + 2 by omega] at e
    rw [n1]
    obtain ⟨⟨k1, k2, k3⟩, q2, q3, q4⟩ := c6 j s t
    exact ⟨⟨(x _ _ _ (by omega) (by omega)).trans k1, (x _ _ _ (by omega) (by omega)).trans k2, (x 0 _ _ (by omega) (by omega)).trans k3⟩, cPl_kL x (by omega) (by omega) q2, (x _ _ _ (by omega) (by omega)).trans q3, q4⟩
  · have e := u3 p 2 j hp.1 hp.2 (by omega) (by omega) s (by unfold nL; rw [if_neg (by decide), if_neg (by decide)]; exact t)
    unfold eL at e
    rw [show 140 + 36 * p + 2 = 139 + 36 * p + 3 by omega] at e
    rw [n2]
    obtain ⟨k1, q2, q3, q4⟩ := c7 j s t
    exact ⟨(x 0 _ _ (by omega) (by omega)).trans k1, (x _ _ _ (by omega) (by omega)).trans q2, (x _ _ _ (by omega) (by omega)).trans q3, (x _ _ _ (by omega) (by omega)).trans q4⟩
  · unfold dL eL
    rcases (show t = 0 ∨ t = 1 ∨ t = 2 by omega) with z | z | z <;> subst z
    · rw [show 140 + 36 * p + 0 = 139 + 36 * p + 1 by omega]; exact ⟨m0, n0 j⟩
    · rw [show 140 + 36 * p + 1 = 139 + 36 * p + 2 by omega]; exact ⟨m1, n1 j⟩
    · rw [show 140 + 36 * p + 2 = 139 + 36 * p + 3 by omega]; exact ⟨m2, n2 j⟩
theorem cTx_kL (x : kL h h2) (c : cTx h a) : cTx h2 a := by
  obtain ⟨c1, c2, c3, c4, c5⟩ := c
  have e : ∀ i, h2 2 5 i = h 2 5 i := fun i => x _ _ _ (by omega) (by omega)
  refine ⟨⟨(x _ _ _ (by omega) (by omega)).trans c1.1, (x _ _ _ (by omega) (by omega)).trans c1.2.1, (x _ _ _ (by omega) (by omega)).trans c1.2.2.1, (x _ _ _ (by omega) (by omega)).trans c1.2.2.2⟩, ⟨(x _ _ _ (by omega) (by omega)).trans c2.1, c2.2⟩, fun i u v => ?_, fun i j u v w => ?_, fun i u v => ?_⟩
  · rw [e]
    obtain ⟨⟨k1, k2, k3, k4⟩, k5, k6⟩ := c3 i u v
    exact ⟨⟨(x _ _ _ (by omega) (by omega)).trans k1, (x _ _ _ (by omega) (by omega)).trans k2, (x _ _ _ (by omega) (by omega)).trans k3, (x _ _ _ (by omega) (by omega)).trans k4⟩, k5, k6⟩
  · rw [e, e]; exact c4 i j u v w
  · rw [e]
    obtain ⟨⟨⟨k1, k2, k3, k4⟩, d2, d3⟩, d4⟩ := c5 i u v
    have := c3 i u (by omega)
    exact ⟨⟨⟨(x _ _ _ (by omega) (by omega)).trans k1, (x _ _ _ (by omega) (by omega)).trans k2, (x _ _ _ (by omega) (by omega)).trans k3, (x _ _ _ (by omega) (by omega)).trans k4⟩, (x _ _ _ (by omega) (by omega)).trans d2, fun j s t => (x _ _ _ (by omega) (by omega)).trans (d3 j s t)⟩, (x _ _ _ (by omega) (by omega)).trans d4⟩
theorem cPan_kL (x : kL h h2) (hp : 0 ≤ p ∧ p < 4) (u : cUq h a) (c : cPan h a p) : cPan h2 a p := by
  obtain ⟨⟨c1, c2, c3, c4, c5, c6, c7, c8⟩, c9, c10⟩ := c
  have e : ∀ (k : Nat) (q i : Int), 138 + 36 * p ≤ q → q ≤ 138 + 36 * p + 35 → h2 k q i = h k q i := fun k q i s t => x k q i (by omega) (by omega)
  have ly := (cLay_kL x hp u (by rw [show 139 + 36 * p = 138 + 36 * p + 1 by omega]; exact c2)).1
  rw [show 139 + 36 * p = 138 + 36 * p + 1 by omega] at ly
  exact ⟨⟨shPane_kL x (by omega) c1, ly, cPl_kL x (by omega) (by omega) c3, cPl_kL x (by omega) (by omega) c4, (e _ _ _ (by omega) (by omega)).trans c5, (e _ _ _ (by omega) (by omega)).trans c6, (e _ _ _ (by omega) (by omega)).trans c7, (e _ _ _ (by omega) (by omega)).trans c8⟩, cCnt_off e c9, cLd_off (fun k r i s t => e k r i s (by omega)) c10⟩
theorem cPic_kL (x : kL h h2) (hp : 0 ≤ p ∧ p < 4) (c : cPic h a p (138 + 36 * p)) : cPic h2 a p (138 + 36 * p) := by
  obtain ⟨c1, c2, c3, c4, c5, c6⟩ := c
  have e : ∀ (k : Nat) (q i : Int), 138 + 36 * p ≤ q → q ≤ 138 + 36 * p + 35 → h2 k q i = h k q i := fun k q i s t => x k q i (by omega) (by omega)
  have ed := e 717 (138 + 36 * p) 0 (by omega) (by omega)
  refine ⟨shPic_kL x (by omega) c1, shPic_kL x (by omega) c2, ?_, (e _ _ _ (by omega) (by omega)).trans c4, ?_, fun k s t => ?_⟩
  · rw [ed, e 718 (138 + 36 * p) 0 (by omega) (by omega)]; exact c3
  · rw [ed, e _ _ _ (by omega) (by omega)]; exact c5
  · obtain ⟨d1, d2, d3⟩ := c6 k s t
    rw [ed, e _ _ _ (by omega) (by omega), e _ _ _ (by omega) (by omega)]
    exact ⟨d1, d2, fun c s2 t2 => (e _ _ _ (by omega) (by omega)).trans (d3 c s2 t2)⟩
theorem cAll_kL (x : kL h h2) (s : sx h h2) (y : eqL a b) (c : cAll h a) (st : cStk h2 b) (lg : cLog h2 b) : cAll h2 b := by
  have ya := eqL_A y
  obtain ⟨c1, c2, c3, c4, c5, c6⟩ := c
  have R : ∀ (r i : Int), ¬ ((289 ≤ r ∧ r ≤ 292) ∨ r = 310 ∨ r = 334 ∨ r = 335) → b 2 r i = a 2 r i := fun r i n => y 2 r i (fun z => n z.2) (by omega)
  refine ⟨shPL_sx s c1, cTx_a ya (cTx_kL x c2), fun p u v => ?_, st, lg, ?_⟩
  · obtain ⟨d1, d2, d3⟩ := c3 p u v
    obtain ⟨⟨e1, e2, e3, e4, e5, e6, e7, e8⟩, d4, d5⟩ := cPan_kL x ⟨u, v⟩ c6 d2
    obtain ⟨p1, p2, p3, p4, p5, p6⟩ := cPic_kL x ⟨u, v⟩ d3
    refine ⟨(x _ _ _ (by omega) (by omega)).trans d1, ⟨⟨e1, cLay_a ya.1 e2, ?_, ?_, ?_, ?_, ?_, ?_⟩, cCnt_a ya d4, cLd_a ya d5⟩, p1, p2, p3, ?_, ?_, fun k s t => ?_⟩
    · rw [R 305 p (by omega), R 306 p (by omega)]; exact e3
    · rw [R 308 p (by omega), R 309 p (by omega)]; exact e4
    · rw [R 307 p (by omega)]; exact e5
    · rw [R 286 p (by omega)]; exact e6
    · rw [R 287 p (by omega)]; exact e7
    · rw [R 288 p (by omega)]; exact e8
    · rw [R 330 p (by omega)]; exact p4
    · rw [R 329 p (by omega)]; exact p5
    · rw [R 329 p (by omega)] at t
      rw [R 327 (24 * p + k) (by omega), R 328 (24 * p + k) (by omega)]
      obtain ⟨q1, q2, q3⟩ := p6 k s t
      refine ⟨q1, q2, fun c s2 t2 => ?_⟩
      rw [R 326 _ (by omega)]
      exact q3 c s2 t2
  · have en : ∀ p t, nL b p t = nL a p t := fun p t => by
      unfold nL
      rw [R 293 p (by omega), R 297 p (by omega), R 301 p (by omega)]
    have cu : cUq h2 a := cUq_of (x 3 0 0 (by omega) (by omega)) (fun p t j a1 a2 a3 a4 => by
      have ly := (c3 p a1 a2).2.1.1.2.1
      rw [show 138 + 36 * p + 1 = 139 + 36 * p by omega] at ly
      have := (cLay_kL x ⟨a1, a2⟩ c6 ly).2 t j a3 a4
      exact ⟨this.1, fun _ _ => this.2⟩) c6
    obtain ⟨u0, u1, u2, u3, u4⟩ := cu
    exact ⟨u0, u1, u2, fun p t j a1 a2 a3 a4 a5 a6 => u3 p t j a1 a2 a3 a4 a5 (by rw [← en]; exact a6), fun p t j p2 t2 j2 a1 a2 a3 a4 a5 a6 b1 b2 b3 b4 b5 b6 => u4 p t j p2 t2 j2 a1 a2 a3 a4 a5 (by rw [← en]; exact a6) b1 b2 b3 b4 b5 (by rw [← en]; exact b6)⟩
end KL
/-! moves as calls -/
def tLg (a : vH) (p mv : Int) : vH := fun k r i => if a 1559 282 0 = 50 then (if k = 2 ∧ (r = 334 ∨ r = 335) ∧ 0 ≤ i ∧ i < 49 then a 2 r (i + 1) else if k = 2 ∧ r = 334 ∧ i = 49 then p else if k = 2 ∧ r = 335 ∧ i = 49 then mv else a k r i) else (if k = 2 ∧ r = 334 ∧ i = a 1559 282 0 then p else if k = 2 ∧ r = 335 ∧ i = a 1559 282 0 then mv else if k = 1559 ∧ r = 282 ∧ i = 0 then a 1559 282 0 + 1 else a k r i)
section MVC
variable {h h1 a b : vH} {p P l x y mv : Int}
theorem eqL_lg : eqL a (tLg a p mv) := by
  intro k r i e f
  unfold tLg
  split
  · rw [if_neg (by omega), if_neg (by omega), if_neg (by omega)]
  · rw [if_neg (by omega), if_neg (by omega), if_neg (by omega)]
theorem lg_n (ln : 0 ≤ a 1559 282 0 ∧ a 1559 282 0 ≤ 50) : tLg a p mv 1559 282 0 = min (a 1559 282 0 + 1) 50 := by
  unfold tLg
  split
  · rw [if_neg (by omega), if_neg (by omega), if_neg (by omega)]; omega
  · rw [if_neg (by omega), if_neg (by omega), if_pos ⟨rfl, rfl, rfl⟩]; omega
theorem lg_i (ln : 0 ≤ a 1559 282 0 ∧ a 1559 282 0 ≤ 50) {i : Int} (h0 : 0 ≤ i) (hi : i < min (a 1559 282 0 + 1) 50) : (i + 1 = min (a 1559 282 0 + 1) 50 → tLg a p mv 2 334 i = p ∧ tLg a p mv 2 335 i = mv) ∧ (i + 1 < min (a 1559 282 0 + 1) 50 → tLg a p mv 2 334 i = a 2 334 (if a 1559 282 0 = 50 then i + 1 else i) ∧ tLg a p mv 2 335 i = a 2 335 (if a 1559 282 0 = 50 then i + 1 else i)) := by
  constructor
  · intro e
    unfold tLg
    split
    · rw [if_neg (by omega), if_pos (by omega), if_neg (by omega), if_neg (by omega), if_pos (by omega)]
      exact ⟨rfl, rfl⟩
    · rw [if_pos (by omega), if_neg (by omega), if_pos (by omega)]
      exact ⟨rfl, rfl⟩
  · intro e
    unfold tLg
    split
    · rw [if_pos (by omega), if_pos (by omega)]
      exact ⟨rfl, rfl⟩
    · rw [if_neg (by omega), if_neg (by omega), if_neg (by omega), if_neg (by omega), if_neg (by omega), if_neg (by omega)]
      exact ⟨rfl, rfl⟩
theorem iH_lg (i : iH a) (hp : 0 ≤ p ∧ p < 4) (hm : 0 ≤ mv ∧ mv ≤ 7) : iH (tLg a p mv) := by
  obtain ⟨i1, i2, i3, i4, ⟨i5, i6⟩, i7, i8⟩ := i
  have y : eqL a (tLg a p mv) := eqL_lg
  have R : ∀ r : Int, ¬ (r = 334 ∨ r = 335) → tLg a p mv 2 r = a 2 r := fun r n => funext (fun i => by
    unfold tLg
    split
    · rw [if_neg (by omega), if_neg (by omega), if_neg (by omega)]
    · rw [if_neg (by omega), if_neg (by omega), if_neg (by omega)])
  have nn := lg_n (p := p) (mv := mv) i5
  unfold iH
  rw [R 289 (by decide), R 290 (by decide), R 291 (by decide), R 292 (by decide), R 310 (by decide), R 329 (by decide), R 327 (by decide), R 284 (by decide), R 283 (by decide), nn, y 1504 282 0 (by omega) (by omega)]
  refine ⟨i1, i2, i3, i4, ⟨by omega, fun j h0 hj => ?_⟩, i7, i8⟩
  obtain ⟨q1, q2⟩ := lg_i (p := p) (mv := mv) i5 h0 hj
  by_cases z : j + 1 = min (a 1559 282 0 + 1) 50
  · obtain ⟨w1, w2⟩ := q1 z
    rw [show (334 : Int) = 334 from rfl] at w1
    rw [w1, w2]; exact ⟨hp, hm⟩
  · obtain ⟨w1, w2⟩ := q2 (by omega)
    rw [w1, w2]
    exact i6 _ (by split <;> omega) (by split <;> omega)
/-- the class logs -/
theorem C_logMove (c : cAll h a) (g : iG a) : ∃ h2, vcl mX12_logMove [(1, 3), (0, p), (0, mv)] h = some (.inl none, h2) ∧ cAll h2 (tLg a p mv) ∧ (∀ (k : Nat) (r i : Int), ¬ ((k = 2 ∧ (r = 134 ∨ r = 135)) ∨ (r = 3 ∧ (k = 1405 ∨ k = 1406))) → h2 k r i = h k r i) := by
  obtain ⟨l1, l2, l3, l4⟩ := c.2.2.2.2.1
  have l1 : h 1405 3 0 = a 1559 282 0 := l1
  have l3 : 0 ≤ h 1406 3 0 ∧ h 1406 3 0 < 50 := l3
  have base := rX12_logMove_0 (x1 := p) (x2 := mv) (h := h) c.1 (by omega) (by omega) (by omega) (by omega) (by omega)
  rw [if_neg (by omega), if_neg (by omega)] at base
  have x : ∀ (k : Nat) (r i : Int), ¬ ((k = 2 ∧ (r = 134 ∨ r = 135)) ∨ (r = 3 ∧ (k = 1405 ∨ k = 1406))) → (vup (vup (vup (vup h 2 134 (h 1406 3 0) p) 2 135 (h 1406 3 0) mv) 1406 3 0 ((h 1406 3 0 + 1) % 50)) 1405 3 0 (min (h 1405 3 0 + 1) 50)) k r i = h k r i := by
    intro k r i e
    unfold vup
    rw [if_neg (by omega), if_neg (by omega), if_neg (by omega), if_neg (by omega)]
  refine ⟨_, base, ?_, x⟩
  have e5 : (vup (vup (vup (vup h 2 134 (h 1406 3 0) p) 2 135 (h 1406 3 0) mv) 1406 3 0 ((h 1406 3 0 + 1) % 50)) 1405 3 0 (min (h 1405 3 0 + 1) 50)) 1405 3 0 = min (h 1405 3 0 + 1) 50 := vup_s
  have e6 : (vup (vup (vup (vup h 2 134 (h 1406 3 0) p) 2 135 (h 1406 3 0) mv) 1406 3 0 ((h 1406 3 0 + 1) % 50)) 1405 3 0 (min (h 1405 3 0 + 1) 50)) 1406 3 0 = (h 1406 3 0 + 1) % 50 := (vup_k (by decide)).trans vup_s
  have r4 : ∀ i, (vup (vup (vup (vup h 2 134 (h 1406 3 0) p) 2 135 (h 1406 3 0) mv) 1406 3 0 ((h 1406 3 0 + 1) % 50)) 1405 3 0 (min (h 1405 3 0 + 1) 50)) 2 134 i = if i = h 1406 3 0 then p else h 2 134 i := fun i => (vup_k (by decide)).trans ((vup_k (by decide)).trans ((vup_r (by decide)).trans vup_2))
  have r5 : ∀ i, (vup (vup (vup (vup h 2 134 (h 1406 3 0) p) 2 135 (h 1406 3 0) mv) 1406 3 0 ((h 1406 3 0 + 1) % 50)) 1405 3 0 (min (h 1405 3 0 + 1) 50)) 2 135 i = if i = h 1406 3 0 then mv else h 2 135 i := fun i => (vup_k (by decide)).trans ((vup_k (by decide)).trans (vup_2.trans (by rw [vup_r (by decide)])))
  have sxx : sx h (vup (vup (vup (vup h 2 134 (h 1406 3 0) p) 2 135 (h 1406 3 0) mv) 1406 3 0 ((h 1406 3 0 + 1) % 50)) 1405 3 0 (min (h 1405 3 0 + 1) 50)) := sx_up rfl (sx_up rfl (sx_up rfl (sx_up rfl sx_rf)))
  generalize vup (vup (vup (vup h 2 134 (h 1406 3 0) p) 2 135 (h 1406 3 0) mv) 1406 3 0 ((h 1406 3 0 + 1) % 50)) 1405 3 0 (min (h 1405 3 0 + 1) 50) = h2 at *
  have y : eqL a (tLg a p mv) := eqL_lg
  have nn := lg_n (p := p) (mv := mv) l2
  refine cAll_kL (fun k r i e f => x k r i (by omega)) sxx y c (fun q u v => ?_) ⟨?_, ?_, ?_, fun i u v => ?_⟩
  · have st := c.2.2.2.1 q u v
    have R : ∀ r : Int, ¬ (r = 334 ∨ r = 335) → tLg a p mv 2 r q = a 2 r q := fun r n => by
      unfold tLg
      split
      · rw [if_neg (by omega), if_neg (by omega), if_neg (by omega)]
      · rw [if_neg (by omega), if_neg (by omega), if_neg (by omega)]
    rw [x 2 128 q (by omega), x 2 129 q (by omega), x 2 130 q (by omega), x 2 131 q (by omega), x 2 132 q (by omega), R 289 (by decide), R 290 (by decide), R 291 (by decide), R 292 (by decide), R 310 (by decide)]
    exact st
  · show h2 1405 3 0 = _
    rw [e5, nn, l1]
  · rw [nn]; omega
  · show 0 ≤ h2 1406 3 0 ∧ h2 1406 3 0 < 50
    rw [e6]; omega
  · show h2 2 134 ((h2 1406 3 0 + 50 - _ + i) % 50) = tLg a p mv 2 334 i ∧ h2 2 135 ((h2 1406 3 0 + 50 - _ + i) % 50) = tLg a p mv 2 335 i
    rw [nn] at v ⊢
    rw [e6, r4, r5]
    obtain ⟨q1, q2⟩ := lg_i (p := p) (mv := mv) l2 u v
    by_cases z : i + 1 = min (a 1559 282 0 + 1) 50
    · obtain ⟨w1, w2⟩ := q1 z
      rw [w1, w2, if_pos (by omega), if_pos (by omega)]
      exact ⟨rfl, rfl⟩
    · obtain ⟨w1, w2⟩ := q2 (by omega)
      have old := l4 (if a 1559 282 0 = 50 then i + 1 else i) (by split <;> omega) (by split <;> omega)
      have old : h 2 134 ((h 1406 3 0 + 50 - a 1559 282 0 + (if a 1559 282 0 = 50 then i + 1 else i)) % 50) = a 2 334 (if a 1559 282 0 = 50 then i + 1 else i) ∧ h 2 135 ((h 1406 3 0 + 50 - a 1559 282 0 + (if a 1559 282 0 = 50 then i + 1 else i)) % 50) = a 2 335 (if a 1559 282 0 = 50 then i + 1 else i) := old
      have ep : ((h 1406 3 0 + 1) % 50 + 50 - min (a 1559 282 0 + 1) 50 + i) % 50 = (h 1406 3 0 + 50 - a 1559 282 0 + (if a 1559 282 0 = 50 then i + 1 else i)) % 50 := by
        split <;> omega
      have np : ¬ (((h 1406 3 0 + 1) % 50 + 50 - min (a 1559 282 0 + 1) 50 + i) % 50 = h 1406 3 0) := by omega
      rw [if_neg np, if_neg np, ep, w1, w2]
      exact old
end MVC

