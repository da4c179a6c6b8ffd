/-! ALL THAT THE CLASS TELLS OF THE REFERENCE -/
/-- the length of a list of a pane: spans, virtual texts, folds -/
def nL (a : vH) (p t : Int) : Int := if t = 0 then a 2 293 p else if t = 1 then a 2 297 p else a 2 301 p
def dL (h : vH) (p t : Int) : Int := h 101 (140 + 36 * p + t) 0
def eL (h : vH) (p t j : Int) : Int := lE h (140 + 36 * p + t) j
/-- the elements of all lists are objects of their own -/
def cUq (h a : vH) : Prop := 282 ≤ h 3 0 0 ∧
  (∀ p t, 0 ≤ p → p < 4 → 0 ≤ t → t < 3 → (dL h p t = 1 ∨ 282 ≤ dL h p t) ∧ dL h p t < h 3 0 0) ∧
  (∀ p t p2 t2, 0 ≤ p → p < 4 → 0 ≤ t → t < 3 → 0 ≤ p2 → p2 < 4 → 0 ≤ t2 → t2 < 3 → dL h p t = dL h p2 t2 → dL h p t = 1 ∨ (p = p2 ∧ t = t2)) ∧
  (∀ p t j, 0 ≤ p → p < 4 → 0 ≤ t → t < 3 → 0 ≤ j → j < nL a p t → 282 ≤ eL h p t j ∧ eL h p t j + (3 - t) ≤ h 3 0 0) ∧
  (∀ p t j p2 t2 j2, 0 ≤ p → p < 4 → 0 ≤ t → t < 3 → 0 ≤ j → j < nL a p t → 0 ≤ p2 → p2 < 4 → 0 ≤ t2 → t2 < 3 → 0 ≤ j2 → j2 < nL a p2 t2 → eL h p t j = eL h p2 t2 j2 → p = p2 ∧ t = t2 ∧ j = j2)
def cLog (h a : vH) : Prop := h 1405 3 0 = a 1559 282 0 ∧ (0 ≤ a 1559 282 0 ∧ a 1559 282 0 ≤ 50) ∧ (0 ≤ h 1406 3 0 ∧ h 1406 3 0 < 50) ∧ ∀ i, 0 ≤ i → i < a 1559 282 0 → h 2 134 ((h 1406 3 0 + 50 - a 1559 282 0 + i) % 50) = a 2 334 i ∧ h 2 135 ((h 1406 3 0 + 50 - a 1559 282 0 + i) % 50) = a 2 335 i
def cPic (h a : vH) (p P : Int) : Prop := shPicture h (P + 28) ∧ shPicture h (P + 32) ∧ (h 717 P 0 = P + 28 ∧ h 718 P 0 = P + 32 ∨ h 717 P 0 = P + 32 ∧ h 718 P 0 = P + 28) ∧ h 719 P 0 = a 2 330 p ∧ h 803 (h 717 P 0) 0 = a 2 329 p ∧ ∀ k, 0 ≤ k → k < a 2 329 p → h 2 (h 717 P 0 + 2) k = a 2 327 (24 * p + k) ∧ h 2 (h 717 P 0 + 3) k = a 2 328 (24 * p + k) ∧ ∀ c, 0 ≤ c → c < a 2 327 (24 * p + k) → h 2 (h 717 P 0 + 1) (k * 131 + c) = a 2 326 (132 * (24 * p + k) + c)
def cStk (h a : vH) : Prop := ∀ p, 0 ≤ p → p < 4 → (h 2 128 p = a 2 289 p ∧ h 2 129 p = a 2 290 p ∧ h 2 130 p = a 2 291 p ∧ h 2 131 p = a 2 292 p) ∧ h 2 132 p = a 2 310 p
def cPan (h a : vH) (p : Int) : Prop := cFix h a p (138 + 36 * p) ∧ cCnt h a p (138 + 36 * p) ∧ cLd h a p (138 + 36 * p)
def cAll (h a : vH) : Prop := shPL h ∧ cTx h a ∧ (∀ p, 0 ≤ p → p < 4 → h 2 126 p = 138 + 36 * p ∧ cPan h a p ∧ cPic h a p (138 + 36 * p)) ∧ cStk h a ∧ cLog h a ∧ cUq h a
/-- the reference but for what is scratch -/
abbrev sA2 : List Int := 331 :: 332 :: 333 :: 336 :: 337 :: sA
abbrev sT2 : List Nat := 1562 :: sT
def rfE (a b : vH) : Prop := ∀ (k : Nat) (r i : Int), 282 ≤ r → r ≤ 337 → ¬ (k = 2 ∧ r ∈ sA2) → ¬ (r = 282 ∧ k ∈ sT2) → b k r i = a k r i
/-- the class's part is the same -/
def kC (h h2 : vH) : Prop := ∀ (k : Nat) (r i : Int), ¬ (282 ≤ r ∧ r ≤ 281) → ¬ (r = 0 ∧ (k = 4 ∨ k = 5)) → h2 k r i = h k r i
theorem kC_exc {h : vH} : kC h (vexc h) := fun k r i _ f => by
  unfold vexc
  rw [if_neg (fun z => f ⟨z.1, Or.inl z.2.2⟩), if_neg (fun z => f ⟨z.1, Or.inr z.2.2⟩)]
section ALL
variable {h h2 a b : vH} {p P : Int}
theorem cPl_kC {r st l q : Int} (x : kC h h2) (n : ¬ (282 ≤ r ∧ r ≤ 281)) (n0 : ¬ r = 0) (c : cPl h r st l q) : cPl h2 r st l q := ⟨(x _ _ _ n (by omega)).trans c.1, (x _ _ _ n (by omega)).trans c.2.1, (x _ _ _ n (by omega)).trans c.2.2⟩
theorem shLay_kC {r : Int} (x : kC h h2) (n : 1 ≤ r ∧ r + 9 < 282) (s : shLayout h r) : shLayout h2 r := by
  have e : ∀ (k : Nat) (q i : Int), r ≤ q → q ≤ r + 9 → h2 k q i = h k q i := fun k q i u v => x k q i (by omega) (by omega)
  unfold shLayout at s ⊢
  rw [e 0 r 0 (by omega) (by omega), e 500 r 0 (by omega) (by omega), e 501 r 0 (by omega) (by omega), e 502 r 0 (by omega) (by omega), e 503 r 0 (by omega) (by omega), e 504 r 0 (by omega) (by omega), e 505 r 0 (by omega) (by omega), e 506 r 0 (by omega) (by omega), e 507 r 0 (by omega) (by omega), e 508 r 0 (by omega) (by omega), e 0 (r + 1) 0 (by omega) (by omega), e 1 (r + 1) 0 (by omega) (by omega), e 0 (r + 2) 0 (by omega) (by omega), e 1 (r + 2) 0 (by omega) (by omega), e 0 (r + 3) 0 (by omega) (by omega), e 1 (r + 3) 0 (by omega) (by omega), e 0 (r + 4) 0 (by omega) (by omega), e 1 (r + 4) 0 (by omega) (by omega), e 0 (r + 5) 0 (by omega) (by omega), e 1 (r + 5) 0 (by omega) (by omega), e 0 (r + 6) 0 (by omega) (by omega), e 1 (r + 6) 0 (by omega) (by omega), e 0 (r + 7) 0 (by omega) (by omega), e 1 (r + 7) 0 (by omega) (by omega), e 0 (r + 8) 0 (by omega) (by omega), e 1 (r + 8) 0 (by omega) (by omega), e 0 (r + 9) 0 (by omega) (by omega), e 1 (r + 9) 0 (by omega) (by omega)]
  exact s
theorem shDir_kC {r : Int} (x : kC h h2) (n : 1 ≤ r ∧ r + 7 < 282) (s : shDirections h r) : shDirections h2 r := by
  have e : ∀ (k : Nat) (q i : Int), r ≤ q → q ≤ r + 7 → h2 k q i = h k q i := fun k q i u v => x k q i (by omega) (by omega)
  unfold shDirections at s ⊢
  rw [e 0 r 0 (by omega) (by omega), e 200 r 0 (by omega) (by omega), e 201 r 0 (by omega) (by omega), e 202 r 0 (by omega) (by omega), e 203 r 0 (by omega) (by omega), e 204 r 0 (by omega) (by omega), e 205 r 0 (by omega) (by omega), e 206 r 0 (by omega) (by omega), e 0 (r + 1) 0 (by omega) (by omega), e 1 (r + 1) 0 (by omega) (by omega), e 0 (r + 2) 0 (by omega) (by omega), e 1 (r + 2) 0 (by omega) (by omega), e 0 (r + 3) 0 (by omega) (by omega), e 1 (r + 3) 0 (by omega) (by omega), e 0 (r + 4) 0 (by omega) (by omega), e 1 (r + 4) 0 (by omega) (by omega), e 0 (r + 5) 0 (by omega) (by omega), e 1 (r + 5) 0 (by omega) (by omega), e 0 (r + 6) 0 (by omega) (by omega), e 1 (r + 6) 0 (by omega) (by omega), e 0 (r + 7) 0 (by omega) (by omega), e 1 (r + 7) 0 (by omega) (by omega)]
  exact s
theorem shLys_kC {r : Int} (x : kC h h2) (n : 1 ≤ r ∧ r + 3 < 282) (s : shLayers h r) : shLayers h2 r := by
  have e : ∀ (k : Nat) (q i : Int), r ≤ q → q ≤ r + 3 → h2 k q i = h k q i := fun k q i u v => x k q i (by omega) (by omega)
  unfold shLayers at s ⊢
  rw [e 0 r 0 (by omega) (by omega), e 400 r 0 (by omega) (by omega), e 401 r 0 (by omega) (by omega), e 402 r 0 (by omega) (by omega)]
  exact s
theorem shPane_kC (x : kC h h2) (n : 1 ≤ P ∧ P + 27 < 282) (s : shPane h P) : shPane h2 P := by
  have e : ∀ (k : Nat) (q i : Int), P ≤ q → q ≤ P + 27 → h2 k q i = h k q i := fun k q i u v => x k q i (by omega) (by omega)
  obtain ⟨s1, s2, s3, s4, s5, s6, s7, s8, s9, s10, s11, s12, s13, s14, s15, s16, s17, s18, s19, s20⟩ := s
  exact ⟨(e _ _ _ (by omega) (by omega)).trans s1, (e _ _ _ (by omega) (by omega)).trans s2, (e _ _ _ (by omega) (by omega)).trans s3, shLys_kC x (by omega) s4, (e _ _ _ (by omega) (by omega)).trans s5, shLay_kC x (by omega) s6, (e _ _ _ (by omega) (by omega)).trans s7, shDir_kC x (by omega) s8, (e _ _ _ (by omega) (by omega)).trans s9, (e _ _ _ (by omega) (by omega)).trans s10, (e _ _ _ (by omega) (by omega)).trans s11, (e _ _ _ (by omega) (by omega)).trans s12, (e _ _ _ (by omega) (by omega)).trans s13, (e _ _ _ (by omega) (by omega)).trans s14, (e _ _ _ (by omega) (by omega)).trans s15, (e _ _ _ (by omega) (by omega)).trans s16, (e _ _ _ (by omega) (by omega)).trans s17, (e _ _ _ (by omega) (by omega)).trans s18, (e _ _ _ (by omega) (by omega)).trans s19, (e _ _ _ (by omega) (by omega)).trans s20⟩
theorem shPic_kC {r : Int} (x : kC h h2) (n : 1 ≤ r ∧ r + 3 < 282) (s : shPicture h r) : shPicture h2 r := by
  have e : ∀ (k : Nat) (q i : Int), r ≤ q → q ≤ r + 3 → h2 k q i = h k q i := fun k q i u v => x k q i (by omega) (by omega)
  obtain ⟨s1, s2, s3, s4, s5, s6, s7, s8, s9, s10⟩ := s
  exact ⟨(e _ _ _ (by omega) (by omega)).trans s1, (e _ _ _ (by omega) (by omega)).trans s2, (e _ _ _ (by omega) (by omega)).trans s3, (e _ _ _ (by omega) (by omega)).trans s4, (e _ _ _ (by omega) (by omega)).trans s5, (e _ _ _ (by omega) (by omega)).trans s6, (e _ _ _ (by omega) (by omega)).trans s7, (e _ _ _ (by omega) (by omega)).trans s8, (e _ _ _ (by omega) (by omega)).trans s9, (e _ _ _ (by omega) (by omega)).trans s10⟩
theorem cLi_kC {r n : Int} (x : kC h h2) (hr : 1 ≤ r ∧ r < 282) (hd : h 101 r 0 = 1 ∨ 282 ≤ h 101 r 0) (c : cLi h r n) : cLi h2 r n ∧ h2 101 r 0 = h 101 r 0 ∧ ∀ j, lE h2 r j = lE h r j := by
  obtain ⟨c1, c2, c3⟩ := c
  have e1 : h2 101 r 0 = h 101 r 0 := x _ _ _ (by omega) (by omega)
  refine ⟨⟨(x 0 r 0 (by omega) (by omega)).trans c1, (x _ _ _ (by omega) (by omega)).trans c2, fun z => ?_⟩, e1, fun j => ?_⟩
  · rw [e1, x 0 _ _ (by omega) (by omega), x 1 _ _ (by omega) (by omega)]
    exact c3 z
  · unfold lE
    rw [e1, x 2 _ _ (by omega) (by omega)]
theorem cLay_kC (x : kC h h2) (hp : 0 ≤ p ∧ p < 4) (u : cUq h a) (c : cLay h a p (139 + 36 * p)) : cLay h2 a p (139 + 36 * p) ∧ ∀ t j, 0 ≤ t → t < 3 → dL h2 p t = dL h p t ∧ eL h2 p t j = eL h p t j := by
  obtain ⟨u0, u1, u2, u3, u4⟩ := u
  obtain ⟨c1, c2, c3, c4, c5, c6, c7⟩ := c
  have d0 := (u1 p 0 hp.1 hp.2 (by omega) (by omega)).1
  have d1 := (u1 p 1 hp.1 hp.2 (by omega) (by omega)).1
  have d2 := (u1 p 2 hp.1 hp.2 (by omega) (by omega)).1
  unfold dL at d0 d1 d2
  rw [show 140 + 36 * p + 0 = 139 + 36 * p + 1 by omega] at d0
  rw [show 140 + 36 * p + 1 = 139 + 36 * p + 2 by omega] at d1
  rw [show 140 + 36 * p + 2 = 139 + 36 * p + 3 by omega] at d2
  obtain ⟨l0, m0, n0⟩ := cLi_kC x (by omega) d0 c2
  obtain ⟨l1, m1, n1⟩ := cLi_kC x (by omega) d1 c3
  obtain ⟨l2, m2, n2⟩ := cLi_kC x (by omega) d2 c4
  refine ⟨⟨shLys_kC x (by omega) c1, l0, l1, l2, fun j s t => ?_, fun j s t => ?_, fun j s t => ?_⟩, fun t j t0 t3 => ?_⟩
  · have e := u3 p 0 j hp.1 hp.2 (by omega) (by omega) s (by unfold nL; rw [if_pos rfl]; exact t)
    unfold eL at e
    rw [show 140 + 36 * p + 0 = 139 + 36 * p + 1 by omega] at e
    rw [n0]
    obtain ⟨⟨k1, k2, k3, k4, k5⟩, q2, q3⟩ := c5 j s t
    exact ⟨⟨(x _ _ _ (by omega) (by omega)).trans k1, (x _ _ _ (by omega) (by omega)).trans k2, (x 0 _ _ (by omega) (by omega)).trans k3, (x _ _ _ (by omega) (by omega)).trans k4, (x 0 _ _ (by omega) (by omega)).trans k5⟩, cPl_kC x (by omega) (by omega) q2, cPl_kC x (by omega) (by omega) q3⟩
  · have e := u3 p 1 j hp.1 hp.2 (by omega) (by omega) s (by unfold nL; rw [if_neg (by decide), if_pos rfl]; exact t)
    unfold eL at e
    rw [show 140 + 36 * p + 1 = 139 + 36 * p + 2 by omega] at e
    rw [n1]
    obtain ⟨⟨k1, k2, k3⟩, q2, q3, q4⟩ := c6 j s t
    exact ⟨⟨(x _ _ _ (by omega) (by omega)).trans k1, (x _ _ _ (by omega) (by omega)).trans k2, (x 0 _ _ (by omega) (by omega)).trans k3⟩, cPl_kC x (by omega) (by omega) q2, (x _ _ _ (by omega) (by omega)).trans q3, q4⟩
  · have e := u3 p 2 j hp.1 hp.2 (by omega) (by omega) s (by unfold nL; rw [if_neg (by decide), if_neg (by decide)]; exact t)
    unfold eL at e
    rw [show 140 + 36 * p + 2 = 139 + 36 * p + 3 by omega] at e
    rw [n2]
    obtain ⟨k1, q2, q3, q4⟩ := c7 j s t
    exact ⟨(x 0 _ _ (by omega) (by omega)).trans k1, (x _ _ _ (by omega) (by omega)).trans q2, (x _ _ _ (by omega) (by omega)).trans q3, (x _ _ _ (by omega) (by omega)).trans q4⟩
  · unfold dL eL
    rcases (show t = 0 ∨ t = 1 ∨ t = 2 by omega) with z | z | z <;> subst z
    · rw [show 140 + 36 * p + 0 = 139 + 36 * p + 1 by omega]; exact ⟨m0, n0 j⟩
    · rw [show 140 + 36 * p + 1 = 139 + 36 * p + 2 by omega]; exact ⟨m1, n1 j⟩
    · rw [show 140 + 36 * p + 2 = 139 + 36 * p + 3 by omega]; exact ⟨m2, n2 j⟩
theorem cUq_of (n3 : h2 3 0 0 = h 3 0 0) (e : ∀ p t j, 0 ≤ p → p < 4 → 0 ≤ t → t < 3 → dL h2 p t = dL h p t ∧ (0 ≤ j → j < nL a p t → eL h2 p t j = eL h p t j)) (u : cUq h a) : cUq h2 a := by
  obtain ⟨u0, u1, u2, u3, u4⟩ := u
  refine ⟨by rw [n3]; exact u0, fun p t a1 a2 a3 a4 => ?_, fun p t p2 t2 a1 a2 a3 a4 b1 b2 b3 b4 => ?_, fun p t j a1 a2 a3 a4 a5 a6 => ?_, fun p t j p2 t2 j2 a1 a2 a3 a4 a5 a6 b1 b2 b3 b4 b5 b6 => ?_⟩
  · rw [(e p t 0 a1 a2 a3 a4).1, n3]; exact u1 p t a1 a2 a3 a4
  · rw [(e p t 0 a1 a2 a3 a4).1, (e p2 t2 0 b1 b2 b3 b4).1]; exact u2 p t p2 t2 a1 a2 a3 a4 b1 b2 b3 b4
  · rw [(e p t j a1 a2 a3 a4).2 a5 a6, n3]; exact u3 p t j a1 a2 a3 a4 a5 a6
  · rw [(e p t j a1 a2 a3 a4).2 a5 a6, (e p2 t2 j2 b1 b2 b3 b4).2 b5 b6]; exact u4 p t j p2 t2 j2 a1 a2 a3 a4 a5 a6 b1 b2 b3 b4 b5 b6
theorem shPL_kC (x : kC h h2) (s : shPL h) : shPL h2 := by
  have e : ∀ (k : Nat) (q i : Int), 1 ≤ q → q ≤ 281 → h2 k q i = h k q i := fun k q i u v => x k q i (by omega) (by omega)
  obtain ⟨s1, s2, ⟨t1, t2, t3, t4⟩, s4, s5, s6, s7, ⟨v1, v2, v3, v4, v5, v6, v7, v8, v9, v10, v11, v12, v13, v14, v15, v16, v17, v18, v19⟩, s9, s10, s11, s12, s13, s14, s15, s16, s17, s18, s19, s20⟩ := s
  have E : ∀ {k : Nat} {q i y : Int}, 1 ≤ q → q ≤ 281 → h k q i = y → h2 k q i = y := fun u v w => (e _ _ _ u v).trans w
  exact ⟨E (by decide) (by decide) s1, E (by decide) (by decide) s2, ⟨E (by decide) (by decide) t1, E (by decide) (by decide) t2, E (by decide) (by decide) t3, E (by decide) (by decide) t4⟩, E (by decide) (by decide) s4, E (by decide) (by decide) s5, E (by decide) (by decide) s6, E (by decide) (by decide) s7, ⟨E (by decide) (by decide) v1, E (by decide) (by decide) v2, E (by decide) (by decide) v3, E (by decide) (by decide) v4, E (by decide) (by decide) v5, E (by decide) (by decide) v6, E (by decide) (by decide) v7, E (by decide) (by decide) v8, E (by decide) (by decide) v9, E (by decide) (by decide) v10, E (by decide) (by decide) v11, E (by decide) (by decide) v12, E (by decide) (by decide) v13, E (by decide) (by decide) v14, E (by decide) (by decide) v15, E (by decide) (by decide) v16, E (by decide) (by decide) v17, E (by decide) (by decide) v18, E (by decide) (by decide) v19⟩, E (by decide) (by decide) s9, E (by decide) (by decide) s10, E (by decide) (by decide) s11, E (by decide) (by decide) s12, E (by decide) (by decide) s13, E (by decide) (by decide) s14, E (by decide) (by decide) s15, E (by decide) (by decide) s16, E (by decide) (by decide) s17, E (by decide) (by decide) s18, E (by decide) (by decide) s19, E (by decide) (by decide) s20⟩
theorem cTx_kC (x : kC h h2) (c : cTx h a) : cTx h2 a := by
  obtain ⟨c1, c2, c3, c4, c5⟩ := c
  have e : ∀ i, h2 2 5 i = h 2 5 i := fun i => x _ _ _ (by omega) (by omega)
  refine ⟨⟨(x _ _ _ (by omega) (by omega)).trans c1.1, (x _ _ _ (by omega) (by omega)).trans c1.2.1, (x _ _ _ (by omega) (by omega)).trans c1.2.2.1, (x _ _ _ (by omega) (by omega)).trans c1.2.2.2⟩, ⟨(x _ _ _ (by omega) (by omega)).trans c2.1, c2.2⟩, fun i u v => ?_, fun i j u v w => ?_, fun i u v => ?_⟩
  · rw [e]
    obtain ⟨⟨k1, k2, k3, k4⟩, k5, k6⟩ := c3 i u v
    exact ⟨⟨(x _ _ _ (by omega) (by omega)).trans k1, (x _ _ _ (by omega) (by omega)).trans k2, (x _ _ _ (by omega) (by omega)).trans k3, (x _ _ _ (by omega) (by omega)).trans k4⟩, k5, k6⟩
  · rw [e, e]; exact c4 i j u v w
  · rw [e]
    obtain ⟨⟨⟨k1, k2, k3, k4⟩, d2, d3⟩, d4⟩ := c5 i u v
    have := c3 i u (by omega)
    exact ⟨⟨⟨(x _ _ _ (by omega) (by omega)).trans k1, (x _ _ _ (by omega) (by omega)).trans k2, (x _ _ _ (by omega) (by omega)).trans k3, (x _ _ _ (by omega) (by omega)).trans k4⟩, (x _ _ _ (by omega) (by omega)).trans d2, fun j s t => (x _ _ _ (by omega) (by omega)).trans (d3 j s t)⟩, (x _ _ _ (by omega) (by omega)).trans d4⟩
theorem cPan_kC (x : kC h h2) (hp : 0 ≤ p ∧ p < 4) (u : cUq h a) (c : cPan h a p) : cPan h2 a p := by
  obtain ⟨⟨c1, c2, c3, c4, c5, c6, c7, c8⟩, c9, c10⟩ := c
  have e : ∀ (k : Nat) (q i : Int), 138 + 36 * p ≤ q → q ≤ 138 + 36 * p + 35 → h2 k q i = h k q i := fun k q i s t => x k q i (by omega) (by omega)
  have ly := (cLay_kC x hp u (by rw [show 139 + 36 * p = 138 + 36 * p + 1 by omega]; exact c2)).1
  rw [show 139 + 36 * p = 138 + 36 * p + 1 by omega] at ly
  exact ⟨⟨shPane_kC x (by omega) c1, ly, cPl_kC x (by omega) (by omega) c3, cPl_kC x (by omega) (by omega) c4, (e _ _ _ (by omega) (by omega)).trans c5, (e _ _ _ (by omega) (by omega)).trans c6, (e _ _ _ (by omega) (by omega)).trans c7, (e _ _ _ (by omega) (by omega)).trans c8⟩, cCnt_off e c9, cLd_off (fun k r i s t => e k r i s (by omega)) c10⟩
theorem cPic_kC (x : kC h h2) (hp : 0 ≤ p ∧ p < 4) (c : cPic h a p (138 + 36 * p)) : cPic h2 a p (138 + 36 * p) := by
  obtain ⟨c1, c2, c3, c4, c5, c6⟩ := c
  have e : ∀ (k : Nat) (q i : Int), 138 + 36 * p ≤ q → q ≤ 138 + 36 * p + 35 → h2 k q i = h k q i := fun k q i s t => x k q i (by omega) (by omega)
  have ed := e 717 (138 + 36 * p) 0 (by omega) (by omega)
  refine ⟨shPic_kC x (by omega) c1, shPic_kC x (by omega) c2, ?_, (e _ _ _ (by omega) (by omega)).trans c4, ?_, fun k s t => ?_⟩
  · rw [ed, e 718 (138 + 36 * p) 0 (by omega) (by omega)]; exact c3
  · rw [ed, e _ _ _ (by omega) (by omega)]; exact c5
  · obtain ⟨d1, d2, d3⟩ := c6 k s t
    rw [ed, e _ _ _ (by omega) (by omega), e _ _ _ (by omega) (by omega)]
    exact ⟨d1, d2, fun c s2 t2 => (e _ _ _ (by omega) (by omega)).trans (d3 c s2 t2)⟩
/-- the class's part is the same: it tells the same -/
theorem cAll_kC (x : kC h h2) (c : cAll h a) : cAll h2 a := by
  obtain ⟨c1, c2, c3, c4, c5, c6⟩ := c
  refine ⟨shPL_kC x c1, cTx_kC x c2, fun p u v => ?_, fun p u v => ?_, ?_, ?_⟩
  · obtain ⟨d1, d2, d3⟩ := c3 p u v
    exact ⟨(x _ _ _ (by omega) (by omega)).trans d1, cPan_kC x ⟨u, v⟩ c6 d2, cPic_kC x ⟨u, v⟩ d3⟩
  · rw [x 2 128 p (by omega) (by omega), x 2 129 p (by omega) (by omega), x 2 130 p (by omega) (by omega), x 2 131 p (by omega) (by omega), x 2 132 p (by omega) (by omega)]
    exact c4 p u v
  · obtain ⟨l1, l2, l3, l4⟩ := c5
    have en := x 1406 3 0 (by omega) (by omega)
    refine ⟨(x _ _ _ (by omega) (by omega)).trans l1, l2, by rw [en]; exact l3, fun i u v => ?_⟩
    rw [en, x 2 134 _ (by omega) (by omega), x 2 135 _ (by omega) (by omega)]
    exact l4 i u v
  · refine cUq_of (x 3 0 0 (by omega) (by omega)) (fun p t j a1 a2 a3 a4 => ?_) c6
    have ly := (c3 p a1 a2).2.1.1.2.1
    rw [show 138 + 36 * p + 1 = 139 + 36 * p by omega] at ly
    have := (cLay_kC x ⟨a1, a2⟩ c6 ly).2 t j a3 a4
    exact ⟨this.1, fun _ _ => this.2⟩
/-- what is scratch of the reference doesn't matter -/
theorem rfE_2 (x : rfE a b) {r i : Int} (hr : 282 ≤ r ∧ r ≤ 337) (n : r ∉ sA2) : b 2 r i = a 2 r i := x 2 r i hr.1 hr.2 (fun z => n z.2) (fun z => absurd z.2 (by decide))
theorem rfE_A (x : rfE a b) (s : sx a b) : eqA a b := ⟨fun r i e f => rfE_2 x (by omega) (fun z => by
  have : ∀ q ∈ sA2, q < 283 ∨ 304 < q := by decide
  have := this r z
  omega), x _ _ _ (by omega) (by omega) (by decide) (by decide), s⟩
theorem cAll_rfE (x : rfE a b) (s : sx a b) (c : cAll h a) : cAll h b := by
  have y := rfE_A x s
  obtain ⟨c1, c2, c3, c4, c5, c6⟩ := c
  have R : ∀ (r : Int) (i : Int), 282 ≤ r → r ≤ 337 → r ∉ sA2 → b 2 r i = a 2 r i := fun r i u v w => rfE_2 x ⟨u, v⟩ w
  refine ⟨c1, cTx_a y c2, fun p u v => ?_, fun p u v => ?_, ?_, ?_⟩
  · obtain ⟨d1, ⟨⟨e1, e2, e3, e4, e5, e6, e7, e8⟩, d3, d4⟩, p1, p2, p3, p4, p5, p6⟩ := c3 p u v
    refine ⟨d1, ⟨⟨e1, cLay_a y.1 e2, ?_, ?_, ?_, ?_, ?_, ?_⟩, cCnt_a y d3, cLd_a y d4⟩, p1, p2, p3, ?_, ?_, fun k s t => ?_⟩
    · rw [R 305 p (by decide) (by decide) (by decide), R 306 p (by decide) (by decide) (by decide)]; exact e3
    · rw [R 308 p (by decide) (by decide) (by decide), R 309 p (by decide) (by decide) (by decide)]; exact e4
    · rw [R 307 p (by decide) (by decide) (by decide)]; exact e5
    · rw [R 286 p (by decide) (by decide) (by decide)]; exact e6
    · rw [R 287 p (by decide) (by decide) (by decide)]; exact e7
    · rw [R 288 p (by decide) (by decide) (by decide)]; exact e8
    · rw [R 330 p (by decide) (by decide) (by decide)]; exact p4
    · rw [R 329 p (by decide) (by decide) (by decide)]; exact p5
    · rw [R 329 p (by decide) (by decide) (by decide)] at t
      rw [R 327 (24 * p + k) (by decide) (by decide) (by decide), R 328 (24 * p + k) (by decide) (by decide) (by decide)]
      obtain ⟨q1, q2, q3⟩ := p6 k s t
      refine ⟨q1, q2, fun c s2 t2 => ?_⟩
      rw [R 326 _ (by decide) (by decide) (by decide)]
      exact q3 c s2 t2
  · rw [R 289 p (by decide) (by decide) (by decide), R 290 p (by decide) (by decide) (by decide), R 291 p (by decide) (by decide) (by decide), R 292 p (by decide) (by decide) (by decide), R 310 p (by decide) (by decide) (by decide)]
    exact c4 p u v
  · have en : b 1559 282 0 = a 1559 282 0 := x _ _ _ (by omega) (by omega) (by decide) (by decide)
    obtain ⟨l1, l2, l3, l4⟩ := c5
    refine ⟨by rw [en]; exact l1, by rw [en]; exact l2, l3, fun i u v => ?_⟩
    rw [en] at v
    rw [en, R 334 i (by decide) (by decide) (by decide), R 335 i (by decide) (by decide) (by decide)]
    exact l4 i u v
  · have en : ∀ p t, nL b p t = nL a p t := fun p t => by
      unfold nL
      rw [R 293 p (by decide) (by decide) (by decide), R 297 p (by decide) (by decide) (by decide), R 301 p (by decide) (by decide) (by decide)]
    obtain ⟨u0, u1, u2, u3, u4⟩ := c6
    exact ⟨u0, u1, u2, fun p t j a1 a2 a3 a4 a5 a6 => u3 p t j a1 a2 a3 a4 a5 (by rw [← en]; exact a6), fun p t j p2 t2 j2 a1 a2 a3 a4 a5 a6 b1 b2 b3 b4 b5 b6 => u4 p t j p2 t2 j2 a1 a2 a3 a4 a5 (by rw [← en]; exact a6) b1 b2 b3 b4 b5 (by rw [← en]; exact b6)⟩
/-- only the cursor and the top of a pane -/
def eqB (p : Int) (a b : vH) : Prop := ∀ (k : Nat) (r i : Int), ¬ (k = 2 ∧ 305 ≤ r ∧ r ≤ 309 ∧ i = p) → b k r i = a k r i
theorem eqB_A (x : eqB p a b) : eqA a b := ⟨fun r i e f => x 2 r i (by omega), x _ _ _ (by omega), fun k r i hk => x k r i (fun z => by rw [z.1] at hk; cases hk)⟩
/-- a pane has changed its cursor, its top, what it laid and counted -/
theorem cAll_qC (hp : 0 ≤ p ∧ p < 4) (x : qC (138 + 36 * p) h h2) (y : eqB p a b) (c : cAll h a) (own : cPan h2 b p) (tx : cTx h2 b) : cAll h2 b := by
  have ya := eqB_A y
  obtain ⟨c1, c2, c3, c4, c5, c6⟩ := c
  have sP := (c3 p hp.1 hp.2).2.1.1.1
  have ly : ∀ q, 0 ≤ q → q < 4 → cLay h a q (138 + 36 * q + 1) := fun q u v => (c3 q u v).2.1.1.2.1
  refine ⟨shPL_sx (qC_sx x) c1, tx, fun q u v => ?_, fun q u v => ?_, ?_, ?_⟩
  · obtain ⟨d1, d2, p1, p2, p3, p4, p5, p6⟩ := c3 q u v
    refine ⟨(x _ _ _ (by omega)).trans d1, ?_, ?_⟩
    · by_cases z : q = p
      · rw [z]; exact own
      · obtain ⟨k1, k2, k3⟩ := d2
        have o : 138 + 36 * q + 36 ≤ 138 + 36 * p ∨ 138 + 36 * p + 36 ≤ 138 + 36 * q := by omega
        have same : ∀ (k : Nat) (r i : Int), 138 + 36 * q ≤ r → r ≤ 138 + 36 * q + 35 → h2 k r i = h k r i := fun k r i s t => x k r i (by omega)
        obtain ⟨f1, f2, f3, f4, f5, f6, f7, f8⟩ := cFix_qCo x sP o k1
        have R : ∀ r : Int, b 2 r q = a 2 r q := fun r => y 2 r q (by omega)
        refine ⟨⟨f1, cLay_a ya.1 f2, ?_, ?_, ?_, ?_, ?_, ?_⟩, cCnt_a ya (cCnt_off same k2), cLd_a ya (cLd_off (fun k r i s t => same k r i s (by omega)) k3)⟩
        · rw [R, R]; exact f3
        · rw [R, R]; exact f4
        · rw [R]; exact f5
        · rw [R]; exact f6
        · rw [R]; exact f7
        · rw [R]; exact f8
    · have ed : h2 717 (138 + 36 * q) 0 = h 717 (138 + 36 * q) 0 := x _ _ _ (by omega)
      refine ⟨shPicture_sx (qC_sx x) p1, shPicture_sx (qC_sx x) p2, ?_, ?_, ?_, fun k s t => ?_⟩
      · rw [ed, x 718 (138 + 36 * q) 0 (by omega)]; exact p3
      · rw [x 719 _ _ (by omega), y 2 330 q (by omega)]; exact p4
      · rw [ed, x 803 _ _ (by omega), y 2 329 q (by omega)]; exact p5
      · rw [y 2 329 q (by omega)] at t
        obtain ⟨q1, q2, q3⟩ := p6 k s t
        rw [ed, x 2 (h 717 (138 + 36 * q) 0 + 2) _ (by omega), x 2 (h 717 (138 + 36 * q) 0 + 3) _ (by omega), y 2 327 _ (by omega), y 2 328 _ (by omega)]
        refine ⟨q1, q2, fun c s2 t2 => ?_⟩
        rw [x 2 (h 717 (138 + 36 * q) 0 + 1) _ (by omega), y 2 326 _ (by omega)]
        exact q3 c s2 t2
  · rw [x 2 128 q (by omega), x 2 129 q (by omega), x 2 130 q (by omega), x 2 131 q (by omega), x 2 132 q (by omega), y 2 289 q (by omega), y 2 290 q (by omega), y 2 291 q (by omega), y 2 292 q (by omega), y 2 310 q (by omega)]
    exact c4 q u v
  · obtain ⟨l1, l2, l3, l4⟩ := c5
    have en : b 1559 282 0 = a 1559 282 0 := y _ _ _ (by omega)
    have ex : h2 1406 3 0 = h 1406 3 0 := x _ _ _ (by omega)
    refine ⟨by rw [en]; exact (x _ _ _ (by omega)).trans l1, by rw [en]; exact l2, by rw [ex]; exact l3, fun i u v => ?_⟩
    rw [en] at v
    rw [en, ex, x 2 134 _ (by omega), x 2 135 _ (by omega), y 2 334 _ (by omega), y 2 335 _ (by omega)]
    exact l4 i u v
  · have en : ∀ q t, nL b q t = nL a q t := fun q t => by
      unfold nL
      rw [y 2 293 q (by omega), y 2 297 q (by omega), y 2 301 q (by omega)]
    have cu : cUq h2 a := cUq_of (x 3 0 0 (by omega)) (fun q t j a1 a2 a3 a4 => by
      obtain ⟨k1, k2, k3, k4, -⟩ := ly q a1 a2
      unfold dL eL
      refine ⟨x _ _ _ (by omega), fun j0 jn => ?_⟩
      unfold nL at jn
      rcases (show t = 0 ∨ t = 1 ∨ t = 2 by omega) with z | z | z <;> subst z
      · rw [if_pos rfl] at jn
        rw [show 140 + 36 * q + 0 = 138 + 36 * q + 1 + 1 by omega]
        exact lE_qC x sP k2 (by omega)
      · rw [if_neg (by decide), if_pos rfl] at jn
        rw [show 140 + 36 * q + 1 = 138 + 36 * q + 1 + 2 by omega]
        exact lE_qC x sP k3 (by omega)
      · rw [if_neg (by decide), if_neg (by decide)] at jn
        rw [show 140 + 36 * q + 2 = 138 + 36 * q + 1 + 3 by omega]
        exact lE_qC x sP k4 (by omega)) c6
    obtain ⟨u0, u1, u2, u3, u4⟩ := cu
    exact ⟨u0, u1, u2, fun p t j a1 a2 a3 a4 a5 a6 => u3 p t j a1 a2 a3 a4 a5 (by rw [← en]; exact a6), fun p t j p2 t2 j2 a1 a2 a3 a4 a5 a6 b1 b2 b3 b4 b5 b6 => u4 p t j p2 t2 j2 a1 a2 a3 a4 a5 (by rw [← en]; exact a6) b1 b2 b3 b4 b5 (by rw [← en]; exact b6)⟩
end ALL

