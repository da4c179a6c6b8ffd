/-! the class changes layers: lists, new objects -/
section SHE
variable {h h2 a b : vH} {p P : Int}
theorem shLay_E {r : Int} (e0 : ∀ (k : Nat) (q i : Int), r ≤ q → q ≤ r + 9 → stk k = true → h2 k q i = h k q i) (s : shLayout h r) : shLayout h2 r := by
  unfold shLayout at s ⊢
  rw [e0 0 r 0 (by omega) (by omega) rfl, e0 500 r 0 (by omega) (by omega) rfl, e0 501 r 0 (by omega) (by omega) rfl, e0 502 r 0 (by omega) (by omega) rfl, e0 503 r 0 (by omega) (by omega) rfl, e0 504 r 0 (by omega) (by omega) rfl, e0 505 r 0 (by omega) (by omega) rfl, e0 506 r 0 (by omega) (by omega) rfl, e0 507 r 0 (by omega) (by omega) rfl, e0 508 r 0 (by omega) (by omega) rfl, e0 0 (r + 1) 0 (by omega) (by omega) rfl, e0 1 (r + 1) 0 (by omega) (by omega) rfl, e0 0 (r + 2) 0 (by omega) (by omega) rfl, e0 1 (r + 2) 0 (by omega) (by omega) rfl, e0 0 (r + 3) 0 (by omega) (by omega) rfl, e0 1 (r + 3) 0 (by omega) (by omega) rfl, e0 0 (r + 4) 0 (by omega) (by omega) rfl, e0 1 (r + 4) 0 (by omega) (by omega) rfl, e0 0 (r + 5) 0 (by omega) (by omega) rfl, e0 1 (r + 5) 0 (by omega) (by omega) rfl, e0 0 (r + 6) 0 (by omega) (by omega) rfl, e0 1 (r + 6) 0 (by omega) (by omega) rfl, e0 0 (r + 7) 0 (by omega) (by omega) rfl, e0 1 (r + 7) 0 (by omega) (by omega) rfl, e0 0 (r + 8) 0 (by omega) (by omega) rfl, e0 1 (r + 8) 0 (by omega) (by omega) rfl, e0 0 (r + 9) 0 (by omega) (by omega) rfl, e0 1 (r + 9) 0 (by omega) (by omega) rfl]
  exact s
theorem shDir_E {r : Int} (e0 : ∀ (k : Nat) (q i : Int), r ≤ q → q ≤ r + 7 → stk k = true → h2 k q i = h k q i) (s : shDirections h r) : shDirections h2 r := by
  unfold shDirections at s ⊢
  rw [e0 0 r 0 (by omega) (by omega) rfl, e0 200 r 0 (by omega) (by omega) rfl, e0 201 r 0 (by omega) (by omega) rfl, e0 202 r 0 (by omega) (by omega) rfl, e0 203 r 0 (by omega) (by omega) rfl, e0 204 r 0 (by omega) (by omega) rfl, e0 205 r 0 (by omega) (by omega) rfl, e0 206 r 0 (by omega) (by omega) rfl, e0 0 (r + 1) 0 (by omega) (by omega) rfl, e0 1 (r + 1) 0 (by omega) (by omega) rfl, e0 0 (r + 2) 0 (by omega) (by omega) rfl, e0 1 (r + 2) 0 (by omega) (by omega) rfl, e0 0 (r + 3) 0 (by omega) (by omega) rfl, e0 1 (r + 3) 0 (by omega) (by omega) rfl, e0 0 (r + 4) 0 (by omega) (by omega) rfl, e0 1 (r + 4) 0 (by omega) (by omega) rfl, e0 0 (r + 5) 0 (by omega) (by omega) rfl, e0 1 (r + 5) 0 (by omega) (by omega) rfl, e0 0 (r + 6) 0 (by omega) (by omega) rfl, e0 1 (r + 6) 0 (by omega) (by omega) rfl, e0 0 (r + 7) 0 (by omega) (by omega) rfl, e0 1 (r + 7) 0 (by omega) (by omega) rfl]
  exact s
theorem shLys_E {r : Int} (e0 : ∀ (k : Nat) (q i : Int), r ≤ q → q ≤ r + 3 → stk k = true → h2 k q i = h k q i) (s : shLayers h r) : shLayers h2 r := by
  unfold shLayers at s ⊢
  rw [e0 0 r 0 (by omega) (by omega) rfl, e0 400 r 0 (by omega) (by omega) rfl, e0 401 r 0 (by omega) (by omega) rfl, e0 402 r 0 (by omega) (by omega) rfl]
  exact s
theorem shPane_E (e0 : ∀ (k : Nat) (q i : Int), P ≤ q → q ≤ P + 27 → stk k = true → h2 k q i = h k q i) (s : shPane h P) : shPane h2 P := by
  obtain ⟨s1, s2, s3, s4, s5, s6, s7, s8, s9, s10, s11, s12, s13, s14, s15, s16, s17, s18, s19, s20⟩ := s
  exact ⟨(e0 _ _ _ (by omega) (by omega) rfl).trans s1, (e0 _ _ _ (by omega) (by omega) rfl).trans s2, (e0 _ _ _ (by omega) (by omega) rfl).trans s3, shLys_E (fun k q i u v w => e0 k q i (by omega) (by omega) w) s4, (e0 _ _ _ (by omega) (by omega) rfl).trans s5, shLay_E (fun k q i u v w => e0 k q i (by omega) (by omega) w) s6, (e0 _ _ _ (by omega) (by omega) rfl).trans s7, shDir_E (fun k q i u v w => e0 k q i (by omega) (by omega) w) s8, (e0 _ _ _ (by omega) (by omega) rfl).trans s9, (e0 _ _ _ (by omega) (by omega) rfl).trans s10, (e0 _ _ _ (by omega) (by omega) rfl).trans s11, (e0 _ _ _ (by omega) (by omega) rfl).trans s12, (e0 _ _ _ (by omega) (by omega) rfl).trans s13, (e0 _ _ _ (by omega) (by omega) rfl).trans s14, (e0 _ _ _ (by omega) (by omega) rfl).trans s15, (e0 _ _ _ (by omega) (by omega) rfl).trans s16, (e0 _ _ _ (by omega) (by omega) rfl).trans s17, (e0 _ _ _ (by omega) (by omega) rfl).trans s18, (e0 _ _ _ (by omega) (by omega) rfl).trans s19, (e0 _ _ _ (by omega) (by omega) rfl).trans s20⟩
theorem shPic_E {r : Int} (e0 : ∀ (k : Nat) (q i : Int), r ≤ q → q ≤ r + 3 → stk k = true → h2 k q i = h k q i) (s : shPicture h r) : shPicture h2 r := by
  obtain ⟨s1, s2, s3, s4, s5, s6, s7, s8, s9, s10⟩ := s
  exact ⟨(e0 _ _ _ (by omega) (by omega) rfl).trans s1, (e0 _ _ _ (by omega) (by omega) rfl).trans s2, (e0 _ _ _ (by omega) (by omega) rfl).trans s3, (e0 _ _ _ (by omega) (by omega) rfl).trans s4, (e0 _ _ _ (by omega) (by omega) rfl).trans s5, (e0 _ _ _ (by omega) (by omega) rfl).trans s6, (e0 _ _ _ (by omega) (by omega) rfl).trans s7, (e0 _ _ _ (by omega) (by omega) rfl).trans s8, (e0 _ _ _ (by omega) (by omega) rfl).trans s9, (e0 _ _ _ (by omega) (by omega) rfl).trans s10⟩
theorem shPL_E (e : ∀ (k : Nat) (q i : Int), 3 ≤ q → q ≤ 137 → h2 k q i = h k q i) (s : shPL h) : shPL h2 := by
  obtain ⟨s1, s2, ⟨t1, t2, t3, t4⟩, s4, s5, s6, s7, ⟨v1, v2, v3, v4, v5, v6, v7, v8, v9, v10, v11, v12, v13, v14, v15, v16, v17, v18, v19⟩, s9, s10, s11, s12, s13, s14, s15, s16, s17, s18, s19, s20⟩ := s
  have E : ∀ {k : Nat} {q i y : Int}, 3 ≤ q → q ≤ 137 → h k q i = y → h2 k q i = y := fun u v w => (e _ _ _ u v).trans w
  exact ⟨E (by decide) (by decide) s1, E (by decide) (by decide) s2, ⟨E (by decide) (by decide) t1, E (by decide) (by decide) t2, E (by decide) (by decide) t3, E (by decide) (by decide) t4⟩, E (by decide) (by decide) s4, E (by decide) (by decide) s5, E (by decide) (by decide) s6, E (by decide) (by decide) s7, ⟨E (by decide) (by decide) v1, E (by decide) (by decide) v2, E (by decide) (by decide) v3, E (by decide) (by decide) v4, E (by decide) (by decide) v5, E (by decide) (by decide) v6, E (by decide) (by decide) v7, E (by decide) (by decide) v8, E (by decide) (by decide) v9, E (by decide) (by decide) v10, E (by decide) (by decide) v11, E (by decide) (by decide) v12, E (by decide) (by decide) v13, E (by decide) (by decide) v14, E (by decide) (by decide) v15, E (by decide) (by decide) v16, E (by decide) (by decide) v17, E (by decide) (by decide) v18, E (by decide) (by decide) v19⟩, E (by decide) (by decide) s9, E (by decide) (by decide) s10, E (by decide) (by decide) s11, E (by decide) (by decide) s12, E (by decide) (by decide) s13, E (by decide) (by decide) s14, E (by decide) (by decide) s15, E (by decide) (by decide) s16, E (by decide) (by decide) s17, E (by decide) (by decide) s18, E (by decide) (by decide) s19, E (by decide) (by decide) s20⟩
end SHE
/-- the arrays of lists have room for ten, or are the empty one -/
def iD (h : vH) : Prop := (h 0 1 0 = 10 ∧ h 1 1 0 = 0) ∧ ∀ p t, 0 ≤ p → p < 4 → 0 ≤ t → t < 3 → dL h p t = 1 ∨ (282 ≤ dL h p t ∧ h 0 (dL h p t) 0 = 6 ∧ h 1 (dL h p t) 0 = 10)
/-- an element is taken out of a list of the reference: t = 0 spans, 1 virtual texts, 2 folds -/
def dR (a : vH) (p t j : Int) : vH := fun kk r i => if kk = 2 ∧ r = 293 + 4 * t ∧ i = p then a 2 (293 + 4 * t) p - 1 else if kk = 2 ∧ (294 + 4 * t ≤ r ∧ r ≤ 296 + 4 * t) ∧ 6 * p + j ≤ i ∧ i < 6 * p + a 2 (293 + 4 * t) p - 1 then a 2 r (i + 1) else a kk r i
/-- which one stands at i then -/
def ixR (p t j q s i : Int) : Int := if (q = p ∧ s = t) ∧ j ≤ i then i + 1 else i
def lrm (h : vH) (r d j n : Int) : vH := vup (vup (if n - 1 ≤ j then vup h 100 r 0 (w32 (h 100 r 0 + 1)) else vcp (vup h 100 r 0 (w32 (h 100 r 0 + 1))) d (j + 1) d j (n - 1 - j)) 102 r 0 (n - 1)) 2 d (n - 1) 0
section LS2
variable {h h2 a b : vH} {p q P Q X l x s f t j st r l0 x0 n d : Int}
theorem iD_kR (x : kR h h2) (i : iD h) : iD h2 := by
  obtain ⟨⟨i1, i2⟩, i3⟩ := i
  refine ⟨⟨(x _ _ _ (by omega)).trans i1, (x _ _ _ (by omega)).trans i2⟩, fun p t u v w y => ?_⟩
  have e : dL h2 p t = dL h p t := x _ _ _ (by omega)
  rw [e]
  refine (i3 p t u v w y).imp (fun z => z) (fun z => ⟨z.1, (x _ _ _ (by omega)).trans z.2.1, (x _ _ _ (by omega)).trans z.2.2⟩)
theorem iD_eF (x : eF h h2) (i : iD h) : iD h2 := by
  obtain ⟨⟨i1, i2⟩, i3⟩ := i
  refine ⟨⟨(x _ _ _ (by omega)).trans i1, (x _ _ _ (by omega)).trans i2⟩, fun p t u v w y => ?_⟩
  have e : dL h2 p t = dL h p t := x _ _ _ (by omega)
  rw [e]
  refine (i3 p t u v w y).imp (fun z => z) (fun z => ⟨z.1, (x _ _ _ (by omega)).trans z.2.1, (x _ _ _ (by omega)).trans z.2.2⟩)
theorem iD_lF (x : lF h h2) (i : iD h) : iD h2 := by
  obtain ⟨⟨i1, i2⟩, i3⟩ := i
  refine ⟨⟨(x _ _ _ (by omega)).trans i1, (x _ _ _ (by omega)).trans i2⟩, fun p t u v w y => ?_⟩
  have e : dL h2 p t = dL h p t := x _ _ _ (by omega)
  rw [e]
  refine (i3 p t u v w y).imp (fun z => z) (fun z => ⟨z.1, (x _ _ _ (by omega)).trans z.2.1, (x _ _ _ (by omega)).trans z.2.2⟩)
theorem cW_ly (c : cW h a) (x : ∀ (k : Nat) (r i : Int), 3 ≤ r → r ≤ 281 → ¬ (138 ≤ r ∧ 100 ≤ k ∧ k ≤ 102) → h2 k r i = h k r i)
    (y : ∀ (k : Nat) (r i : Int), 282 ≤ r → r ≤ 337 → ¬ (k = 2 ∧ 293 ≤ r ∧ r ≤ 304) → ¬ (r = 282 ∧ k = 1500) → b k r i = a k r i)
    (L : ∀ q, 0 ≤ q → q < 4 → cLay h2 b q (138 + 36 * q + 1)) (U : cUq h2 b) : cW h2 b := by
  obtain ⟨c1, ⟨t1, t2, t3, t4, t5⟩, c3, c4, c5, c6⟩ := c
  have R : ∀ r i : Int, 282 ≤ r → r ≤ 337 → ¬ (293 ≤ r ∧ r ≤ 304) → b 2 r i = a 2 r i := fun r i u v n => y 2 r i u v (fun z => n z.2) (fun z => absurd z.2 (by decide))
  have K : ∀ k : Nat, ¬ k = 2 → ¬ k = 1500 → b k 282 0 = a k 282 0 := fun k u v => y k 282 0 (by decide) (by decide) (fun z => u z.1) (fun z => v z.2)
  have el := K 1504 (by decide) (by decide)
  have en := K 1559 (by decide) (by decide)
  have sP : shPL h2 := shPL_E (fun k q i u v => x k q i u (by omega) (by omega)) c1
  have e5 : ∀ i, h2 2 5 i = h 2 5 i := fun i => x _ _ _ (by omega) (by omega) (by omega)
  refine ⟨sP, ⟨sP.2.2.1, ?_, fun i u v => ?_, fun i j u v w => ?_, fun i u v => ?_⟩, fun p u v => ?_, fun p u v => ?_, ?_, U⟩
  · rw [el, x _ _ _ (by omega) (by omega) (by omega)]; exact t2
  · rw [e5]
    obtain ⟨⟨k1, k2, k3, k4⟩, k5⟩ := t3 i u v
    exact ⟨⟨(x _ _ _ (by omega) (by omega) (by omega)).trans k1, (x _ _ _ (by omega) (by omega) (by omega)).trans k2, (x _ _ _ (by omega) (by omega) (by omega)).trans k3, (x _ _ _ (by omega) (by omega) (by omega)).trans k4⟩, k5⟩
  · rw [e5, e5]; exact t4 i j u v w
  · rw [el] at v
    rw [e5]
    obtain ⟨⟨⟨k1, k2, k3, k4⟩, d2, d3⟩, d4⟩ := t5 i u v
    have r0 := t3 i u (by omega)
    refine ⟨⟨⟨(x _ _ _ (by omega) (by omega) (by omega)).trans k1, (x _ _ _ (by omega) (by omega) (by omega)).trans k2, (x _ _ _ (by omega) (by omega) (by omega)).trans k3, (x _ _ _ (by omega) (by omega) (by omega)).trans k4⟩, ?_, fun j s t => ?_⟩, ?_⟩
    · rw [R 284 i (by decide) (by decide) (by decide)]; exact (x _ _ _ (by omega) (by omega) (by omega)).trans d2
    · rw [R 284 i (by decide) (by decide) (by decide)] at t
      rw [R 283 _ (by decide) (by decide) (by decide)]
      exact (x _ _ _ (by omega) (by omega) (by omega)).trans (d3 j s t)
    · rw [R 285 i (by decide) (by decide) (by decide)]; exact (x _ _ _ (by omega) (by omega) (by omega)).trans d4
  · obtain ⟨d1, ⟨e1, e2, e3, e4, e5, e6, e7, e8⟩, p1, p2, p3, p4, p5, p6⟩ := c3 p u v
    have ed : h2 717 (138 + 36 * p) 0 = h 717 (138 + 36 * p) 0 := x _ _ _ (by omega) (by omega) (by omega)
    refine ⟨(x _ _ _ (by omega) (by omega) (by omega)).trans d1, ⟨shPane_E (fun k q i u2 v2 w2 => x k q i (by omega) (by omega) (fun z => ?_)) e1, L p u v, ?_, ?_, ?_, ?_, ?_, ?_⟩, shPic_E (fun k q i u2 v2 w2 => x k q i (by omega) (by omega) (fun z => ?_)) p1, shPic_E (fun k q i u2 v2 w2 => x k q i (by omega) (by omega) (fun z => ?_)) p2, ?_, ?_, ?_, fun k s t => ?_⟩
    · rcases (show k = 100 ∨ k = 101 ∨ k = 102 by omega) with y | y | y <;> subst y <;> cases w2
    · rw [R 305 p (by decide) (by decide) (by decide), R 306 p (by decide) (by decide) (by decide)]
      exact ⟨(x _ _ _ (by omega) (by omega) (by omega)).trans e3.1, (x _ _ _ (by omega) (by omega) (by omega)).trans e3.2.1, (x _ _ _ (by omega) (by omega) (by omega)).trans e3.2.2⟩
    · rw [R 308 p (by decide) (by decide) (by decide), R 309 p (by decide) (by decide) (by decide)]
      exact ⟨(x _ _ _ (by omega) (by omega) (by omega)).trans e4.1, (x _ _ _ (by omega) (by omega) (by omega)).trans e4.2.1, (x _ _ _ (by omega) (by omega) (by omega)).trans e4.2.2⟩
    · rw [R 307 p (by decide) (by decide) (by decide)]; exact (x _ _ _ (by omega) (by omega) (by omega)).trans e5
    · rw [R 286 p (by decide) (by decide) (by decide)]; exact (x _ _ _ (by omega) (by omega) (by omega)).trans e6
    · rw [R 287 p (by decide) (by decide) (by decide)]; exact (x _ _ _ (by omega) (by omega) (by omega)).trans e7
    · rw [R 288 p (by decide) (by decide) (by decide)]; exact (x _ _ _ (by omega) (by omega) (by omega)).trans e8
    · rcases (show k = 100 ∨ k = 101 ∨ k = 102 by omega) with y | y | y <;> subst y <;> cases w2
    · rcases (show k = 100 ∨ k = 101 ∨ k = 102 by omega) with y | y | y <;> subst y <;> cases w2
    · rw [ed, x 718 (138 + 36 * p) 0 (by omega) (by omega) (by omega)]; exact p3
    · rw [R 330 p (by decide) (by decide) (by decide)]; exact (x _ _ _ (by omega) (by omega) (by omega)).trans p4
    · rw [R 329 p (by decide) (by decide) (by decide), ed]; exact (x _ _ _ (by omega) (by omega) (by omega)).trans p5
    · rw [R 329 p (by decide) (by decide) (by decide)] at t
      obtain ⟨q1, q2, q3⟩ := p6 k s t
      rw [R 327 (24 * p + k) (by decide) (by decide) (by decide), R 328 (24 * p + k) (by decide) (by decide) (by decide), ed]
      refine ⟨(x _ _ _ (by omega) (by omega) (by omega)).trans q1, (x _ _ _ (by omega) (by omega) (by omega)).trans q2, fun c s2 t2 => ?_⟩
      rw [R 326 _ (by decide) (by decide) (by decide)]
      exact (x _ _ _ (by omega) (by omega) (by omega)).trans (q3 c s2 t2)
  · rw [R 289 p (by decide) (by decide) (by decide), R 290 p (by decide) (by decide) (by decide), R 291 p (by decide) (by decide) (by decide), R 292 p (by decide) (by decide) (by decide), R 310 p (by decide) (by decide) (by decide), x 2 128 p (by omega) (by omega) (by omega), x 2 129 p (by omega) (by omega) (by omega), x 2 130 p (by omega) (by omega) (by omega), x 2 131 p (by omega) (by omega) (by omega), x 2 132 p (by omega) (by omega) (by omega)]
    exact c4 p u v
  · obtain ⟨l1, l2, l3, l4⟩ := c5
    have ex : h2 1406 3 0 = h 1406 3 0 := x _ _ _ (by omega) (by omega) (by omega)
    refine ⟨by rw [en]; exact (x _ _ _ (by omega) (by omega) (by omega)).trans l1, by rw [en]; exact l2, by rw [ex]; exact l3, fun i u v => ?_⟩
    rw [en] at v
    rw [en, ex, R 334 i (by decide) (by decide) (by decide), R 335 i (by decide) (by decide) (by decide), x 2 134 _ (by omega) (by omega) (by omega), x 2 135 _ (by omega) (by omega) (by omega)]
    exact l4 i u v
/-- the class takes one out of a list -/
theorem C_lrm (sL : shList h r) (hn : h 102 r 0 = n) (kd : h 0 d 0 = 6) (ed : h 101 r 0 = d) (le : n ≤ h 1 d 0) (he : ∃ c : Nat, c < 14 ∧ ∀ i : Int, 0 ≤ i → i < n → h 0 (h 2 d i) 0 = 20 + c) (hj : 0 ≤ j ∧ j < n) (n10 : n ≤ 9000) : ∃ h2, vcl mJx4a65c_remove_915e3 [(1, r), (0, j)] h = some (.inl (some (1, h 2 d j)), h2) ∧ (∀ (k : Nat) (q i : Int), ¬ (q = r ∧ (k = 100 ∨ k = 102)) → ¬ (k = 2 ∧ q = d) → h2 k q i = h k q i) ∧ h2 102 r 0 = n - 1 ∧ ∀ i, 0 ≤ i → i < n - 1 → h2 2 d i = if i < j then h 2 d i else h 2 d (i + 1) := by
  obtain ⟨cc, hc, he⟩ := he
  have e102 : vup h 100 r 0 (w32 (h 100 r 0 + 1)) 102 r 0 = n := (vup_k (by decide)).trans hn
  have e0 := rJx4a65c_fastRemove_b59b0_0 (x0 := r) (x1 := d) (x2 := j) (h := h)
  rw [e102] at e0
  have k1 : vup h 100 r 0 (w32 (h 100 r 0 + 1)) 0 d 0 = 6 := (vup_k (by decide)).trans kd
  have l1 : vup h 100 r 0 (w32 (h 100 r 0 + 1)) 1 d 0 = h 1 d 0 := vup_k (by decide)
  have s1 : vup h 100 r 0 (w32 (h 100 r 0 + 1)) 0 r 0 = 20 := (vup_k (by decide)).trans sL
  have e1 := e0 sL s1 (by omega) (by omega) (fun _ => by omega) (fun _ => by omega) (fun _ => by omega) (fun _ => by omega) (fun _ => k1) (fun _ => by omega) (fun _ => by omega) (fun _ => by omega) (fun _ => by rw [l1]; omega) (fun _ => by rw [l1]; omega) (fun _ => ⟨cc, hc, fun i u v => Or.inr (by
    have := he (j + 1 + i) (by omega) (by omega)
    exact this)⟩) (ite_rd s1 ((vcp_k (by decide)).trans s1)) ((vup_k (by decide)).trans (ite_rd k1 ((vcp_k (by decide)).trans k1))) (by omega) (by
    have : (vup (if n - 1 ≤ j then vup h 100 r 0 (w32 (h 100 r 0 + 1)) else vcp (vup h 100 r 0 (w32 (h 100 r 0 + 1))) d (j + 1) d j (n - 1 - j)) 102 r 0 (n - 1)) 1 d 0 = h 1 d 0 := (vup_k (by decide)).trans (ite_rd l1 ((vcp_k (by decide)).trans l1))
    rw [this]
    omega)
  refine ⟨lrm h r d j n, ?_, fun k q i u v => ?_, ?_, fun i u v => ?_⟩
  · refine (show _ = _ from rJx4a65c_remove_915e3_0 sL (by omega) (by rw [show h 102 r 0 = n from hn]; omega) (by rw [show h 101 r 0 = d from ed]; exact kd) hj.1 (by rw [show h 101 r 0 = d from ed]; omega)).trans ?_
    rw [show h 101 r 0 = d from ed]
    exact (vret_n e1).trans rJx4a65c_remove_915e3_24
  · have a1 : ∀ H : vH, H k q i = h k q i → vup (vup H 102 r 0 (n - 1)) 2 d (n - 1) 0 k q i = h k q i := fun H e => by
      unfold vup
      rw [if_neg (by omega), if_neg (by omega), e]
    have a2 : vup h 100 r 0 (w32 (h 100 r 0 + 1)) k q i = h k q i := by
      unfold vup
      rw [if_neg (by omega)]
    exact a1 _ (ite_rd a2 ((if_neg (fun z => v ⟨z.1, z.2.1⟩)).trans a2))
  · exact (vup_k (by decide)).trans vup_s
  · refine (vup_i (by omega)).trans ((vup_k (by decide)).trans ?_)
    have u2 : ∀ i, vup h 100 r 0 (w32 (h 100 r 0 + 1)) 2 d i = h 2 d i := fun i => vup_k (by decide)
    by_cases z : n - 1 ≤ j
    · rw [if_pos z, if_pos (by omega), u2]
    · rw [if_neg z]
      unfold vcp
      by_cases y : i < j
      · rw [if_pos y, if_neg (by omega), u2]
      · rw [if_neg y, if_pos ⟨rfl, rfl, by omega, by omega⟩, u2, show j + 1 + (i - j) = i + 1 by omega]
theorem dR_n (ht : 0 ≤ t ∧ t < 3) (hs : 0 ≤ s ∧ s < 3) : nL (dR a p t j) q s = if q = p ∧ s = t then nL a p t - 1 else nL a q s := by
  have key : ∀ w : Int, 0 ≤ w → w < 3 → dR a p t j 2 (293 + 4 * w) q = if q = p ∧ w = t then a 2 (293 + 4 * t) p - 1 else a 2 (293 + 4 * w) q := fun w u v => by
    unfold dR
    by_cases z : q = p ∧ w = t
    · rw [if_pos z, if_pos ⟨rfl, by omega, z.1⟩]
    · rw [if_neg z, if_neg (by omega), if_neg (by omega)]
  have nx : ∀ (a : vH) (q w : Int), 0 ≤ w → w < 3 → nL a q w = a 2 (293 + 4 * w) q := fun a q w u v => by
    rcases (show w = 0 ∨ w = 1 ∨ w = 2 by omega) with z | z | z <;> subst z
    · exact nL_s
    · exact nL_v
    · exact nL_f
  rw [nx _ _ _ hs.1 hs.2, nx _ _ _ ht.1 ht.2, nx _ _ _ hs.1 hs.2, key s hs.1 hs.2]
theorem nL_x (u : 0 ≤ s ∧ s < 3) : nL a q s = a 2 (293 + 4 * s) q := by
  rcases (show s = 0 ∨ s = 1 ∨ s = 2 by omega) with z | z | z <;> subst z
  · exact nL_s
  · exact nL_v
  · exact nL_f
theorem dR_r {i : Int} (n6 : nL a p t ≤ 6) (hp : 0 ≤ p ∧ p < 4) (ht : 0 ≤ t ∧ t < 3) (hs : 0 ≤ s ∧ s < 3) (hr : 294 + 4 * s ≤ r ∧ r ≤ 296 + 4 * s) (hj : 0 ≤ j) (hi : 0 ≤ i ∧ i < nL (dR a p t j) q s) (q6 : nL (dR a p t j) q s ≤ 6) : dR a p t j 2 r (6 * q + i) = a 2 r (6 * q + ixR p t j q s i) := by
  rw [dR_n ht hs] at hi q6
  rw [nL_x ht] at hi q6 n6
  unfold ixR dR
  rw [if_neg (by omega)]
  by_cases z : q = p ∧ s = t
  · rw [if_pos z] at hi
    by_cases y : j ≤ i
    · rw [if_pos (by omega), if_pos ⟨z, y⟩, Int.add_assoc]
    · rw [if_neg (by omega), if_neg (fun w => y w.2)]
  · rw [if_neg z] at hi q6
    rw [if_neg (by omega), if_neg (fun w => z w.1)]
theorem dR_o {k : Nat} {i : Int} (ht : 0 ≤ t ∧ t < 3) (n : ¬ (k = 2 ∧ 293 ≤ r ∧ r ≤ 304)) : dR a p t j k r i = a k r i := by
  unfold dR
  rw [if_neg (by omega), if_neg (by omega)]
theorem dR_sx : sx a (dR a p t j) := fun k r i e => (if_neg (fun z => by rw [z.1] at e; cases e)).trans (if_neg (fun z => by rw [z.1] at e; cases e))
theorem cUq_d (U : cUq h a) (I : iD h) (hp : 0 ≤ p ∧ p < 4) (ht : 0 ≤ t ∧ t < 3) (L : cLi h (140 + 36 * p + t) (nL a p t)) (hn : 0 < nL a p t) : 282 ≤ dL h p t ∧ h 0 (dL h p t) 0 = 6 ∧ h 1 (dL h p t) 0 = 10 := by
  refine (I.2 p t hp.1 hp.2 ht.1 ht.2).resolve_left (fun z => ?_)
  have := (L.2.2 hn).2
  unfold dL at z
  rw [z, I.1.2] at this
  omega
theorem cLi_of (L : cLay h a p (138 + 36 * p + 1)) (ht : 0 ≤ t ∧ t < 3) : cLi h (140 + 36 * p + t) (nL a p t) := by
  rcases (show t = 0 ∨ t = 1 ∨ t = 2 by omega) with z | z | z <;> subst z
  · rw [nL_s, show 140 + 36 * p + 0 = 138 + 36 * p + 1 + 1 by omega]; exact L.2.1
  · rw [nL_v, show 140 + 36 * p + 1 = 138 + 36 * p + 1 + 2 by omega]; exact L.2.2.1
  · rw [nL_f, show 140 + 36 * p + 2 = 138 + 36 * p + 1 + 3 by omega]; exact L.2.2.2.1
theorem kd_of (L : cLay h a p (138 + 36 * p + 1)) (ht : 0 ≤ t ∧ t < 3) : ∃ c : Nat, c < 14 ∧ ∀ i : Int, 0 ≤ i → i < nL a p t → h 0 (h 2 (dL h p t) i) 0 = 20 + c := by
  rcases (show t = 0 ∨ t = 1 ∨ t = 2 by omega) with z | z | z <;> subst z
  · refine ⟨9, by decide, fun i u v => ?_⟩
    have := (L.2.2.2.2.1 i u (by rw [nL_s] at v; exact v)).1.1
    rw [eL_s] at this
    exact this
  · refine ⟨12, by decide, fun i u v => ?_⟩
    have := (L.2.2.2.2.2.1 i u (by rw [nL_v] at v; exact v)).1.1
    rw [eL_v] at this
    exact this
  · refine ⟨2, by decide, fun i u v => ?_⟩
    have := (L.2.2.2.2.2.2 i u (by rw [nL_f] at v; exact v)).1
    rw [eL_f] at this
    exact this
end LS2

