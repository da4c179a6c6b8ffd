/-! layers change: what is kept -/
section LYK
variable {h h2 a b : vH} {p q P Q X l x s f t j st r l0 x0 n d : Int}
theorem cCnt_o {q Q : Int} (x : ∀ (k : Nat) (r i : Int), (r = Q ∨ (Q + 5 ≤ r ∧ r ≤ Q + 14) ∨ r = Q + 26 ∨ r = Q + 27) → h2 k r i = h k r i) (c : cCnt h a q Q) : cCnt h2 a q Q := by
  obtain ⟨c1, c2⟩ := c
  refine ⟨fun l u v => ?_, ?_⟩
  · rw [x _ _ _ (by omega)]; exact c1 l u v
  · rw [x _ _ _ (by omega), x _ _ _ (by omega)]
    refine c2.imp (fun z => z) (fun z => ⟨z.1, fun l hl => ?_, z.2.2⟩)
    rw [x _ _ _ (by omega), x _ _ _ (by omega)]
    exact z.2.1 l hl
theorem cLd_o {q Q : Int} (x : ∀ (k : Nat) (r i : Int), (r = Q ∨ (Q + 5 ≤ r ∧ r ≤ Q + 14) ∨ r = Q + 26 ∨ r = Q + 27) → h2 k r i = h k r i) (c : cLd h a q Q) : cLd h2 a q Q := by
  unfold cLd
  rw [x _ _ _ (by omega), x _ _ _ (by omega)]
  exact c.imp (fun z => z) (fun z => ⟨z.1, z.2.1, z.2.2.1, cLaid_off (fun k r i u v => x k r i (by omega)) z.2.2.2⟩)
/-- one pane has forgotten -/
theorem cAll_one (w : cW h2 b) (c : cAll h a) (el : b 1504 282 0 = a 1504 282 0) (fr : ∀ q, 0 ≤ q → q < 4 → ¬ q = p → ∀ (k : Nat) (r i : Int), (r = 138 + 36 * q ∨ (138 + 36 * q + 5 ≤ r ∧ r ≤ 138 + 36 * q + 14) ∨ r = 138 + 36 * q + 26 ∨ r = 138 + 36 * q + 27) → h2 k r i = h k r i)
    (f1 : h2 714 (138 + 36 * p) 0 = 0) (f2 : h2 715 (138 + 36 * p) 0 = -1) (f3 : ∀ i, 0 ≤ i → i < 60 → h2 2 (138 + 36 * p + 26) i = -1 ∨ (h2 2 (138 + 36 * p + 26) i = h 2 (138 + 36 * p + 26) i ∧ (i < a 1504 282 0 → lnE a b p i)))
    (e : ∀ q, 0 ≤ q → q < 4 → ¬ q = p → ∀ i, 0 ≤ i → i < a 1504 282 0 → lnE a b q i) : cAll h2 b := by
  refine cAll_of w (fun q u v => ?_)
  by_cases z : q = p
  · subst z
    refine ⟨⟨fun i s t => ?_, Or.inl f1⟩, Or.inl f2⟩
    rcases f3 i s t with y | y
    · exact Or.inl y
    · rw [y.1, el]
      exact ((c.2.2.1 q u v).2.1.2.1.1 i s t).imp (fun z => z) (fun w => ⟨w.1, by rw [mRC_loc (y.2 w.1)]; exact w.2⟩)
  · exact ⟨cCnt_loc el (e q u v z) (cCnt_o (fr q u v z) (c.2.2.1 q u v).2.1.2.1), cLd_loc el (e q u v z) (cLd_o (fr q u v z) (c.2.2.1 q u v).2.1.2.2)⟩
/-- layers alone differ -/
def eqY (a b : vH) : Prop := ∀ (k : Nat) (r i : Int), ¬ (k = 2 ∧ 293 ≤ r ∧ r ≤ 304) → b k r i = a k r i
theorem eqY_sx (y : eqY a b) : sx a b := fun k r i e => y k r i (fun z => by rw [z.1] at e; cases e)
theorem iG_ly (g : iG a) (y : eqY a b) (N : cn6 b)
    (F : ∀ p, 0 ≤ p → p < 4 → ∀ k, 6 * p ≤ k → k < 6 * p + b 2 301 p → 0 ≤ b 2 302 k ∧ b 2 302 k < b 2 303 k ∧ b 2 303 k < a 1504 282 0)
    (S : ∀ p, 0 ≤ p → p < 4 → ∀ k, 6 * p ≤ k → k < 6 * p + b 2 293 p → 0 ≤ b 2 294 k ∧ b 2 294 k < a 1504 282 0 ∧ 0 ≤ b 2 295 k ∧ b 2 295 k < b 2 296 k ∧ b 2 296 k ≤ a 2 284 (b 2 294 k))
    (V : ∀ p, 0 ≤ p → p < 4 → ∀ k, 6 * p ≤ k → k < 6 * p + b 2 297 p → 0 ≤ b 2 298 k ∧ b 2 298 k < a 1504 282 0 ∧ 0 ≤ b 2 299 k ∧ b 2 299 k ≤ a 2 284 (b 2 298 k)) : iG b := by
  have el : b 1504 282 0 = a 1504 282 0 := y _ _ _ (by decide)
  have eN : ∀ i, b 2 284 i = a 2 284 i := fun i => y _ _ _ (by decide)
  have gl := g.1.2.1
  refine ⟨⟨shModel_sx (eqY_sx y) g.1.1, by rw [el]; exact gl, fun i u v => by rw [eN]; exact g.1.2.2.1 i u v, fun p u v => ?_⟩, fun p u v => ?_⟩
  · obtain ⟨o, w1, w2⟩ := g.1.2.2.2 p u v
    obtain ⟨⟨n1, n2⟩, ⟨n3, n4⟩, n5, n6⟩ := N p u v
    rw [y 2 286 p (by decide), y 2 287 p (by decide)]
    refine ⟨⟨n1, n2, n3, n4, n5, n6, fun k s t => ?_⟩, w1, w2⟩
    obtain ⟨s1, s2, s3, s4, s5⟩ := S p u v k s t
    have := g.1.2.2.1 _ s1 (by omega)
    omega
  · obtain ⟨-, -, -, f4, f5, f6⟩ := g.2 p u v
    rw [y 2 305 p (by decide), y 2 306 p (by decide), y 2 308 p (by decide), y 2 309 p (by decide), y 2 288 p (by decide), el, eN, eN]
    exact ⟨F p u v, fun k s t => by rw [eN]; exact S p u v k s t, fun k s t => by rw [eN]; exact V p u v k s t, f4, f5, f6⟩
theorem iH_x (R : ∀ r : Int, (r = 289 ∨ r = 290 ∨ r = 291 ∨ r = 292 ∨ r = 310 ∨ r = 334 ∨ r = 335 ∨ r = 329 ∨ r = 327) → b 2 r = a 2 r) (eg : b 1559 282 0 = a 1559 282 0) (sg : ∀ l x, 0 ≤ l → l < b 1504 282 0 → 0 ≤ x → x < b 2 284 l → 0 ≤ b 2 283 (80 * l + x) ∧ b 2 283 (80 * l + x) ≤ 127) (i : iH a) : iH b := by
  obtain ⟨i1, i2, i3, i4, i5, i6, i7⟩ := i
  unfold iH
  rw [R 289 (by decide), R 290 (by decide), R 291 (by decide), R 292 (by decide), R 310 (by decide), R 334 (by decide), R 335 (by decide), R 329 (by decide), R 327 (by decide), eg]
  exact ⟨i1, i2, i3, i4, i5, i6, sg⟩
theorem iH_ly (y : eqY a b) (i : iH a) : iH b := by
  refine iH_x (fun r hr => funext (fun _ => y _ _ _ (by omega))) (y _ _ _ (by decide)) (fun l x u v w z => ?_) i
  rw [y 1504 _ _ (by decide)] at v
  rw [y 2 284 _ (by decide)] at z
  rw [y 2 283 _ (by decide)]
  exact i.2.2.2.2.2.2 l x u v w z
theorem iM_ly (y : eqY a b) (m : iM a) : iM b := fun l u v => by
  rw [y 2 285 _ (by decide)]
  rw [y 1504 _ _ (by decide)] at v
  exact m l u v
/-- one out of a list -/
theorem dR_slot (ht : 0 ≤ t ∧ t < 3) (hs : 0 ≤ s ∧ s < 3) (hp : 0 ≤ p ∧ p < 4) (n6 : nL a p t ≤ 6) (hj : 0 ≤ j) {i : Int} (hi : 0 ≤ i ∧ i < 24) : ∃ i2, (0 ≤ i2 ∧ i2 < 24) ∧ ∀ r, 294 + 4 * s ≤ r ∧ r ≤ 296 + 4 * s → dR a p t j 2 r i = a 2 r i2 := by
  rw [nL_x ht] at n6
  by_cases z : s = t ∧ 6 * p + j ≤ i ∧ i < 6 * p + a 2 (293 + 4 * t) p - 1
  · refine ⟨i + 1, by omega, fun r hr => ?_⟩
    unfold dR
    rw [if_neg (by omega), if_pos (by omega)]
  · refine ⟨i, hi, fun r hr => ?_⟩
    unfold dR
    rw [if_neg (by omega), if_neg (by omega)]
theorem dR_n6 (n6 : cn6 a) (hp : 0 ≤ p ∧ p < 4) (ht : 0 ≤ t ∧ t < 3) (hn : 0 < nL a p t) : cn6 (dR a p t j) := fun q u v => by
  obtain ⟨k1, k2, k3⟩ := n6 q u v
  have m1 := dR_n (a := a) (p := p) (j := j) (q := q) ht (s := 0) (by decide)
  have m2 := dR_n (a := a) (p := p) (j := j) (q := q) ht (s := 1) (by decide)
  have m3 := dR_n (a := a) (p := p) (j := j) (q := q) ht (s := 2) (by decide)
  rw [nL_s, nL_s] at m1
  rw [nL_v, nL_v] at m2
  rw [nL_f, nL_f] at m3
  rw [m1, m2, m3]
  refine ⟨?_, ?_, ?_⟩
  · split
    · rename_i z; rw [← z.2, nL_s, ← z.1] at hn ⊢; omega
    · exact k1
  · split
    · rename_i z; rw [← z.2, nL_v, ← z.1] at hn ⊢; omega
    · exact k2
  · split
    · rename_i z; rw [← z.2, nL_f, ← z.1] at hn ⊢; omega
    · exact k3
theorem iC_dR (m : iC a) (ht : 0 ≤ t ∧ t < 3) (hp : 0 ≤ p ∧ p < 4) (n6 : nL a p t ≤ 6) (hj : 0 ≤ j) : iC (dR a p t j) := by
  intro k u v
  obtain ⟨k2, b2, e2⟩ := dR_slot (s := 2) ht (by decide) hp n6 hj ⟨u, v⟩
  rw [e2 _ (by decide)]
  exact m k2 b2.1 b2.2
end LYK

