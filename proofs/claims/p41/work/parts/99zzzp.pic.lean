/-! a pane's pictures change -/
def pF (p : Int) (h h2 : vH) : Prop := ∀ (k : Nat) (r i : Int), ¬ ((k = 2 ∧ 138 + 36 * p + 28 ≤ r ∧ r ≤ 138 + 36 * p + 35) ∨ (k = 803 ∧ (r = 138 + 36 * p + 28 ∨ r = 138 + 36 * p + 32)) ∨ (r = 138 + 36 * p ∧ 717 ≤ k ∧ k ≤ 719)) → h2 k r i = h k r i
/-- what the class tells but for a pane's pictures -/
def cNP (h a : vH) (p : Int) : Prop := shPL h ∧ cTx h a ∧ (∀ q, 0 ≤ q → q < 4 → h 2 126 q = 138 + 36 * q ∧ cPan h a q ∧ (¬ q = p → cPic h a q (138 + 36 * q))) ∧ cStk h a ∧ cLog h a ∧ cUq h a ∧ cRd h a p (138 + 36 * p)
section PIC
variable {h h2 a b : vH} {p q P Q X l x s f t j st r l0 x0 : Int}
theorem pF_sx (x : pF p h h2) : sx h h2 := fun k r i z => x k r i (fun w => by
  rcases w with w | w | w
  · exact (n2k z).1 w.1
  · rw [w.1] at z; cases z
  · have : k = 717 ∨ k = 718 ∨ k = 719 := by omega
    rcases this with e | e | e <;> (rw [e] at z; cases z))
theorem cLi_pF {r n : Int} (hp : 0 ≤ p ∧ p < 4) (hq : 0 ≤ q ∧ q < 4) (x : pF p h h2) (hr : 138 + 36 * q + 2 ≤ r ∧ r ≤ 138 + 36 * q + 4) (hd : h 101 r 0 = 1 ∨ 282 ≤ h 101 r 0) (c : cLi h r n) : cLi h2 r n ∧ h2 101 r 0 = h 101 r 0 ∧ ∀ j, lE h2 r j = lE h r j := by
  obtain ⟨c1, c2, c3⟩ := c
  have e1 : h2 101 r 0 = h 101 r 0 := x _ _ _ (by omega)
  refine ⟨⟨(x 0 r 0 (by omega)).trans c1, (x _ _ _ (by omega)).trans c2, fun z => ?_⟩, e1, fun j => ?_⟩
  · rw [e1, x 0 _ _ (by omega), x 1 _ _ (by omega)]
    exact c3 z
  · unfold lE
    rw [e1, x 2 _ _ (by omega)]
theorem cPl_pF (hp : 0 ≤ p ∧ p < 4) (x : pF p h h2) (c : cPl h r st l q) : cPl h2 r st l q := ⟨(x _ _ _ (by omega)).trans c.1, (x _ _ _ (by omega)).trans c.2.1, (x _ _ _ (by omega)).trans c.2.2⟩
theorem cLay_pF (hp : 0 ≤ p ∧ p < 4) (hq : 0 ≤ q ∧ q < 4) (x : pF p h h2) (u : cUq h a) (c : cLay h a q (138 + 36 * q + 1)) : cLay h2 a q (138 + 36 * q + 1) ∧ ∀ t j, 0 ≤ t → t < 3 → dL h2 q t = dL h q t ∧ eL h2 q t j = eL h q t j := by
  have X := pF_sx x
  obtain ⟨u0, u1, u2, u3, u4⟩ := u
  obtain ⟨c1, c2, c3, c4, c5, c6, c7⟩ := c
  have d0 := (u1 q 0 hq.1 hq.2 (by omega) (by omega)).1
  have d1 := (u1 q 1 hq.1 hq.2 (by omega) (by omega)).1
  have d2 := (u1 q 2 hq.1 hq.2 (by omega) (by omega)).1
  unfold dL at d0 d1 d2
  rw [show 140 + 36 * q + 0 = 138 + 36 * q + 1 + 1 by omega] at d0
  rw [show 140 + 36 * q + 1 = 138 + 36 * q + 1 + 2 by omega] at d1
  rw [show 140 + 36 * q + 2 = 138 + 36 * q + 1 + 3 by omega] at d2
  obtain ⟨l0, m0, n0⟩ := cLi_pF hp hq x (by omega) d0 c2
  obtain ⟨l1, m1, n1⟩ := cLi_pF hp hq x (by omega) d1 c3
  obtain ⟨l2, m2, n2⟩ := cLi_pF hp hq x (by omega) d2 c4
  refine ⟨⟨shLayers_sx X c1, l0, l1, l2, fun j s t => ?_, fun j s t => ?_, fun j s t => ?_⟩, fun t j t0 t3 => ?_⟩
  · rw [n0]
    obtain ⟨k1, q2, q3⟩ := c5 j s t
    exact ⟨shSpan_sx X k1, cPl_pF hp x q2, cPl_pF hp x q3⟩
  · rw [n1]
    obtain ⟨k1, q2, q3, q4⟩ := c6 j s t
    exact ⟨shVirtual_sx X k1, cPl_pF hp x q2, (x _ _ _ (by omega)).trans q3, q4⟩
  · rw [n2]
    obtain ⟨k1, q2, q3, q4⟩ := c7 j s t
    exact ⟨shFold_sx X k1, (x _ _ _ (by omega)).trans q2, (x _ _ _ (by omega)).trans q3, (x _ _ _ (by omega)).trans q4⟩
  · unfold dL eL
    rcases (show t = 0 ∨ t = 1 ∨ t = 2 by omega) with z | z | z <;> subst z
    · rw [show 140 + 36 * q + 0 = 138 + 36 * q + 1 + 1 by omega]; exact ⟨m0, n0 j⟩
    · rw [show 140 + 36 * q + 1 = 138 + 36 * q + 1 + 2 by omega]; exact ⟨m1, n1 j⟩
    · rw [show 140 + 36 * q + 2 = 138 + 36 * q + 1 + 3 by omega]; exact ⟨m2, n2 j⟩
theorem cTx_pF (hp : 0 ≤ p ∧ p < 4) (x : pF p h h2) (c : cTx h a) : cTx h2 a := by
  obtain ⟨c1, c2, c3, c4, c5⟩ := c
  have X := pF_sx x
  have e : ∀ i, h2 2 5 i = h 2 5 i := fun i => x _ _ _ (by omega)
  refine ⟨shText_sx X c1, ⟨(x _ _ _ (by omega)).trans c2.1, c2.2⟩, fun i u v => ?_, fun i j u v w => ?_, fun i u v => ?_⟩
  · rw [e]
    exact ⟨shLine_sx X (c3 i u v).1, (c3 i u v).2⟩
  · rw [e, e]; exact c4 i j u v w
  · rw [e]
    obtain ⟨⟨d1, d2, d3⟩, d4⟩ := c5 i u v
    have := c3 i u (by omega)
    exact ⟨⟨shLine_sx X d1, (x _ _ _ (by omega)).trans d2, fun j s t => (x _ _ _ (by omega)).trans (d3 j s t)⟩, (x _ _ _ (by omega)).trans d4⟩
theorem cNP_pF (hp : 0 ≤ p ∧ p < 4) (x : pF p h h2) (c : cNP h a p) : cNP h2 a p := by
  have X := pF_sx x
  obtain ⟨c1, c2, c3, c4, c5, c6, c7⟩ := c
  have T := cTx_pF hp x c2
  have ly := fun q (u : 0 ≤ q) (v : q < 4) => cLay_pF hp ⟨u, v⟩ x c6 (c3 q u v).2.1.1.2.1
  have pan : ∀ q, 0 ≤ q → q < 4 → cPan h2 a q := fun q u v => by
    obtain ⟨⟨f1, f2, f3, f4, f5, f6, f7, f8⟩, k2, k3⟩ := (c3 q u v).2.1
    exact ⟨⟨shPane_sx X f1, (ly q u v).1, cPl_pF hp x f3, cPl_pF hp x f4, (x _ _ _ (by omega)).trans f5, (x _ _ _ (by omega)).trans f6, (x _ _ _ (by omega)).trans f7, (x _ _ _ (by omega)).trans f8⟩, ⟨fun i s t => by
      rw [x 2 _ _ (by omega)]
      exact k2.1 i s t, by
      rw [x 714 _ _ (by omega), x 713 _ _ (by omega)]
      refine k2.2.imp (fun z => z) (fun z => ⟨z.1, fun i s => ?_, z.2.2⟩)
      rw [x 2 _ _ (by omega), x 2 _ _ (by omega)]
      exact z.2.1 i s⟩, by
      unfold cLd
      rw [x 715 _ _ (by omega), x 716 _ _ (by omega)]
      exact k3.imp (fun z => z) (fun z => ⟨z.1, z.2.1, z.2.2.1, cLaid_off (fun k r i s t => x k r i (by omega)) z.2.2.2⟩)⟩
  have U : cUq h2 a := cUq_of (x 3 0 0 (by omega)) (fun q t j a1 a2 a3 a4 => by
    have := (ly q a1 a2).2 t j a3 a4
    exact ⟨this.1, fun _ _ => this.2⟩) c6
  refine ⟨shPL_sx X c1, T, fun q u v => ⟨(x _ _ _ (by omega)).trans (c3 q u v).1, pan q u v, fun z => ?_⟩, fun q u v => ?_, ?_, U, ⟨T, (pan p hp.1 hp.2).1, (pan p hp.1 hp.2).2.1, (pan p hp.1 hp.2).2.2, (x _ _ _ (by omega)).trans c7.2.2.2.2⟩⟩
  · obtain ⟨p1, p2, p3, p4, p5, p6⟩ := (c3 q u v).2.2 z
    have ed : h2 717 (138 + 36 * q) 0 = h 717 (138 + 36 * q) 0 := x _ _ _ (by omega)
    refine ⟨shPicture_sx X p1, shPicture_sx X p2, ?_, ?_, ?_, fun k s t => ?_⟩
    · rw [ed, x 718 (138 + 36 * q) 0 (by omega)]; exact p3
    · rw [x 719 _ _ (by omega)]; exact p4
    · rw [ed, x 803 _ _ (by omega)]; exact p5
    · obtain ⟨q1, q2, q3⟩ := p6 k s t
      rw [ed, x 2 (h 717 (138 + 36 * q) 0 + 2) _ (by omega), x 2 (h 717 (138 + 36 * q) 0 + 3) _ (by omega)]
      refine ⟨q1, q2, fun c s2 t2 => ?_⟩
      rw [x 2 (h 717 (138 + 36 * q) 0 + 1) _ (by omega)]
      exact q3 c s2 t2
  · rw [x 2 128 q (by omega), x 2 129 q (by omega), x 2 130 q (by omega), x 2 131 q (by omega), x 2 132 q (by omega)]
    exact c4 q u v
  · obtain ⟨l1, l2, l3, l4⟩ := c5
    have ex : h2 1406 3 0 = h 1406 3 0 := x _ _ _ (by omega)
    refine ⟨(x _ _ _ (by omega)).trans l1, l2, by rw [ex]; exact l3, fun i u v => ?_⟩
    rw [ex, x 2 134 _ (by omega), x 2 135 _ (by omega)]
    exact l4 i u v
theorem cNP_of (hp : 0 ≤ p ∧ p < 4) (c : cAll h a) (r : cRd h a p (138 + 36 * p)) : cNP h a p := ⟨c.1, c.2.1, fun q u v => ⟨(c.2.2.1 q u v).1, (c.2.2.1 q u v).2.1, fun _ => (c.2.2.1 q u v).2.2⟩, c.2.2.2.1, c.2.2.2.2.1, c.2.2.2.2.2, r⟩
theorem cAll_NP (c : cNP h a p) (pc : cPic h a p (138 + 36 * p)) : cAll h a := ⟨c.1, c.2.1, fun q u v => ⟨(c.2.2.1 q u v).1, (c.2.2.1 q u v).2.1, by
  by_cases z : q = p
  · rw [z]; exact pc
  · exact (c.2.2.1 q u v).2.2 z⟩, c.2.2.2.1, c.2.2.2.2.1, c.2.2.2.2.2.1⟩
/-- the spare picture changes -/
def sF (S : Int) (h h2 : vH) : Prop := ∀ (k : Nat) (r i : Int), ¬ ((k = 2 ∧ S + 1 ≤ r ∧ r ≤ S + 3) ∨ (k = 803 ∧ r = S)) → h2 k r i = h k r i
theorem sF_pF {S : Int} (hS : S = 138 + 36 * p + 28 ∨ S = 138 + 36 * p + 32) (x : sF S h h2) : pF p h h2 := fun k r i e => x k r i (by omega)
theorem cAll_sF {S : Int} (hp : 0 ≤ p ∧ p < 4) (eS : h 718 (138 + 36 * p) 0 = S) (c : cAll h a) (r : cRd h a p (138 + 36 * p)) (x : sF S h h2) : cAll h2 a ∧ cRd h2 a p (138 + 36 * p) := by
  obtain ⟨p1, p2, p3, p4, p5, p6⟩ := (c.2.2.1 p hp.1 hp.2).2.2
  have hS : S = 138 + 36 * p + 28 ∨ S = 138 + 36 * p + 32 := by
    rw [← eS]
    exact p3.elim (fun w => Or.inr w.2) (fun w => Or.inl w.2)
  have y := sF_pF hS x
  have N := cNP_pF hp y (cNP_of hp c r)
  have X := pF_sx y
  have e1 : h2 717 (138 + 36 * p) 0 = h 717 (138 + 36 * p) 0 := x _ _ _ (by omega)
  have e2 : h2 718 (138 + 36 * p) 0 = h 718 (138 + 36 * p) 0 := x _ _ _ (by omega)
  have nD : (h 717 (138 + 36 * p) 0 = 138 + 36 * p + 28 ∧ S = 138 + 36 * p + 32) ∨ (h 717 (138 + 36 * p) 0 = 138 + 36 * p + 32 ∧ S = 138 + 36 * p + 28) := by
    rw [← eS]
    exact p3
  refine ⟨cAll_NP N ⟨shPicture_sx X p1, shPicture_sx X p2, by rw [e1, e2]; exact p3, (x _ _ _ (by omega)).trans p4, ?_, fun k s t => ?_⟩, N.2.2.2.2.2.2⟩
  · rw [e1, x 803 _ _ (by omega)]; exact p5
  · obtain ⟨q1, q2, q3⟩ := p6 k s t
    rw [e1, x 2 (h 717 (138 + 36 * p) 0 + 2) _ (by omega), x 2 (h 717 (138 + 36 * p) 0 + 3) _ (by omega)]
    refine ⟨q1, q2, fun c s2 t2 => ?_⟩
    rw [x 2 (h 717 (138 + 36 * p) 0 + 1) _ (by omega)]
    exact q3 c s2 t2
theorem sF_KR {S : Int} (hS : 138 ≤ S ∧ S ≤ 278) (x : sF S h h2) : KR h h2 := ⟨fun k r i u => x k r i (by omega), x _ _ _ (by omega), x _ _ _ (by omega)⟩
/-- the rows up to K lie in a picture -/
def pT (h : vH) (S : Int) (a : vH) (p t K : Int) : Prop := h 803 S 0 = K ∧ ∀ k, 0 ≤ k → k < K → h 2 (S + 2) k = dN a p t k ∧ h 2 (S + 3) k = dM a p t k ∧ ∀ c, 0 ≤ c → c < dN a p t k → h 2 (S + 1) (k * 131 + c) = pkV a p (t + k) c
end PIC

