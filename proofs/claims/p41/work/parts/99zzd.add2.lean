/-! one more in a list: all that the class tells -/
/-- an object of a list: t = 0 a span, 1 a virtual text, 2 a fold -/
def elT (h : vH) (E t l f u : Int) : Prop := (t = 0 ∧ shSpan h E ∧ cPl h (E + 1) 1 l f ∧ cPl h (E + 2) 0 l u) ∨ (t = 1 ∧ shVirtual h E ∧ cPl h (E + 1) 0 l f ∧ h 1301 E 0 = u ∧ isVt u) ∨ (t = 2 ∧ shFold h E ∧ h 300 E 0 = l ∧ h 301 E 0 = f ∧ h 302 E 0 = u)
def dA (a : vH) (p t l f u : Int) : vH := vup (vup (vup (vup a 2 (294 + 4 * t) (6 * p + a 2 (293 + 4 * t) p) l) 2 (295 + 4 * t) (6 * p + a 2 (293 + 4 * t) p) f) 2 (296 + 4 * t) (6 * p + a 2 (293 + 4 * t) p) u) 2 (293 + 4 * t) p (a 2 (293 + 4 * t) p + 1)
/-- of what lies ahead of new objects, only a list of a pane -/
def fA (p t : Int) (h h2 : vH) : Prop := ∀ (k : Nat) (r i : Int), r ≤ 281 → ¬ (r = 140 + 36 * p + t ∧ 100 ≤ k ∧ k ≤ 102) → ¬ (r = 0 ∧ 3 ≤ k ∧ k ≤ 5) → h2 k r i = h k r i
section AD2
variable {h h1 h2 a b : vH} {p q P Q X l x f u t j st r l0 x0 n d N E s : Int}
theorem elT_fr (hs : 0 ≤ t ∧ t < 3) (x : ∀ (k : Nat) (r i : Int), ¬ k = 2 → E ≤ r → r < E + (3 - t) → h2 k r i = h k r i) (e : elT h E t l f u) : elT h2 E t l f u := by
  rcases e with ⟨e0, ⟨k1, k2, k3, k4, k5⟩, e2, e3⟩ | ⟨e0, ⟨k1, k2, k3⟩, e2, e3, e4⟩ | ⟨e0, e1, e2, e3, e4⟩
  · left
    refine ⟨e0, ⟨(x _ _ _ (by decide) (by omega) (by omega)).trans k1, (x _ _ _ (by decide) (by omega) (by omega)).trans k2, (x 0 _ _ (by decide) (by omega) (by omega)).trans k3, (x _ _ _ (by decide) (by omega) (by omega)).trans k4, (x 0 _ _ (by decide) (by omega) (by omega)).trans k5⟩, ⟨?_, ?_, ?_⟩, ?_, ?_, ?_⟩
    · exact (x _ _ _ (by decide) (by omega) (by omega)).trans e2.1
    · exact (x _ _ _ (by decide) (by omega) (by omega)).trans e2.2.1
    · exact (x _ _ _ (by decide) (by omega) (by omega)).trans e2.2.2
    · exact (x _ _ _ (by decide) (by omega) (by omega)).trans e3.1
    · exact (x _ _ _ (by decide) (by omega) (by omega)).trans e3.2.1
    · exact (x _ _ _ (by decide) (by omega) (by omega)).trans e3.2.2
  · right; left
    refine ⟨e0, ⟨(x _ _ _ (by decide) (by omega) (by omega)).trans k1, (x _ _ _ (by decide) (by omega) (by omega)).trans k2, (x 0 _ _ (by decide) (by omega) (by omega)).trans k3⟩, ⟨?_, ?_, ?_⟩, (x _ _ _ (by decide) (by omega) (by omega)).trans e3, e4⟩
    · exact (x _ _ _ (by decide) (by omega) (by omega)).trans e2.1
    · exact (x _ _ _ (by decide) (by omega) (by omega)).trans e2.2.1
    · exact (x _ _ _ (by decide) (by omega) (by omega)).trans e2.2.2
  · right; right
    exact ⟨e0, (x 0 _ _ (by decide) (by omega) (by omega)).trans e1, (x _ _ _ (by decide) (by omega) (by omega)).trans e2, (x _ _ _ (by decide) (by omega) (by omega)).trans e3, (x _ _ _ (by decide) (by omega) (by omega)).trans e4⟩
theorem cLay_T (L : cLay h a q (138 + 36 * q + 1)) (hs : 0 ≤ s ∧ s < 3) {i : Int} (u : 0 ≤ i) (v : i < nL a q s) : elT h (eL h q s i) s (a 2 (294 + 4 * s) (6 * q + i)) (a 2 (295 + 4 * s) (6 * q + i)) (a 2 (296 + 4 * s) (6 * q + i)) := by
  obtain ⟨l1, l2, l3, l4, l5, l6, l7⟩ := L
  rcases (show s = 0 ∨ s = 1 ∨ s = 2 by omega) with z | z | z <;> subst z
  · rw [nL_s] at v
    obtain ⟨m1, m2, m3⟩ := l5 i u v
    rw [eL_s] at m1 m2 m3
    exact Or.inl ⟨rfl, m1, m2, m3⟩
  · rw [nL_v] at v
    obtain ⟨m1, m2, m3, m4⟩ := l6 i u v
    rw [eL_v] at m1 m2 m3
    exact Or.inr (Or.inl ⟨rfl, m1, m2, m3, m4⟩)
  · rw [nL_f] at v
    obtain ⟨m1, m2, m3, m4⟩ := l7 i u v
    rw [eL_f] at m1 m2 m3 m4
    exact Or.inr (Or.inr ⟨rfl, m1, m2, m3, m4⟩)
theorem cLay_of (sL : shLayers h (138 + 36 * q + 1)) (C : ∀ s, 0 ≤ s → s < 3 → cLi h (140 + 36 * q + s) (nL a q s)) (T : ∀ s, 0 ≤ s → s < 3 → ∀ i, 0 ≤ i → i < nL a q s → elT h (eL h q s i) s (a 2 (294 + 4 * s) (6 * q + i)) (a 2 (295 + 4 * s) (6 * q + i)) (a 2 (296 + 4 * s) (6 * q + i))) : cLay h a q (138 + 36 * q + 1) := by
  have v0 := C 0 (by decide) (by decide)
  have v1 := C 1 (by decide) (by decide)
  have v2 := C 2 (by decide) (by decide)
  rw [nL_s, show 140 + 36 * q + 0 = 138 + 36 * q + 1 + 1 by omega] at v0
  rw [nL_v, show 140 + 36 * q + 1 = 138 + 36 * q + 1 + 2 by omega] at v1
  rw [nL_f, show 140 + 36 * q + 2 = 138 + 36 * q + 1 + 3 by omega] at v2
  refine ⟨sL, v0, v1, v2, fun i u v => ?_, fun i u v => ?_, fun i u v => ?_⟩
  · rcases T 0 (by decide) (by decide) i u (by rw [nL_s]; exact v) with e | e | e
    · rw [eL_s]; exact e.2
    · exact absurd e.1 (by decide)
    · exact absurd e.1 (by decide)
  · rcases T 1 (by decide) (by decide) i u (by rw [nL_v]; exact v) with e | e | e
    · exact absurd e.1 (by decide)
    · rw [eL_v]; exact e.2
    · exact absurd e.1 (by decide)
  · rcases T 2 (by decide) (by decide) i u (by rw [nL_f]; exact v) with e | e | e
    · exact absurd e.1 (by decide)
    · exact absurd e.1 (by decide)
    · rw [eL_f]; exact e.2
theorem dA_o {k : Nat} {i : Int} (ht : 0 ≤ t ∧ t < 3) (n : ¬ (k = 2 ∧ 293 ≤ r ∧ r ≤ 304)) : dA a p t l f u k r i = a k r i := by
  unfold dA vup
  rw [if_neg (by omega), if_neg (by omega), if_neg (by omega), if_neg (by omega)]
theorem dA_eqY (ht : 0 ≤ t ∧ t < 3) : eqY a (dA a p t l f u) := fun k r i n => dA_o ht n
theorem dA_n (ht : 0 ≤ t ∧ t < 3) (hs : 0 ≤ s ∧ s < 3) : nL (dA a p t l f u) q s = if q = p ∧ s = t then nL a p t + 1 else nL a q s := by
  rw [nL_x hs, nL_x ht, nL_x hs]
  unfold dA
  by_cases z : q = p ∧ s = t
  · rw [if_pos z, z.1, z.2, vup_s]
  · rw [if_neg z]
    unfold vup
    rw [if_neg (by omega), if_neg (by omega), if_neg (by omega), if_neg (by omega)]
theorem dA_1 : dA a p t l f u 2 (294 + 4 * t) (6 * p + a 2 (293 + 4 * t) p) = l ∧ dA a p t l f u 2 (295 + 4 * t) (6 * p + a 2 (293 + 4 * t) p) = f ∧ dA a p t l f u 2 (296 + 4 * t) (6 * p + a 2 (293 + 4 * t) p) = u := ⟨(vup_r (by omega)).trans ((vup_r (by omega)).trans ((vup_r (by omega)).trans vup_s)), (vup_r (by omega)).trans ((vup_r (by omega)).trans vup_s), (vup_r (by omega)).trans vup_s⟩
theorem dA_i {i : Int} (ht : 0 ≤ t ∧ t < 3) (hs : 0 ≤ s ∧ s < 3) (hr : 294 + 4 * s ≤ r ∧ r ≤ 296 + 4 * s) (n : ¬ (s = t ∧ i = 6 * p + a 2 (293 + 4 * t) p)) : dA a p t l f u 2 r i = a 2 r i := by
  unfold dA vup
  rw [if_neg (by omega), if_neg (by omega), if_neg (by omega), if_neg (by omega)]
theorem cW_add (c : cW h a) (I : iD h) (n6 : cn6 a) (hp : 0 ≤ p ∧ p < 4) (ht : 0 ≤ t ∧ t < 3) (hn : nL a p t < 6) (hN : h 3 0 0 = N) (F1 : nwF N h h1) (e3 : h1 3 0 0 = N + (3 - t)) (kE : h1 0 N 0 = 22 ∨ h1 0 N 0 = 29 ∨ h1 0 N 0 = 32) (eT : elT h1 N t l f u) : ∃ h2, vcl mJx4a65c_add_9ea2d [(1, 140 + 36 * p + t), (1, N)] h1 = some (.inl (some (0, 1)), h2) ∧ cW h2 (dA a p t l f u) ∧ fA p t h h2 ∧ iD h2 ∧ h2 4 0 0 ≤ h1 4 0 0 + 1 ∧ h2 5 0 0 ≤ h1 5 0 0 + 10 := by
  have U := c.2.2.2.2.2
  have N0 : 282 ≤ N := by have := U.1; omega
  have n0 : 0 ≤ nL a p t := by
    obtain ⟨k1, k2, k3⟩ := n6 p hp.1 hp.2
    rcases (show t = 0 ∨ t = 1 ∨ t = 2 by omega) with z | z | z <;> subst z
    · rw [nL_s]; exact k1.1
    · rw [nL_v]; exact k2.1
    · rw [nL_f]; exact k3.1
  have Lp := (c.2.2.1 p hp.1 hp.2).2.1.2.1
  have li := cLi_of Lp ht
  have ud := U.2.1 p t hp.1 hp.2 ht.1 ht.2
  have dl : ∀ k i, h1 k (140 + 36 * p + t) i = h k (140 + 36 * p + t) i := fun k i => F1 _ _ _ (by omega) (by omega)
  have D : dL h p t = 1 ∧ nL a p t = 0 ∨ h1 0 (dL h p t) 0 = 6 ∧ h1 1 (dL h p t) 0 = 10 := by
    rcases I.2 p t hp.1 hp.2 ht.1 ht.2 with z | z
    · left
      refine ⟨z, ?_⟩
      by_cases y : 0 < nL a p t
      · have := (li.2.2 y).2
        rw [show h 101 (140 + 36 * p + t) 0 = 1 from z, I.1.2] at this
        omega
      · omega
    · right
      exact ⟨(F1 _ _ _ (by omega) (by omega)).trans z.2.1, (F1 _ _ _ (by omega) (by omega)).trans z.2.2⟩
  obtain ⟨h2, d2, r1, F2, r3, r4, r5, r6, r7, r8, r9, r10, r11, r12⟩ := C_ladd (r := 140 + 36 * p + t) (n := nL a p t) (d := dL h p t) (E := N) (N := N + (3 - t)) ((dl _ _).trans li.1) ((dl _ _).trans li.2.1) ⟨n0, by omega⟩ ((dl _ _).trans rfl) D ⟨(F1 _ _ _ (by omega) (by omega)).trans I.1.1, (F1 _ _ _ (by omega) (by omega)).trans I.1.2⟩ kE e3 (by omega) (by omega) (by omega)
  have d339 : 282 ≤ d2 := by
    rcases r7 with z | z
    · have := ud.1.resolve_left z.2
      omega
    · omega
  have G : ∀ (k : Nat) (r i : Int), r < N → ¬ (r = 140 + 36 * p + t ∧ 100 ≤ k ∧ k ≤ 102) → ¬ (k = 2 ∧ r = d2) → ¬ (r = 0 ∧ 3 ≤ k ∧ k ≤ 5) → h2 k r i = h k r i := fun k r i v w y y2 => (F2 k r i (by omega) w y y2).trans (F1 k r i v y2)
  have eD : ∀ q s, 0 ≤ q → q < 4 → 0 ≤ s → s < 3 → ¬ (q = p ∧ s = t) → dL h2 q s = dL h q s := fun q s q0 q4 s0 s3 z => G _ _ _ (by omega) (by omega) (by omega) (by omega)
  have dn : ∀ q s, 0 ≤ q → q < 4 → 0 ≤ s → s < 3 → ¬ (q = p ∧ s = t) → ¬ dL h q s = d2 := fun q s q0 q4 s0 s3 z e => by
    have uq := U.2.1 q s q0 q4 s0 s3
    rcases r7 with w | w
    · rcases U.2.2.1 q s p t q0 q4 s0 s3 hp.1 hp.2 ht.1 ht.2 (e.trans w.1) with y | y
      · omega
      · exact z y
    · omega
  have eO : ∀ q s i, 0 ≤ q → q < 4 → 0 ≤ s → s < 3 → 0 ≤ i → i < nL a q s → eL h2 q s i = eL h q s i := fun q s i q0 q4 s0 s3 i0 iN => by
    by_cases z : q = p ∧ s = t
    · rw [z.1, z.2] at iN ⊢
      show h2 2 (h2 101 (140 + 36 * p + t) 0) i = h 2 (dL h p t) i
      rw [r3, r8 i i0 iN]
      rcases r7 with w | w
      · exact F1 _ _ _ (by omega) (by omega)
      · exact F1 _ _ _ (by omega) (by omega)
    · show h2 2 (dL h2 q s) i = h 2 (dL h q s) i
      rw [eD q s q0 q4 s0 s3 z]
      have uq := U.2.1 q s q0 q4 s0 s3
      exact G _ _ _ (by omega) (by omega) (fun w => dn q s q0 q4 s0 s3 z w.2) (by omega)
  have eNw : eL h2 p t (nL a p t) = N := by
    show h2 2 (h2 101 (140 + 36 * p + t) 0) (nL a p t) = N
    rw [r3, r9]
  have nx : ∀ {q s : Int}, 0 ≤ s ∧ s < 3 → nL (dA a p t l f u) q s = if q = p ∧ s = t then nL a p t + 1 else nL a q s := fun w => dA_n ht w
  -- an element of the new list
  have cs : ∀ q s i, 0 ≤ q → q < 4 → 0 ≤ s → s < 3 → 0 ≤ i → i < nL (dA a p t l f u) q s → (i < nL a q s ∧ eL h2 q s i = eL h q s i) ∨ ((q = p ∧ s = t) ∧ i = nL a p t ∧ eL h2 q s i = N) := fun q s i q0 q4 s0 s3 i0 iN => by
    rw [nx ⟨s0, s3⟩] at iN
    by_cases z : q = p ∧ s = t
    · rw [if_pos z] at iN
      by_cases y : i < nL a p t
      · left
        rw [z.1, z.2]
        exact ⟨y, eO p t i hp.1 hp.2 ht.1 ht.2 i0 y⟩
      · right
        refine ⟨z, by omega, ?_⟩
        rw [z.1, z.2, show i = nL a p t by omega]
        exact eNw
    · rw [if_neg z] at iN
      exact Or.inl ⟨iN, eO q s i q0 q4 s0 s3 i0 iN⟩
  refine ⟨h2, r1, cW_ly c (fun k r i v w y => G k r i (by omega) (by omega) (by omega) (by omega)) (fun k r i v w y _ => dA_o ht y) (fun q q0 q4 => ?_) ⟨by omega, fun q s q0 q4 s0 s3 => ?_, fun q s q2 s2 q0 q4 s0 s3 b1 b2 b3 b4 => ?_, fun q s i q0 q4 s0 s3 i0 iN => ?_, fun q s i q2 s2 i2 q0 q4 s0 s3 i0 iN b1 b2 b3 b4 b5 b6 => ?_⟩, fun k r i v w y => G k r i (by omega) w (by omega) y, ⟨⟨?_, ?_⟩, fun q s q0 q4 s0 s3 => ?_⟩, r11, r12⟩
  · have Lq := (c.2.2.1 q q0 q4).2.1.2.1
    refine cLay_of (shLys_E (fun k r i v w y => G k r i (by omega) (fun z => ?_) (by omega) (by omega)) Lq.1) (fun s s0 s3 => ?_) (fun s s0 s3 i i0 iN => ?_)
    · have : stk k = false := by rcases (show k = 100 ∨ k = 101 ∨ k = 102 by omega) with y | y | y <;> subst y <;> rfl
      rw [this] at y
      cases y
    · rw [nx ⟨s0, s3⟩]
      by_cases z : q = p ∧ s = t
      · rw [if_pos z, z.1, z.2]
        refine ⟨(G 0 _ _ (by omega) (by omega) (by omega) (by omega)).trans li.1, r4, fun _ => ?_⟩
        rw [r3]
        exact ⟨r5, by omega⟩
      · rw [if_neg z]
        have lq := cLi_of Lq ⟨s0, s3⟩
        have uq := U.2.1 q s q0 q4 s0 s3
        have e1 : h2 101 (140 + 36 * q + s) 0 = dL h q s := eD q s q0 q4 s0 s3 z
        refine ⟨(G 0 _ _ (by omega) (by omega) (by omega) (by omega)).trans lq.1, (G _ _ _ (by omega) (by omega) (by omega) (by omega)).trans lq.2.1, fun y => ?_⟩
        rw [e1, G 0 _ _ (by omega) (by omega) (by omega) (by omega), G 1 _ _ (by omega) (by omega) (by omega) (by omega)]
        exact lq.2.2 y
    · rcases cs q s i q0 q4 s0 s3 i0 iN with z | z
      · have T := cLay_T Lq ⟨s0, s3⟩ i0 z.1
        have ue := U.2.2.2.1 q s i q0 q4 s0 s3 i0 z.1
        have m6 : nL a q s ≤ 6 := by
          obtain ⟨k1, k2, k3⟩ := n6 q q0 q4
          rcases (show s = 0 ∨ s = 1 ∨ s = 2 by omega) with z | z | z <;> subst z
          · rw [nL_s]; exact k1.2
          · rw [nL_v]; exact k2.2
          · rw [nL_f]; exact k3.2
        have nn : ¬ (s = t ∧ 6 * q + i = 6 * p + a 2 (293 + 4 * t) p) := fun w => by
          have e1 := nL_x (a := a) (q := p) ht
          have z1 := z.1
          rw [w.1] at z1 m6
          by_cases y : q = p
          · rw [y] at z1; omega
          · omega
        rw [z.2, dA_i ht ⟨s0, s3⟩ (by omega) nn, dA_i ht ⟨s0, s3⟩ (by omega) nn, dA_i ht ⟨s0, s3⟩ (by omega) nn]
        exact elT_fr ⟨s0, s3⟩ (fun k r i v w y => G k r i (by omega) (by omega) (by omega) (by omega)) T
      · rw [z.2.2, z.1.1, z.1.2, z.2.1, nL_x ht, dA_1.1, dA_1.2.1, dA_1.2.2]
        exact elT_fr ht (fun k r i v w y => F2 k r i (by omega) (by omega) (by omega) (by omega)) eT
  · by_cases z : q = p ∧ s = t
    · have e1 : dL h2 q s = d2 := by rw [z.1, z.2]; exact r3
      rw [e1]
      exact ⟨Or.inr d339, r10.2⟩
    · rw [eD q s q0 q4 s0 s3 z]
      have uq := U.2.1 q s q0 q4 s0 s3
      exact ⟨uq.1, by omega⟩
  · intro e
    by_cases z : q = p ∧ s = t
    · by_cases z2 : q2 = p ∧ s2 = t
      · exact Or.inr ⟨z.1.trans z2.1.symm, z.2.trans z2.2.symm⟩
      · have e1 : dL h2 q s = d2 := by rw [z.1, z.2]; exact r3
        rw [e1, eD q2 s2 b1 b2 b3 b4 z2] at e
        exact absurd e.symm (dn q2 s2 b1 b2 b3 b4 z2)
    · by_cases z2 : q2 = p ∧ s2 = t
      · have e1 : dL h2 q2 s2 = d2 := by rw [z2.1, z2.2]; exact r3
        rw [e1, eD q s q0 q4 s0 s3 z] at e
        exact absurd e (dn q s q0 q4 s0 s3 z)
      · rw [eD q s q0 q4 s0 s3 z] at e ⊢
        rw [eD q2 s2 b1 b2 b3 b4 z2] at e
        exact U.2.2.1 q s q2 s2 q0 q4 s0 s3 b1 b2 b3 b4 e
  · rcases cs q s i q0 q4 s0 s3 i0 iN with z | z
    · rw [z.2]
      have ue := U.2.2.2.1 q s i q0 q4 s0 s3 i0 z.1
      omega
    · rw [z.2.2, z.1.2]
      omega
  · intro e
    rcases cs q s i q0 q4 s0 s3 i0 iN with z | z
    · have ue := U.2.2.2.1 q s i q0 q4 s0 s3 i0 z.1
      rcases cs q2 s2 i2 b1 b2 b3 b4 b5 b6 with z2 | z2
      · rw [z.2, z2.2] at e
        exact U.2.2.2.2 q s i q2 s2 i2 q0 q4 s0 s3 i0 z.1 b1 b2 b3 b4 b5 z2.1 e
      · rw [z.2, z2.2.2] at e
        omega
    · rcases cs q2 s2 i2 b1 b2 b3 b4 b5 b6 with z2 | z2
      · have ue := U.2.2.2.1 q2 s2 i2 b1 b2 b3 b4 b5 z2.1
        rw [z.2.2, z2.2] at e
        omega
      · exact ⟨z.1.1.trans z2.1.1.symm, z.1.2.trans z2.1.2.symm, z.2.1.trans z2.2.1.symm⟩
  · exact (G _ _ _ (by omega) (by omega) (by omega) (by omega)).trans I.1.1
  · exact (G _ _ _ (by omega) (by omega) (by omega) (by omega)).trans I.1.2
  · by_cases z : q = p ∧ s = t
    · have e1 : dL h2 q s = d2 := by rw [z.1, z.2]; exact r3
      rw [e1]
      exact Or.inr ⟨d339, r5, r6⟩
    · rw [eD q s q0 q4 s0 s3 z]
      have uq := U.2.1 q s q0 q4 s0 s3
      refine (I.2 q s q0 q4 s0 s3).imp (fun y => y) (fun y => ⟨y.1, (G _ _ _ (by omega) (by omega) (by omega) (by omega)).trans y.2.1, (G _ _ _ (by omega) (by omega) (by omega) (by omega)).trans y.2.2⟩)
end AD2

