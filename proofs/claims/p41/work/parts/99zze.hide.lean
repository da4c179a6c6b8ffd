/-! hide and addFold -/
def kR0 (h h1 : vH) : Prop := ∀ (k : Nat) (r i : Int), (r = 1 ∨ r = 2 ∨ (282 ≤ r ∧ r ≤ 281)) → h1 k r i = h k r i
/-- what a call of the class leaves, lists included -/
def cOutN (h b : vH) (k v : Int) (E : Int → String) (X : Option (vR × vH)) : Prop := ∃ h1 : vH, X = some (if k = 0 then .inl (some (0, v)) else .inr (E k), h1) ∧ cAll h1 b ∧ kR0 h h1 ∧ iD h1 ∧ ct h h1
section HID
variable {h h1 h2 a b : vH} {p q P Q X l x f u t j st r l0 x0 n d N E s m : Int}
theorem cN_of {k v : Int} {E : Int → String} {X : Option (vR × vH)} (I : iD h) (c : cOut h b k v E X) : cOutN h b k v E X := by
  obtain ⟨h1, e, c1, k1, t1⟩ := c
  exact ⟨h1, e, c1, fun k r i u => k1 k r i (by omega), iD_kR k1 I, t1⟩
theorem cN_eq {k v : Int} {E : Int → String} {X Y : Option (vR × vH)} (e : X = Y) (m : cOutN h b k v E Y) : cOutN h b k v E X := by rw [e]; exact m
theorem any_grow {P : Int → Prop} {lo hi : Int} (n : ¬ P hi) : anyI P lo (hi + 1) = anyI P lo hi := propext ⟨fun ⟨j, u, v, w⟩ => ⟨j, u, by
  by_cases e : j = hi
  · rw [e] at w; exact absurd w n
  · omega, w⟩, fun ⟨j, u, v, w⟩ => ⟨j, u, by omega, w⟩⟩
theorem mVt_grow {lo hi : Int} : ∀ (n : Nat) (k : Int), ¬ mVon b l lo hi (k + n) → mVt b l lo hi (n + 1) k = mVt b l lo hi n k
  | 0, k, z => by
    have z0 : ¬ mVon b l lo hi k := by
      rw [show k + ((0 : Nat) : Int) = k by omega] at z
      exact z
    unfold mVt
    rw [if_neg z0]
    rfl
  | n + 1, k, z => by
    have ih := mVt_grow (lo := lo) (hi := hi) n (k + 1) (by rw [show k + 1 + (n : Int) = k + ((n + 1 : Nat) : Int) by omega]; exact z)
    have e1 : mVt b l lo hi (n + 1 + 1) k = @ite _ (mVon b l lo hi k) (Classical.propDecidable _) ((vch (b 2 300 k) 8 0).map (fun s => (s, 1, -1, b 2 299 k))) [] ++ mVt b l lo hi (n + 1) (k + 1) := rfl
    have e2 : mVt b l lo hi (n + 1) k = @ite _ (mVon b l lo hi k) (Classical.propDecidable _) ((vch (b 2 300 k) 8 0).map (fun s => (s, 1, -1, b 2 299 k))) [] ++ mVt b l lo hi n (k + 1) := rfl
    rw [e1, e2, ih]
theorem lnE_dA (g : iG a) (hp : 0 ≤ p ∧ p < 4) (hq : 0 ≤ q ∧ q < 4) (ht : 0 ≤ t ∧ t < 3) (n6 : nL a p t < 6) (W : ¬ q = p ∨ t < 2 ∧ ¬ m = l ∨ t = 2 ∧ u = 0) : lnE a (dA a p t l f u) q m := by
  have N := iG_n6 g q hq.1 hq.2
  have n0 := nL_6 g hp ht
  rw [nL_x ht] at n6 n0
  have nx : ∀ {q s : Int}, 0 ≤ s ∧ s < 3 → nL (dA a p t l f u) q s = if q = p ∧ s = t then nL a p t + 1 else nL a q s := fun w => dA_n ht w
  have val : ∀ s r i, 0 ≤ s → s < 3 → 294 + 4 * s ≤ r → r ≤ 296 + 4 * s → 6 * q ≤ i → i < 6 * q + nL a q s → dA a p t l f u 2 r i = a 2 r i := fun s r i s0 s3 r0 r1 i0 i1 => by
    refine dA_i ht ⟨s0, s3⟩ ⟨r0, r1⟩ (fun w => ?_)
    have m6 := nL_6 g hq ⟨s0, s3⟩
    by_cases z : q = p
    · rw [z, w.1, nL_x ht] at i1
      omega
    · omega
  have c0 := nx (q := q) (s := 0) (by decide)
  have c1 := nx (q := q) (s := 1) (by decide)
  have c2 := nx (q := q) (s := 2) (by decide)
  rw [nL_s, nL_s] at c0
  rw [nL_v, nL_v] at c1
  rw [nL_f, nL_f] at c2
  have v0 := fun r i r0 r1 i0 i1 => val 0 r i (by decide) (by decide) r0 r1 i0 (by rw [nL_s]; exact i1)
  have v1 := fun r i r0 r1 i0 i1 => val 1 r i (by decide) (by decide) r0 r1 i0 (by rw [nL_v]; exact i1)
  have v2 := fun r i r0 r1 i0 i1 => val 2 r i (by decide) (by decide) r0 r1 i0 (by rw [nL_f]; exact i1)
  refine ⟨dA_o ht (by decide), fun i _ _ => dA_o ht (by decide), ?_, fun y => ?_, ?_, fun lo hi => ?_, dA_o ht (by decide), dA_o ht (by decide)⟩
  · have same : anyI (fun k => ¬ (dA a p t l f u 2 304 k = 0) ∧ ¬ (m ≤ dA a p t l f u 2 302 k) ∧ ¬ (dA a p t l f u 2 303 k < m)) (6 * q) (6 * q + a 2 301 q) = anyI (fun k => ¬ (a 2 304 k = 0) ∧ ¬ (m ≤ a 2 302 k) ∧ ¬ (a 2 303 k < m)) (6 * q) (6 * q + a 2 301 q) := any_loc (fun k y z => by rw [v2 _ _ (by decide) (by decide) y z, v2 _ _ (by decide) (by decide) y z, v2 _ _ (by decide) (by decide) y z])
    unfold mInv
    rw [c2, ← same]
    by_cases z : q = p ∧ (2 : Int) = t
    · obtain ⟨z1, z2⟩ := z
      subst z1; subst z2
      rw [if_pos ⟨rfl, rfl⟩]
      have hu : u = 0 := by
        rcases W with w | w | w
        · exact absurd rfl w
        · omega
        · exact w.2
      have cl : dA a q 2 l f u 2 304 (6 * q + a 2 301 q) = 0 := ((dA_1 (a := a) (p := q) (t := 2) (l := l) (f := f) (u := u)).2.2).trans hu
      rw [nL_f, ← Int.add_assoc]
      exact any_grow (fun w => w.1 cl)
    · rw [if_neg z]
  · have same : anyI (fun k => dA a p t l f u 2 294 k = m ∧ ¬ (y < dA a p t l f u 2 295 k) ∧ ¬ (dA a p t l f u 2 296 k - 1 < y)) (6 * q) (6 * q + a 2 293 q) = anyI (fun k => a 2 294 k = m ∧ ¬ (y < a 2 295 k) ∧ ¬ (a 2 296 k - 1 < y)) (6 * q) (6 * q + a 2 293 q) := any_loc (fun k y z => by rw [v0 _ _ (by decide) (by decide) y z, v0 _ _ (by decide) (by decide) y z, v0 _ _ (by decide) (by decide) y z])
    unfold mHid
    rw [c0, ← same]
    by_cases z : q = p ∧ (0 : Int) = t
    · obtain ⟨z1, z2⟩ := z
      subst z1; subst z2
      rw [if_pos ⟨rfl, rfl⟩]
      have hm : ¬ m = l := by
        rcases W with w | w | w
        · exact absurd rfl w
        · exact w.2
        · omega
      have cl : dA a q 0 l f u 2 294 (6 * q + a 2 293 q) = l := (dA_1 (a := a) (p := q) (t := 0) (l := l) (f := f) (u := u)).1
      rw [nL_s, ← Int.add_assoc]
      exact any_grow (fun w => hm (w.1.symm.trans cl))
    · rw [if_neg z]
  · have same : anyI (fun k => ¬ (dA a p t l f u 2 304 k = 0) ∧ m = dA a p t l f u 2 302 k) (6 * q) (6 * q + a 2 301 q) = anyI (fun k => ¬ (a 2 304 k = 0) ∧ m = a 2 302 k) (6 * q) (6 * q + a 2 301 q) := any_loc (fun k y z => by rw [v2 _ _ (by decide) (by decide) y z, v2 _ _ (by decide) (by decide) y z])
    unfold mFst
    rw [c2, ← same]
    by_cases z : q = p ∧ (2 : Int) = t
    · obtain ⟨z1, z2⟩ := z
      subst z1; subst z2
      rw [if_pos ⟨rfl, rfl⟩]
      have hu : u = 0 := by
        rcases W with w | w | w
        · exact absurd rfl w
        · omega
        · exact w.2
      have cl : dA a q 2 l f u 2 304 (6 * q + a 2 301 q) = 0 := ((dA_1 (a := a) (p := q) (t := 2) (l := l) (f := f) (u := u)).2.2).trans hu
      rw [nL_f, ← Int.add_assoc]
      exact any_grow (fun w => w.1 cl)
    · rw [if_neg z]
  · have same : mVt (dA a p t l f u) m lo hi (a 2 297 q).toNat (6 * q) = mVt a m lo hi (a 2 297 q).toNat (6 * q) := mVt_ed _ _ (fun i y z => by
      rw [v1 _ _ (by decide) (by decide) y (by omega), v1 _ _ (by decide) (by decide) y (by omega), v1 _ _ (by decide) (by decide) y (by omega)]
      exact ⟨Iff.rfl, fun _ => rfl, rfl⟩)
    rw [c1, ← same]
    by_cases z : q = p ∧ (1 : Int) = t
    · obtain ⟨z1, z2⟩ := z
      subst z1; subst z2
      rw [if_pos ⟨rfl, rfl⟩]
      have hm : ¬ m = l := by
        rcases W with w | w | w
        · exact absurd rfl w
        · exact w.2
        · omega
      have cl : dA a q 1 l f u 2 298 (6 * q + a 2 297 q) = l := (dA_1 (a := a) (p := q) (t := 1) (l := l) (f := f) (u := u)).1
      rw [nL_v, show (a 2 297 q + 1).toNat = (a 2 297 q).toNat + 1 by omega]
      refine mVt_grow _ _ (fun w => hm (w.1.symm.trans ?_))
      rw [show 6 * q + (((a 2 297 q).toNat : Nat) : Int) = 6 * q + a 2 297 q by omega]
      exact cl
    · rw [if_neg z]
theorem dA_n6 (n6 : cn6 a) (hp : 0 ≤ p ∧ p < 4) (ht : 0 ≤ t ∧ t < 3) (hn : nL a p t < 6) : cn6 (dA a p t l f u) := fun q v w => by
  obtain ⟨k1, k2, k3⟩ := n6 q v w
  have m1 := dA_n (a := a) (p := p) (q := q) (l := l) (f := f) (u := u) ht (s := 0) (by decide)
  have m2 := dA_n (a := a) (p := p) (q := q) (l := l) (f := f) (u := u) ht (s := 1) (by decide)
  have m3 := dA_n (a := a) (p := p) (q := q) (l := l) (f := f) (u := u) ht (s := 2) (by decide)
  rw [nL_s, nL_s] at m1
  rw [nL_v, nL_v] at m2
  rw [nL_f, nL_f] at m3
  rw [m1, m2, m3]
  refine ⟨?_, ?_, ?_⟩
  · split
    · rename_i z; rw [← z.2, nL_s, ← z.1] at hn ⊢; omega
    · exact k1
  · split
    · rename_i z; rw [← z.2, nL_v, ← z.1] at hn ⊢; omega
    · exact k2
  · split
    · rename_i z; rw [← z.2, nL_f, ← z.1] at hn ⊢; omega
    · exact k3
/-- the slot of the new one, or an old one -/
theorem dA_slot (ht : 0 ≤ t ∧ t < 3) (hs : 0 ≤ s ∧ s < 3) {i : Int} : (∀ r, 294 + 4 * s ≤ r ∧ r ≤ 296 + 4 * s → dA a p t l f u 2 r i = a 2 r i) ∨ (s = t ∧ i = 6 * p + a 2 (293 + 4 * t) p) := by
  by_cases z : s = t ∧ i = 6 * p + a 2 (293 + 4 * t) p
  · exact Or.inr z
  · exact Or.inl (fun r hr => dA_i ht hs hr z)
/-- what the new one has to keep -/
def nwOk (a : vH) (t l f u : Int) : Prop := (t = 0 ∧ (0 ≤ l ∧ l < a 1504 282 0) ∧ 0 ≤ f ∧ f < u ∧ u ≤ a 2 284 l) ∨ (t = 1 ∧ (0 ≤ l ∧ l < a 1504 282 0) ∧ 0 ≤ f ∧ f ≤ a 2 284 l) ∨ (t = 2 ∧ 0 ≤ l ∧ l < f ∧ f < a 1504 282 0 ∧ u = 0)
theorem iG_dA (g : iG a) (hp : 0 ≤ p ∧ p < 4) (ht : 0 ≤ t ∧ t < 3) (hn : nL a p t < 6) (ok : nwOk a t l f u) : iG (dA a p t l f u) := by
  have N := iG_n6 g
  have N2 := dA_n6 (l := l) (f := f) (u := u) N hp ht hn
  have nx : ∀ {q s : Int}, 0 ≤ s ∧ s < 3 → nL (dA a p t l f u) q s = if q = p ∧ s = t then nL a p t + 1 else nL a q s := fun w => dA_n ht w
  have key : ∀ q s, 0 ≤ q → q < 4 → 0 ≤ s → s < 3 → ∀ k, 6 * q ≤ k → k < 6 * q + nL (dA a p t l f u) q s → (k < 6 * q + nL a q s ∧ ∀ r, 294 + 4 * s ≤ r ∧ r ≤ 296 + 4 * s → dA a p t l f u 2 r k = a 2 r k) ∨ (s = t ∧ k = 6 * p + a 2 (293 + 4 * t) p) := fun q s q0 q4 s0 s3 k u v => by
    rw [nx ⟨s0, s3⟩] at v
    rcases dA_slot (a := a) (p := p) (l := l) (f := f) ht ⟨s0, s3⟩ (i := k) with z | z
    · by_cases y : q = p ∧ s = t
      · rw [if_pos y] at v
        by_cases w : k < 6 * q + nL a q s
        · exact Or.inl ⟨w, z⟩
        · right
          rw [y.1, y.2] at w
          rw [y.1] at v
          rw [nL_x ht] at w v
          exact ⟨y.2, by omega⟩
      · rw [if_neg y] at v
        exact Or.inl ⟨v, z⟩
    · exact Or.inr z
  have e1 := dA_1 (a := a) (p := p) (t := t) (l := l) (f := f) (u := u)
  refine iG_ly g (dA_eqY ht) N2 (fun q q0 q4 k v w => ?_) (fun q q0 q4 k v w => ?_) (fun q q0 q4 k v w => ?_)
  · rcases key q 2 q0 q4 (by decide) (by decide) k v (by rw [nL_f]; exact w) with ⟨z, e⟩ | ⟨z, e⟩
    · rw [e _ (by decide), e _ (by decide)]
      rw [nL_f] at z
      exact (g.2 q q0 q4).1 k v z
    · subst z
      rw [e, show dA a p 2 l f u 2 302 (6 * p + a 2 (293 + 4 * 2) p) = l from e1.1, show dA a p 2 l f u 2 303 (6 * p + a 2 (293 + 4 * 2) p) = f from e1.2.1]
      rcases ok with y | y | y
      · exact absurd y.1 (by decide)
      · exact absurd y.1 (by decide)
      · omega
  · rcases key q 0 q0 q4 (by decide) (by decide) k v (by rw [nL_s]; exact w) with ⟨z, e⟩ | ⟨z, e⟩
    · rw [e _ (by decide), e _ (by decide), e _ (by decide)]
      rw [nL_s] at z
      exact (g.2 q q0 q4).2.1 k v z
    · subst z
      rw [e, show dA a p 0 l f u 2 294 (6 * p + a 2 (293 + 4 * 0) p) = l from e1.1, show dA a p 0 l f u 2 295 (6 * p + a 2 (293 + 4 * 0) p) = f from e1.2.1, show dA a p 0 l f u 2 296 (6 * p + a 2 (293 + 4 * 0) p) = u from e1.2.2]
      rcases ok with y | y | y
      · exact ⟨y.2.1.1, y.2.1.2, y.2.2.1, y.2.2.2.1, y.2.2.2.2⟩
      · exact absurd y.1 (by decide)
      · exact absurd y.1 (by decide)
  · rcases key q 1 q0 q4 (by decide) (by decide) k v (by rw [nL_v]; exact w) with ⟨z, e⟩ | ⟨z, e⟩
    · rw [e _ (by decide), e _ (by decide)]
      rw [nL_v] at z
      exact (g.2 q q0 q4).2.2.1 k v z
    · subst z
      rw [e, show dA a p 1 l f u 2 298 (6 * p + a 2 (293 + 4 * 1) p) = l from e1.1, show dA a p 1 l f u 2 299 (6 * p + a 2 (293 + 4 * 1) p) = f from e1.2.1]
      rcases ok with y | y | y
      · exact absurd y.1 (by decide)
      · exact ⟨y.2.1.1, y.2.1.2, y.2.2.1, y.2.2.2⟩
      · exact absurd y.1 (by decide)
theorem iV_dA (V : iV n a) (hn : 0 ≤ n) (ht : 0 ≤ t ∧ t < 3) (ok : nwOk a t l f u) : iV n (dA a p t l f u) := by
  intro k v w
  obtain ⟨v1, v2, v3, v4, v5, v6, v7⟩ := V k v w
  have e1 := dA_1 (a := a) (p := p) (t := t) (l := l) (f := f) (u := u)
  have el : dA a p t l f u 1504 282 0 = a 1504 282 0 := dA_o ht (by decide)
  have eN : ∀ i, dA a p t l f u 2 284 i = a 2 284 i := fun i => dA_o ht (by decide)
  rw [eN, eN, el]
  have S : (0 ≤ dA a p t l f u 2 294 k ∧ dA a p t l f u 2 294 k < a 1504 282 0) ∧ (0 ≤ dA a p t l f u 2 295 k ∧ dA a p t l f u 2 295 k ≤ a 2 284 (dA a p t l f u 2 294 k)) ∧ (-(100 * n) ≤ dA a p t l f u 2 296 k ∧ dA a p t l f u 2 296 k ≤ a 2 284 (dA a p t l f u 2 294 k)) := by
    rcases dA_slot (a := a) (p := p) (l := l) (f := f) (u := u) ht (s := 0) (by decide) (i := k) with e | ⟨z, e⟩
    · rw [e _ (by decide), e _ (by decide), e _ (by decide)]
      exact ⟨v1, v2, v3⟩
    · subst z
      rw [e, show dA a p 0 l f u 2 294 (6 * p + a 2 (293 + 4 * 0) p) = l from e1.1, show dA a p 0 l f u 2 295 (6 * p + a 2 (293 + 4 * 0) p) = f from e1.2.1, show dA a p 0 l f u 2 296 (6 * p + a 2 (293 + 4 * 0) p) = u from e1.2.2]
      rcases ok with y | y | y
      · exact ⟨y.2.1, by omega, by omega⟩
      · exact absurd y.1 (by decide)
      · exact absurd y.1 (by decide)
  have W : (0 ≤ dA a p t l f u 2 298 k ∧ dA a p t l f u 2 298 k < a 1504 282 0) ∧ (0 ≤ dA a p t l f u 2 299 k ∧ dA a p t l f u 2 299 k ≤ a 2 284 (dA a p t l f u 2 298 k)) := by
    rcases dA_slot (a := a) (p := p) (l := l) (f := f) (u := u) ht (s := 1) (by decide) (i := k) with e | ⟨z, e⟩
    · rw [e _ (by decide), e _ (by decide)]
      exact ⟨v4, v5⟩
    · subst z
      rw [e, show dA a p 1 l f u 2 298 (6 * p + a 2 (293 + 4 * 1) p) = l from e1.1, show dA a p 1 l f u 2 299 (6 * p + a 2 (293 + 4 * 1) p) = f from e1.2.1]
      rcases ok with y | y | y
      · exact absurd y.1 (by decide)
      · exact ⟨y.2.1, y.2.2⟩
      · exact absurd y.1 (by decide)
  have F : (0 ≤ dA a p t l f u 2 302 k ∧ dA a p t l f u 2 302 k < a 1504 282 0) ∧ (0 ≤ dA a p t l f u 2 303 k ∧ dA a p t l f u 2 303 k < a 1504 282 0) := by
    rcases dA_slot (a := a) (p := p) (l := l) (f := f) (u := u) ht (s := 2) (by decide) (i := k) with e | ⟨z, e⟩
    · rw [e _ (by decide), e _ (by decide)]
      exact ⟨v6, v7⟩
    · subst z
      rw [e, show dA a p 2 l f u 2 302 (6 * p + a 2 (293 + 4 * 2) p) = l from e1.1, show dA a p 2 l f u 2 303 (6 * p + a 2 (293 + 4 * 2) p) = f from e1.2.1]
      rcases ok with y | y | y
      · exact absurd y.1 (by decide)
      · exact absurd y.1 (by decide)
      · omega
  exact ⟨S.1, S.2.1, S.2.2, W.1, W.2, F⟩
theorem iC_dA (m : iC a) (ht : 0 ≤ t ∧ t < 3) (ok : t = 2 → u = 0) : iC (dA a p t l f u) := by
  intro k v w
  rcases dA_slot (a := a) (p := p) (l := l) (f := f) (u := u) ht (s := 2) (by decide) (i := k) with e | ⟨z, e⟩
  · rw [e _ (by decide)]; exact m k v w
  · subst z
    left
    rw [e]
    exact ((dA_1 (a := a) (p := p) (t := 2) (l := l) (f := f) (u := u)).2.2).trans (ok rfl)
theorem iA_dA (x : iA a) (hp : 0 ≤ p ∧ p < 4) (ht : 0 ≤ t ∧ t < 3) (hn : nL a p t < 6) (ok : nwOk a t l f u) : iA (dA a p t l f u) := ⟨iG_dA x.1 hp ht hn ok, iH_ly (dA_eqY ht) x.2.1, iM_ly (dA_eqY ht) x.2.2.1, iC_dA x.2.2.2 ht (fun z => by
  rcases ok with y | y | y
  · omega
  · omega
  · exact y.2.2.2.2)⟩
theorem shPane_fA (hp : 0 ≤ p ∧ p < 4) (x : fA p t h h2) (s : shPane h (138 + 36 * p)) : shPane h2 (138 + 36 * p) := shPane_E (fun k q i u v w => x k q i (by omega) (fun z => by
  have : stk k = false := by rcases (show k = 100 ∨ k = 101 ∨ k = 102 by omega) with y | y | y <;> subst y <;> rfl
  rw [this] at w
  cases w) (by omega)) s
/-- a pane has one more span or virtual text of a line and forgets the line -/
theorem cAll_ad (c : cAll h a) (g : iG a) (hp : 0 ≤ p ∧ p < 4) (ht : 0 ≤ t ∧ t < 2) (hn : nL a p t < 6) (hl : 0 ≤ l ∧ l < 60) (W : cW h2 (dA a p t l f u)) (F : fA p t h h2) (I : iD h2) : cAll (fgl (138 + 36 * p) l h2) (dA a p t l f u) ∧ kR0 h (fgl (138 + 36 * p) l h2) ∧ iD (fgl (138 + 36 * p) l h2) ∧ fgl (138 + 36 * p) l h2 4 0 0 = h2 4 0 0 ∧ fgl (138 + 36 * p) l h2 5 0 0 = h2 5 0 0 ∧ shList (fgl (138 + 36 * p) l h2) (140 + 36 * p + t) ∧ fgl (138 + 36 * p) l h2 102 (140 + 36 * p + t) 0 = nL a p t + 1 := by
  have q : qF (138 + 36 * p) h2 (fgl (138 + 36 * p) l h2) := fgl_qF
  have W2 := cW_qF hp q W
  have ht3 : 0 ≤ t ∧ t < 3 := by omega
  obtain ⟨f1, f2, f3⟩ := fgl_r (P := 138 + 36 * p) (l := l) (h := h2)
  have L := cLi_of (W2.2.2.1 p hp.1 hp.2).2.1.2.1 ht3
  have en := dA_n (a := a) (p := p) (q := p) (l := l) (f := f) (u := u) ht3 ht3
  rw [if_pos ⟨rfl, rfl⟩] at en
  refine ⟨cAll_one W2 c (dA_o ht3 (by decide)) (fun q' u' v z k r i w => ?_) f1 f2 (fun i u' v => ?_) (fun q u' v z i _ _ => lnE_dA g hp ⟨u', v⟩ ht3 hn (Or.inl z)), fun k r i u' => ?_, ?_, q _ _ _ (by omega), q _ _ _ (by omega), L.1, L.2.1.trans en⟩
  · rw [q k r i (by omega)]
    exact F k r i (by omega) (by omega) (by omega)
  · rw [f3]
    by_cases z : i = l
    · rw [if_pos z]; exact Or.inl rfl
    · rw [if_neg z]
      exact Or.inr ⟨F _ _ _ (by omega) (by omega) (by omega), fun _ => lnE_dA g hp hp ht3 hn (Or.inr (Or.inl ⟨ht.2, z⟩))⟩
  · rw [q k r i (by omega)]
    exact F k r i (by omega) (by omega) (by omega)
  · obtain ⟨⟨i1, i2⟩, i3⟩ := I
    refine ⟨⟨(q _ _ _ (by omega)).trans i1, (q _ _ _ (by omega)).trans i2⟩, fun p t u v w y => ?_⟩
    have e : dL (fgl (138 + 36 * _) l h2) p t = dL h2 p t := q _ _ _ (by omega)
    rw [e]
    exact (i3 p t u v w y).imp (fun z => z) (fun z => ⟨z.1, (q _ _ _ (by omega)).trans z.2.1, (q _ _ _ (by omega)).trans z.2.2⟩)
end HID

