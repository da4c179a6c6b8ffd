/-! remove: what holds behind it -/
def wdS (a : vH) (l f u n L F T : Int) : Prop := (0 ≤ L ∧ L < a 1504 282 0) ∧ (0 ≤ F ∧ F ≤ (if L = l then a 2 284 l - (u - f) else a 2 284 L)) ∧ (-(100 * n) ≤ T ∧ T ≤ (if L = l then a 2 284 l - (u - f) else a 2 284 L))
section RM2
variable {h h2 a b : vH} {p q P Q X l x s f u t j st r l0 x0 n m : Int}
theorem weX_c : (l0 = l ∧ f < X ∧ u ≤ X) ∧ weX l f u l0 X = X - (u - f) ∨ (l0 = l ∧ f < X ∧ ¬ u ≤ X) ∧ weX l f u l0 X = f ∨ ¬ (l0 = l ∧ f < X) ∧ weX l f u l0 X = X := by
  unfold weX
  by_cases z : l0 = l
  · rw [if_pos z]
    by_cases y : f < X
    · rw [if_pos y]
      by_cases w : u ≤ X
      · rw [if_pos w]; exact Or.inl ⟨⟨z, y, w⟩, rfl⟩
      · rw [if_neg w]; exact Or.inr (Or.inl ⟨⟨z, y, w⟩, rfl⟩)
    · rw [if_neg y]; exact Or.inr (Or.inr ⟨fun w => y w.2, rfl⟩)
  · rw [if_neg z]; exact Or.inr (Or.inr ⟨fun w => z w.1, rfl⟩)
theorem weX_v (v : X ≤ a 2 284 l0) (hf : 0 ≤ f ∧ f < u) (hu : u ≤ a 2 284 l) : (0 ≤ X → 0 ≤ weX l f u l0 X) ∧ weX l f u l0 X ≤ (if l0 = l then a 2 284 l - (u - f) else a 2 284 l0) ∧ min X 0 ≤ weX l f u l0 X := by
  have c := weX_c (l := l) (f := f) (u := u) (X := X) (l0 := l0)
  by_cases z : l0 = l
  · rw [if_pos z]
    rw [z] at v c ⊢
    omega
  · rw [if_neg z]
    omega
theorem weX_n (z : ¬ l0 = l) : weX l f u l0 X = X := if_neg z
theorem wd_o (n6 : cn6 a) {k : Nat} {r i : Int} (n : ¬ (k = 2 ∧ (r = 283 ∨ r = 284 ∨ r = 293 ∨ (294 ≤ r ∧ r ≤ 296) ∨ r = 299 ∨ r = 306 ∨ r = 309))) : tWd a l f u k r i = a k r i := by
  have nO : cn6 (tO a l f u) := cn6_of (fun q _ _ => ⟨tO_o (by decide), tO_o (by decide), tO_o (by decide)⟩) n6
  have ti : tO a l f u k r i = a k r i := tO_o (by omega)
  unfold tWd tWe
  rw [dE4_o (TT_n6 nO) (by omega)]
  by_cases z : k = 2
  · subst z
    have gi : gWe l f u (tO a l f u) r i = a 2 r i := by
      unfold gWe
      rw [if_neg (by omega), if_neg (by omega), if_neg (by omega), if_neg (by omega), if_neg (by omega), ti]
    by_cases y : rgL r
    · rw [TT_L y]
      split
      · exact gi
      · exact ti
    · by_cases w : rgC r
      · rw [TT_C w]
        split
        · exact gi
        · exact ti
      · rw [TT_o (fun u => u.2.elim y w), ti]
  · rw [TT_o (fun u => z u.1), ti]
theorem tO_n6 (n6 : cn6 a) : cn6 (tO a l f u) := cn6_of (fun q _ _ => ⟨tO_o (by decide), tO_o (by decide), tO_o (by decide)⟩) n6
theorem wd_l (n6 : cn6 a) {i : Int} : tWd a l f u 2 284 i = if i = l then a 2 284 l - (u - f) else a 2 284 i := (dE4_o (TT_n6 (tO_n6 n6)) (by omega)).trans ((TT_o (by unfold rgL rgS rgV rgF rgC; decide)).trans tO_l)
theorem wd_s (n6 : cn6 a) {i : Int} : tWd a l f u 2 283 i = if 80 * l + f ≤ i ∧ i < 80 * l + (a 2 284 l - (u - f)) then a 2 283 (i + u - f) else a 2 283 i := (dE4_o (TT_n6 (tO_n6 n6)) (by omega)).trans ((TT_o (by unfold rgL rgS rgV rgF rgC; decide)).trans tO_s)
theorem we_k {k : Int} (u0 : 0 ≤ k ∧ k < 24) : tWe a l f u 2 294 k = a 2 294 k ∧ tWe a l f u 2 295 k = weX l f u (a 2 294 k) (a 2 295 k) ∧ tWe a l f u 2 296 k = weX l f u (a 2 294 k) (a 2 296 k) ∧ tWe a l f u 2 299 k = weX l f u (a 2 298 k) (a 2 299 k) := by
  have ti : ∀ r, 293 ≤ r → tO a l f u 2 r k = a 2 r k := fun r hr => tO_o (by omega)
  unfold tWe
  refine ⟨?_, ?_, ?_, ?_⟩
  · rw [TT_L (Or.inl (by unfold rgS; decide)), if_pos (by omega)]
    exact ti 294 (by decide)
  · rw [TT_L (Or.inl (by unfold rgS; decide)), if_pos (by omega)]
    show weX l f u (tO a l f u 2 294 k) (tO a l f u 2 295 k) = _
    rw [ti _ (by decide), ti _ (by decide)]
  · rw [TT_L (Or.inl (by unfold rgS; decide)), if_pos (by omega)]
    show weX l f u (tO a l f u 2 294 k) (tO a l f u 2 296 k) = _
    rw [ti _ (by decide), ti _ (by decide)]
  · rw [TT_L (Or.inr (Or.inl (by unfold rgV; decide))), if_pos (by omega)]
    show weX l f u (tO a l f u 2 298 k) (tO a l f u 2 299 k) = _
    rw [ti _ (by decide), ti _ (by decide)]
theorem wd_v (n6 : cn6 a) {k : Int} (u0 : 0 ≤ k ∧ k < 24) : tWd a l f u 2 299 k = weX l f u (a 2 298 k) (a 2 299 k) := (dE4_o (TT_n6 (tO_n6 n6)) (by omega)).trans (we_k u0).2.2.2
theorem wd_c (n6 : cn6 a) (hp : 0 ≤ p ∧ p < 4) : tWd a l f u 2 306 p = weX l f u (a 2 305 p) (a 2 306 p) ∧ tWd a l f u 2 309 p = weX l f u (a 2 308 p) (a 2 309 p) := by
  have ti : ∀ r, 293 ≤ r → tO a l f u 2 r p = a 2 r p := fun r hr => tO_o (by omega)
  unfold tWd tWe
  refine ⟨?_, ?_⟩
  · rw [dE4_o (TT_n6 (tO_n6 n6)) (by omega), TT_C (by unfold rgC; decide), if_pos (by omega)]
    show weX l f u (tO a l f u 2 305 p) (tO a l f u 2 306 p) = _
    rw [ti _ (by decide), ti _ (by decide)]
  · rw [dE4_o (TT_n6 (tO_n6 n6)) (by omega), TT_C (by unfold rgC; decide), if_pos (by omega)]
    show weX l f u (tO a l f u 2 308 p) (tO a l f u 2 309 p) = _
    rw [ti _ (by decide), ti _ (by decide)]
theorem wd_sx : sx a (tWd a l f u) := sx_tr tOe_sx (sx_tr TT_sx (sx_tr (dEk_sx _ _) (sx_tr (dEk_sx _ _) (sx_tr (dEk_sx _ _) (dEk_sx _ _)))))
/-- what is left of the spans of a pane -/
theorem dEk_P {R : Int → Int → Int → Prop} (hp : 0 ≤ p ∧ p < 4) : ∀ (k : Nat) (a : vH), (k : Int) ≤ a 2 293 p → (∀ i, 6 * p ≤ i → i < 6 * p + a 2 293 p → R (a 2 294 i) (a 2 295 i) (a 2 296 i)) → (∀ i, 6 * p + k ≤ i → i < 6 * p + a 2 293 p → ¬ a 2 295 i = a 2 296 i) → ∀ i, 6 * p ≤ i → i < 6 * p + dEk p k a 2 293 p → R (dEk p k a 2 294 i) (dEk p k a 2 295 i) (dEk p k a 2 296 i) ∧ ¬ dEk p k a 2 295 i = dEk p k a 2 296 i
  | 0, a, _, hR, hn => fun i u v => ⟨hR i u v, hn i (by omega) v⟩
  | k + 1, a, hk, hR, hn => by
    unfold dEk
    by_cases c : a 2 295 (6 * p + k) = a 2 296 (6 * p + k)
    · rw [if_pos c]
      have n1 : dR a p 0 k 2 293 p = a 2 293 p - 1 := if_pos ⟨rfl, rfl, rfl⟩
      have q1 : a 2 (293 + 4 * 0) p = a 2 293 p := rfl
      have hi : ∀ r i, 294 ≤ r → r ≤ 296 → 6 * p + k ≤ i → i < 6 * p + a 2 293 p - 1 → dR a p 0 k 2 r i = a 2 r (i + 1) := fun r i u v w y => by
        unfold dR
        rw [if_neg (by omega), if_pos (by omega)]
      have lo : ∀ r i, 294 ≤ r → r ≤ 296 → i < 6 * p + k → dR a p 0 k 2 r i = a 2 r i := fun r i u v w => by
        unfold dR
        rw [if_neg (by omega), if_neg (by omega)]
      refine dEk_P hp k _ (by omega) (fun i u v => ?_) (fun i u v => ?_)
      · rw [n1] at v
        by_cases y : 6 * p + k ≤ i
        · rw [hi _ i (by decide) (by decide) y (by omega), hi _ i (by decide) (by decide) y (by omega), hi _ i (by decide) (by decide) y (by omega)]
          exact hR (i + 1) (by omega) (by omega)
        · rw [lo _ i (by decide) (by decide) (by omega), lo _ i (by decide) (by decide) (by omega), lo _ i (by decide) (by decide) (by omega)]
          exact hR i u (by omega)
      · rw [n1] at v
        rw [hi _ i (by decide) (by decide) u (by omega), hi _ i (by decide) (by decide) u (by omega)]
        exact hn (i + 1) (by omega) (by omega)
    · rw [if_neg c]
      refine dEk_P hp k a (by omega) hR (fun i u v => ?_)
      by_cases y : i = 6 * p + k
      · rw [y]; exact c
      · exact hn i (by omega) v
theorem dEk_slot {R : Int → Int → Int → Prop} (hp : 0 ≤ p ∧ p < 4) : ∀ (k : Nat) (a : vH), (k : Int) ≤ a 2 293 p → a 2 293 p ≤ 6 → (∀ i, 0 ≤ i → i < 24 → R (a 2 294 i) (a 2 295 i) (a 2 296 i)) → ∀ i, 0 ≤ i → i < 24 → R (dEk p k a 2 294 i) (dEk p k a 2 295 i) (dEk p k a 2 296 i)
  | 0, a, _, _, hR => hR
  | k + 1, a, hk, h6, hR => by
    unfold dEk
    split
    · have n1 : dR a p 0 k 2 293 p = a 2 293 p - 1 := if_pos ⟨rfl, rfl, rfl⟩
      refine dEk_slot hp k _ (by omega) (by omega) (fun i u v => ?_)
      obtain ⟨i2, w, e⟩ := dR_slot (a := a) (t := 0) (s := 0) (j := (k : Int)) (by decide) (by decide) hp (by rw [nL_s]; exact h6) (by omega) ⟨u, v⟩
      rw [e _ (by decide), e _ (by decide), e _ (by decide)]
      exact hR i2 w.1 w.2
    · exact dEk_slot hp k a (by omega) h6 hR
theorem mHid_dR (hj : 0 ≤ j ∧ j < a 2 293 p) (e : a 2 295 (6 * p + j) = a 2 296 (6 * p + j)) : mHid (dR a p 0 j) p m x = mHid a p m x := by
  have n1 : dR a p 0 j 2 293 p = a 2 293 p - 1 := if_pos ⟨rfl, rfl, rfl⟩
  have q1 : a 2 (293 + 4 * 0) p = a 2 293 p := rfl
  have hi : ∀ r i, 294 ≤ r → r ≤ 296 → 6 * p + j ≤ i → i < 6 * p + a 2 293 p - 1 → dR a p 0 j 2 r i = a 2 r (i + 1) := fun r i u v w y => by
    unfold dR
    rw [if_neg (by omega), if_pos (by omega)]
  have lo : ∀ r i, 294 ≤ r → r ≤ 296 → i < 6 * p + j → dR a p 0 j 2 r i = a 2 r i := fun r i u v w => by
    unfold dR
    rw [if_neg (by omega), if_neg (by omega)]
  unfold mHid
  rw [n1]
  apply propext
  constructor
  · rintro ⟨i, u, v, w⟩
    by_cases y : 6 * p + j ≤ i
    · rw [hi _ i (by decide) (by decide) y (by omega), hi _ i (by decide) (by decide) y (by omega), hi _ i (by decide) (by decide) y (by omega)] at w
      exact ⟨i + 1, by omega, by omega, w⟩
    · rw [lo _ i (by decide) (by decide) (by omega), lo _ i (by decide) (by decide) (by omega), lo _ i (by decide) (by decide) (by omega)] at w
      exact ⟨i, u, by omega, w⟩
  · rintro ⟨i, u, v, w⟩
    by_cases c : i = 6 * p + j
    · rw [c] at w
      omega
    · by_cases y : i < 6 * p + j
      · refine ⟨i, u, by omega, ?_⟩
        show dR a p 0 j 2 294 i = m ∧ ¬ (x < dR a p 0 j 2 295 i) ∧ ¬ (dR a p 0 j 2 296 i - 1 < x)
        rw [lo _ i (by decide) (by decide) y, lo _ i (by decide) (by decide) y, lo _ i (by decide) (by decide) y]
        exact w
      · refine ⟨i - 1, by omega, by omega, ?_⟩
        show dR a p 0 j 2 294 (i - 1) = m ∧ ¬ (x < dR a p 0 j 2 295 (i - 1)) ∧ ¬ (dR a p 0 j 2 296 (i - 1) - 1 < x)
        rw [hi _ (i - 1) (by decide) (by decide) (by omega) (by omega), hi _ (i - 1) (by decide) (by decide) (by omega) (by omega), hi _ (i - 1) (by decide) (by decide) (by omega) (by omega), show i - 1 + 1 = i by omega]
        exact w
theorem mHid_dEk : ∀ (k : Nat) (a : vH), (k : Int) ≤ a 2 293 p → mHid (dEk p k a) p m x = mHid a p m x
  | 0, _, _ => rfl
  | k + 1, a, hk => by
    unfold dEk
    by_cases c : a 2 295 (6 * p + k) = a 2 296 (6 * p + k)
    · rw [if_pos c]
      have n1 : dR a p 0 k 2 293 p = a 2 293 p - 1 := if_pos ⟨rfl, rfl, rfl⟩
      rw [mHid_dEk k _ (by omega), mHid_dR ⟨by omega, by omega⟩ c]
    · rw [if_neg c]
      exact mHid_dEk k a (by omega)
theorem mHid_zE (z : zE p a b) : mHid b p m x = mHid a p m x := by
  unfold mHid
  rw [z.1]
  exact any_loc (fun k u v => by rw [z.2 294 k (by decide) (by decide) u v, z.2 295 k (by decide) (by decide) u v, z.2 296 k (by decide) (by decide) u v])
theorem lnE_wd (g : iG a) (hp : 0 ≤ p ∧ p < 4) (hl : 0 ≤ l ∧ l < a 1504 282 0) (hf : 0 ≤ f ∧ f < u) (hu : u ≤ a 2 284 l) (j0 : 0 ≤ j) (j1 : j < a 1504 282 0) (n : ¬ j = l) : lnE a (tWd a l f u) p j := by
  have N := iG_n6 g
  have n6 := N p hp.1 hp.2
  have gl := g.1.2.1
  have lj := g.1.2.2.1 j j0 (by omega)
  have ll := g.1.2.2.1 l hl.1 (by omega)
  have nT : cn6 (tWe a l f u) := TT_n6 (tO_n6 N)
  have O : ∀ r i, ¬ (r = 283 ∨ r = 284 ∨ r = 293 ∨ (294 ≤ r ∧ r ≤ 296) ∨ r = 299 ∨ r = 306 ∨ r = 309) → tWd a l f u 2 r i = a 2 r i := fun r i e => wd_o N (fun z => e z.2)
  refine ⟨by rw [wd_l N, if_neg n], fun i u' v => by rw [wd_s N, if_neg (by omega)], ?_, fun y => ?_, ?_, fun lo hi => ?_, O _ _ (by decide), O _ _ (by decide)⟩
  · unfold mInv
    rw [O 301 p (by decide)]
    exact any_loc (fun k u v => by rw [O 304 k (by decide), O 302 k (by decide), O 303 k (by decide)])
  · have z1 : mHid (tWd a l f u) p j y = mHid (dE (tWe a l f u) p) p j y := mHid_zE (zE_all hp nT)
    have z2 : mHid (dE (tWe a l f u) p) p j y = mHid (tWe a l f u) p j y := mHid_dEk _ _ (by have := (nT p hp.1 hp.2).1; omega)
    rw [z1, z2]
    unfold mHid
    have es : tWe a l f u 2 293 p = a 2 293 p := (TT_o (by unfold rgL rgS rgV rgF rgC; omega)).trans (tO_o (by decide))
    rw [es]
    refine any_loc (fun k u' v => ?_)
    obtain ⟨k1, k2, k3, -⟩ := we_k (a := a) (l := l) (f := f) (u := u) (k := k) (by omega)
    rw [k1, k2, k3]
    by_cases z : a 2 294 k = j
    · rw [weX_n (fun w => n (z.symm.trans w)), weX_n (fun w => n (z.symm.trans w))]
    · exact propext ⟨fun w => absurd w.1 z, fun w => absurd w.1 z⟩
  · unfold mFst
    rw [O 301 p (by decide)]
    exact any_loc (fun k u v => by rw [O 304 k (by decide), O 302 k (by decide)])
  · rw [O 297 p (by decide)]
    refine mVt_ed _ _ (fun i u' v => ?_)
    rw [O 298 i (by decide), O 300 i (by decide), wd_v N (by omega)]
    exact ⟨Iff.rfl, fun e => weX_n (fun w => n (e.symm.trans w)), rfl⟩
theorem iG_wd (g : iG a) (hl : 0 ≤ l ∧ l < a 1504 282 0) (hf : 0 ≤ f ∧ f < u) (hu : u ≤ a 2 284 l) : iG (tWd a l f u) := by
  have N := iG_n6 g
  have gl := g.1.2.1
  have gn := g.1.2.2.1
  have ll := gn l hl.1 (by omega)
  have nT : cn6 (tWe a l f u) := TT_n6 (tO_n6 N)
  have O : ∀ r i, ¬ (r = 283 ∨ r = 284 ∨ r = 293 ∨ (294 ≤ r ∧ r ≤ 296) ∨ r = 299 ∨ r = 306 ∨ r = 309) → tWd a l f u 2 r i = a 2 r i := fun r i e => wd_o N (fun z => e z.2)
  have el : tWd a l f u 1504 282 0 = a 1504 282 0 := wd_o N (by decide)
  have lv : ∀ i, tWd a l f u 2 284 i = if i = l then a 2 284 l - (u - f) else a 2 284 i := fun i => wd_l N
  have nY : cn6 (tWd a l f u) := dE_n6 (by decide) (dE_n6 (by decide) (dE_n6 (by decide) (dE_n6 (by decide) nT)))
  have SP : ∀ p, 0 ≤ p → p < 4 → ∀ i, 6 * p ≤ i → i < 6 * p + tWd a l f u 2 293 p → ((0 ≤ tWd a l f u 2 294 i ∧ tWd a l f u 2 294 i < a 1504 282 0) ∧ 0 ≤ tWd a l f u 2 295 i ∧ tWd a l f u 2 295 i ≤ tWd a l f u 2 296 i ∧ tWd a l f u 2 296 i ≤ (if tWd a l f u 2 294 i = l then a 2 284 l - (u - f) else a 2 284 (tWd a l f u 2 294 i))) ∧ ¬ tWd a l f u 2 295 i = tWd a l f u 2 296 i := by
    intro p p0 p4 i u' v
    have Z : zE p (dE (tWe a l f u) p) (tWd a l f u) := zE_all ⟨p0, p4⟩ nT
    have t6 := (nT p p0 p4).1
    have es : tWe a l f u 2 293 p = a 2 293 p := (TT_o (by unfold rgL rgS rgV rgF rgC; omega)).trans (tO_o (by decide))
    have a6 := (N p p0 p4).1
    rw [Z.1] at v
    rw [Z.2 294 i (by decide) (by decide) u' v, Z.2 295 i (by decide) (by decide) u' v, Z.2 296 i (by decide) (by decide) u' v]
    refine dEk_P (R := fun L F T => (0 ≤ L ∧ L < a 1504 282 0) ∧ 0 ≤ F ∧ F ≤ T ∧ T ≤ (if L = l then a 2 284 l - (u - f) else a 2 284 L)) ⟨p0, p4⟩ (tWe a l f u 2 293 p).toNat (tWe a l f u) (by omega) (fun i v1 v2 => ?_) (fun i v1 v2 => by omega) i u' v
    rw [es] at v2
    obtain ⟨k1, k2, k3, -⟩ := we_k (a := a) (l := l) (f := f) (u := u) (k := i) (by omega)
    obtain ⟨s1, s2, s3, s4, s5⟩ := (g.2 p p0 p4).2.1 i v1 v2
    rw [k1, k2, k3]
    have w1 := weX_v (a := a) (l := l) (l0 := a 2 294 i) (X := a 2 295 i) (by omega) hf hu
    have w2 := weX_v (a := a) (l := l) (l0 := a 2 294 i) (X := a 2 296 i) s5 hf hu
    exact ⟨⟨s1, s2⟩, w1.1 s3, weX_mono (by omega) hf, w2.2.1⟩
  refine ⟨⟨shModel_sx wd_sx g.1.1, by rw [el]; exact gl, fun i u' v => ?_, fun p u' v => ?_⟩, fun p u' v => ?_⟩
  · rw [lv]
    have := gn i u' v
    split <;> omega
  · obtain ⟨o, w1, w2⟩ := g.1.2.2.2 p u' v
    obtain ⟨⟨n1, n2⟩, ⟨n3, n4⟩, n5, n6⟩ := nY p u' v
    rw [O 286 p (by decide), O 287 p (by decide)]
    refine ⟨⟨n1, n2, n3, n4, n5, n6, fun k s t => ?_⟩, w1, w2⟩
    obtain ⟨⟨s1, s2, s3, s4⟩, s5⟩ := SP p u' v k s t
    have L := gn (tWd a l f u 2 294 k) s1.1 (by omega)
    refine ⟨by omega, Int.le_trans s4 ?_⟩
    split <;> omega
  · obtain ⟨f1, f2, f3, f4, f5, f6⟩ := g.2 p u' v
    have C := wd_c (l := l) (f := f) (u := u) N (p := p) ⟨u', v⟩
    rw [O 297 p (by decide), O 301 p (by decide), O 288 p (by decide), O 305 p (by decide), O 308 p (by decide), C.1, C.2, el]
    have k6 := N p u' v
    refine ⟨fun k s1 t1 => ?_, fun k s1 t1 => ?_, fun k s1 t1 => ?_, ?_, ?_, f6⟩
    · rw [O 302 k (by decide), O 303 k (by decide)]
      exact f1 k s1 t1
    · obtain ⟨⟨s1', s2, s3, s4⟩, s5⟩ := SP p u' v k s1 t1
      rw [lv]
      exact ⟨s1'.1, s1'.2, s2, by omega, s4⟩
    · obtain ⟨s2, s3, s4, s5⟩ := f3 k s1 t1
      rw [O 298 k (by decide), wd_v N (by omega), lv]
      have V := weX_v (a := a) (l := l) (l0 := a 2 298 k) (X := a 2 299 k) s5 hf hu
      exact ⟨s2, s3, V.1 s4, V.2.1⟩
    · rw [lv]
      have V := weX_v (a := a) (l := l) (l0 := a 2 305 p) (X := a 2 306 p) f4.2.2.2 hf hu
      exact ⟨f4.1, f4.2.1, V.1 f4.2.2.1, V.2.1⟩
    · rw [lv]
      have V := weX_v (a := a) (l := l) (l0 := a 2 308 p) (X := a 2 309 p) f5.2.2.2 hf hu
      exact ⟨f5.1, f5.2.1, V.1 f5.2.2.1, V.2.1⟩
theorem iH_wd (g : iG a) (i : iH a) (hl : 0 ≤ l ∧ l < a 1504 282 0) (hf : 0 ≤ f ∧ f < u) (hu : u ≤ a 2 284 l) : iH (tWd a l f u) := by
  have N := iG_n6 g
  have gl := g.1.2.1
  have ll := g.1.2.2.1 l hl.1 (by omega)
  refine iH_x (fun r hr => funext (fun _ => wd_o N (by omega))) (wd_o N (by decide)) (fun m y v w z1 z2 => ?_) i
  rw [wd_o N (k := 1504) (by decide)] at w
  rw [wd_l N] at z2
  rw [wd_s N]
  have gm := g.1.2.2.1 m v (by omega)
  by_cases c : m = l
  · rw [if_pos c] at z2
    rw [c]
    by_cases c1 : f ≤ y
    · rw [if_pos (by omega), show 80 * l + y + u - f = 80 * l + (y + u - f) by omega]
      exact i.2.2.2.2.2.2 l (y + u - f) hl.1 hl.2 (by omega) (by omega)
    · rw [if_neg (by omega)]
      exact i.2.2.2.2.2.2 l y hl.1 hl.2 z1 (by omega)
  · rw [if_neg c] at z2
    rw [if_neg (by omega)]
    exact i.2.2.2.2.2.2 m y v w z1 z2
theorem iV_wd (g : iG a) (V : iV n a) (hn : 0 ≤ n) (hf : 0 ≤ f ∧ f < u) (hu : u ≤ a 2 284 l) : iV n (tWd a l f u) := by
  have N := iG_n6 g
  have O : ∀ r i, ¬ (r = 283 ∨ r = 284 ∨ r = 293 ∨ (294 ≤ r ∧ r ≤ 296) ∨ r = 299 ∨ r = 306 ∨ r = 309) → tWd a l f u 2 r i = a 2 r i := fun r i e => wd_o N (fun z => e z.2)
  have nT : cn6 (tWe a l f u) := TT_n6 (tO_n6 N)
  have n0 := dE_n6 (p := 0) (by decide) nT
  have n1 := dE_n6 (p := 1) (by decide) n0
  have n2 := dE_n6 (p := 2) (by decide) n1
  have st : ∀ {R : Int → Int → Int → Prop} (p : Int) (b : vH), 0 ≤ p ∧ p < 4 → cn6 b → (∀ i, 0 ≤ i → i < 24 → R (b 2 294 i) (b 2 295 i) (b 2 296 i)) → ∀ i, 0 ≤ i → i < 24 → R (dE b p 2 294 i) (dE b p 2 295 i) (dE b p 2 296 i) := fun p b hp nb hR => dEk_slot hp _ b (by have := (nb p hp.1 hp.2).1; omega) (nb p hp.1 hp.2).1.2 hR
  intro k u' v
  obtain ⟨v1, v2, v3, v4, v5, v6, v7⟩ := V k u' v
  have S0 : ∀ i, 0 ≤ i → i < 24 → wdS a l f u n (tWe a l f u 2 294 i) (tWe a l f u 2 295 i) (tWe a l f u 2 296 i) := fun i w1 w2 => by
    obtain ⟨v1, v2, v3, -⟩ := V i w1 w2
    obtain ⟨k1, k2, k3, -⟩ := we_k (a := a) (l := l) (f := f) (u := u) (k := i) ⟨w1, w2⟩
    rw [k1, k2, k3]
    have y1 := weX_v (a := a) (l := l) (l0 := a 2 294 i) (X := a 2 295 i) v2.2 hf hu
    have y2 := weX_v (a := a) (l := l) (l0 := a 2 294 i) (X := a 2 296 i) v3.2 hf hu
    exact ⟨v1, ⟨y1.1 v2.1, y1.2.1⟩, by have := y2.2.2; omega, y2.2.1⟩
  have S : wdS a l f u n (tWd a l f u 2 294 k) (tWd a l f u 2 295 k) (tWd a l f u 2 296 k) := st 3 _ (by decide) n2 (st 2 _ (by decide) n1 (st 1 _ (by decide) n0 (st 0 _ (by decide) nT S0))) k u' v
  rw [O 298 k (by decide), O 302 k (by decide), O 303 k (by decide), wd_o N (k := 1504) (by decide), wd_v N ⟨u', v⟩, wd_l N, wd_l N]
  have y := weX_v (a := a) (l := l) (l0 := a 2 298 k) (X := a 2 299 k) v5.2 hf hu
  exact ⟨S.1, S.2.1, S.2.2, v4, ⟨y.1 v5.1, y.2.1⟩, v6, v7⟩
theorem iM_wd (N : cn6 a) (w : iM a) : iM (tWd a l f u) := fun i u' v => by
  rw [wd_o N (r := 285) (by decide)]
  rw [wd_o N (k := 1504) (by decide)] at v
  exact w i u' v
theorem iC_wd (N : cn6 a) (w : iC a) : iC (tWd a l f u) := fun i u' v => by
  rw [wd_o N (r := 304) (by decide)]
  exact w i u' v
end RM2

