/-! join: what holds behind it -/
section JN5
variable {h h2 a b : vH} {p q P Q X l x s f u t j st r l0 x0 n m L F T : Int}
theorem tJ_n6 (n6 : cn6 a) : cn6 (tJ a l) := cn6_of (fun q _ _ => ⟨tJ_o (by decide) (by decide), tJ_o (by decide) (by decide), tJ_o (by decide) (by decide)⟩) n6
theorem tJw_n6 (n6 : cn6 a) : cn6 (tJw a l) := TT_n6 (tJ_n6 n6)
theorem jd_o (N : cn6 a) {k : Nat} {r i : Int} (n : ¬ (k = 2 ∧ ((283 ≤ r ∧ r ≤ 285) ∨ r = 294 ∨ r = 295 ∨ r = 296 ∨ r = 298 ∨ r = 299 ∨ (301 ≤ r ∧ r ≤ 304) ∨ r = 305 ∨ r = 306 ∨ r = 308 ∨ r = 309))) (m : ¬ (k = 1504 ∧ r = 282)) : tJd a l k r i = a k r i := by
  have ti : tJ a l k r i = a k r i := tJ_o (by omega) m
  unfold tJd
  rw [dF4_o (tJw_n6 N) (by omega)]
  unfold tJw
  by_cases z : k = 2
  · subst z
    have gi : gJo l (a 2 284 l) (tJ a l) r i = a 2 r i := by
      unfold gJo
      rw [if_neg (by omega), if_neg (by omega), if_neg (by omega), if_neg (by omega), if_neg (by omega), if_neg (by omega), if_neg (by omega), if_neg (by omega), if_neg (by omega), if_neg (by omega), if_neg (by omega), ti]
    by_cases y : rgL r
    · rw [TT_L y]
      split
      · exact gi
      · exact ti
    · by_cases w : rgC r
      · rw [TT_C w]
        split
        · exact gi
        · exact ti
      · rw [TT_o (fun u => u.2.elim y w), ti]
  · rw [TT_o (fun u => z u.1), ti]
theorem jd_T (N : cn6 a) {k : Nat} {r i : Int} (n : ¬ (k = 2 ∧ (rgL r ∨ rgC r ∨ (301 ≤ r ∧ r ≤ 304)))) : tJd a l k r i = tJ a l k r i := by
  unfold tJd
  rw [dF4_o (tJw_n6 N) (fun w => n ⟨w.1, w.2.elim (fun w => Or.inr (Or.inr (by omega))) (fun w => Or.inr (Or.inr (by omega)))⟩)]
  exact TT_o (fun w => n ⟨w.1, w.2.elim Or.inl (fun w => Or.inr (Or.inl w))⟩)
theorem jd_n (N : cn6 a) : tJd a l 1504 282 0 = a 1504 282 0 - 1 := (jd_T N (fun w => absurd w.1 (by decide))).trans tJ_n
theorem jd_l (N : cn6 a) {i : Int} : tJd a l 2 284 i = if l + 1 ≤ i ∧ i < a 1504 282 0 - 1 then a 2 284 (i + 1) else if i = l then a 2 284 l + a 2 284 (l + 1) else a 2 284 i := (jd_T N (by unfold rgL rgS rgV rgF rgC; decide)).trans tJ_l
theorem jd_m (N : cn6 a) {i : Int} : tJd a l 2 285 i = if l + 1 ≤ i ∧ i < a 1504 282 0 - 1 then a 2 285 (i + 1) else if i = l then (if ¬ (a 2 285 l = 0) ∨ ¬ (a 2 285 (l + 1) = 0) then 1 else 0) else a 2 285 i := (jd_T N (by unfold rgL rgS rgV rgF rgC; decide)).trans tJ_m
theorem jd_s (N : cn6 a) (h80 : a 2 284 l + a 2 284 (l + 1) ≤ 80) {i : Int} : tJd a l 2 283 i = if 80 * (l + 1) ≤ i ∧ i < 80 * (a 1504 282 0 - 1) then a 2 283 (i + 80) else if 80 * l + a 2 284 l ≤ i ∧ i < 80 * l + a 2 284 l + a 2 284 (l + 1) then a 2 283 (i + 80 - a 2 284 l) else a 2 283 i := (jd_T N (by unfold rgL rgS rgV rgF rgC; decide)).trans (tJ_s h80)
theorem jw_S {k : Int} (u : 0 ≤ k ∧ k < 24) : (tJw a l 2 294 k = jnL l (a 2 294 k) ∧ tJw a l 2 295 k = jnX l (a 2 284 l) (a 2 294 k) (a 2 295 k) ∧ tJw a l 2 296 k = jnX l (a 2 284 l) (a 2 294 k) (a 2 296 k)) ∧ (tJw a l 2 298 k = jnL l (a 2 298 k) ∧ tJw a l 2 299 k = jnX l (a 2 284 l) (a 2 298 k) (a 2 299 k)) ∧ tJw a l 2 302 k = jnL l (a 2 302 k) ∧ tJw a l 2 303 k = jnL l (a 2 303 k) ∧ tJw a l 2 304 k = a 2 304 k := by
  have ti : ∀ r, 294 ≤ r → tJ a l 2 r k = a 2 r k := fun r hr => tJ_o (by omega) (by omega)
  unfold tJw
  refine ⟨⟨?_, ?_, ?_⟩, ⟨?_, ?_⟩, ?_, ?_, ?_⟩
  · rw [TT_L (Or.inl (by unfold rgS; decide)), if_pos (by omega)]
    show jnL l (tJ a l 2 294 k) = _
    rw [ti _ (by decide)]
  · rw [TT_L (Or.inl (by unfold rgS; decide)), if_pos (by omega)]
    show jnX l _ (tJ a l 2 294 k) (tJ a l 2 295 k) = _
    rw [ti _ (by decide), ti _ (by decide)]
  · rw [TT_L (Or.inl (by unfold rgS; decide)), if_pos (by omega)]
    show jnX l _ (tJ a l 2 294 k) (tJ a l 2 296 k) = _
    rw [ti _ (by decide), ti _ (by decide)]
  · rw [TT_L (Or.inr (Or.inl (by unfold rgV; decide))), if_pos (by omega)]
    show jnL l (tJ a l 2 298 k) = _
    rw [ti _ (by decide)]
  · rw [TT_L (Or.inr (Or.inl (by unfold rgV; decide))), if_pos (by omega)]
    show jnX l _ (tJ a l 2 298 k) (tJ a l 2 299 k) = _
    rw [ti _ (by decide), ti _ (by decide)]
  · rw [TT_L (Or.inr (Or.inr (by unfold rgF; decide))), if_pos (by omega)]
    show jnL l (tJ a l 2 302 k) = _
    rw [ti _ (by decide)]
  · rw [TT_L (Or.inr (Or.inr (by unfold rgF; decide))), if_pos (by omega)]
    show jnL l (tJ a l 2 303 k) = _
    rw [ti _ (by decide)]
  · rw [TT_o (by unfold rgL rgS rgV rgF rgC; decide)]
    exact ti 304 (by decide)
theorem jd_S (N : cn6 a) {k : Int} (u : 0 ≤ k ∧ k < 24) : (tJd a l 2 294 k = jnL l (a 2 294 k) ∧ tJd a l 2 295 k = jnX l (a 2 284 l) (a 2 294 k) (a 2 295 k) ∧ tJd a l 2 296 k = jnX l (a 2 284 l) (a 2 294 k) (a 2 296 k)) ∧ (tJd a l 2 298 k = jnL l (a 2 298 k) ∧ tJd a l 2 299 k = jnX l (a 2 284 l) (a 2 298 k) (a 2 299 k)) := by
  obtain ⟨⟨k1, k2, k3⟩, ⟨k4, k5⟩, -⟩ := jw_S (a := a) (l := l) u
  unfold tJd
  rw [dF4_o (tJw_n6 N) (by omega), dF4_o (tJw_n6 N) (by omega), dF4_o (tJw_n6 N) (by omega), dF4_o (tJw_n6 N) (by omega), dF4_o (tJw_n6 N) (by omega)]
  exact ⟨⟨k1, k2, k3⟩, k4, k5⟩
theorem jd_C (N : cn6 a) (hp : 0 ≤ p ∧ p < 4) : (tJd a l 2 305 p = jnL l (a 2 305 p) ∧ tJd a l 2 306 p = jnX l (a 2 284 l) (a 2 305 p) (a 2 306 p)) ∧ (tJd a l 2 308 p = jnL l (a 2 308 p) ∧ tJd a l 2 309 p = jnX l (a 2 284 l) (a 2 308 p) (a 2 309 p)) := by
  have ti : ∀ r, 294 ≤ r → tJ a l 2 r p = a 2 r p := fun r hr => tJ_o (by omega) (by omega)
  have tw : ∀ r, rgC r → tJd a l 2 r p = gJo l (a 2 284 l) (tJ a l) r p := fun r hr => by
    unfold tJd
    rw [dF4_o (tJw_n6 N) (by unfold rgC at hr; omega)]
    unfold tJw
    rw [TT_C hr, if_pos (by omega)]
  rw [tw _ (by unfold rgC; decide), tw _ (by unfold rgC; decide), tw _ (by unfold rgC; decide), tw _ (by unfold rgC; decide)]
  refine ⟨⟨?_, ?_⟩, ?_, ?_⟩
  · show jnL l (tJ a l 2 305 p) = _
    rw [ti _ (by decide)]
  · show jnX l _ (tJ a l 2 305 p) (tJ a l 2 306 p) = _
    rw [ti _ (by decide), ti _ (by decide)]
  · show jnL l (tJ a l 2 308 p) = _
    rw [ti _ (by decide)]
  · show jnX l _ (tJ a l 2 308 p) (tJ a l 2 309 p) = _
    rw [ti _ (by decide), ti _ (by decide)]
theorem jd_sx : sx a (tJd a l) := sx_tr tJ_sx (sx_tr TT_sx (dFn_sx 4))
theorem jnL_c : (L ≤ l ∧ jnL l L = L) ∨ (¬ L ≤ l ∧ jnL l L = L - 1) := by
  unfold jnL
  by_cases z : L ≤ l
  · rw [if_neg (fun w => w z)]
    exact Or.inl ⟨z, by omega⟩
  · rw [if_pos z]
    exact Or.inr ⟨z, rfl⟩
theorem jnX_c : (L = l + 1 ∧ jnX l n L X = X + n) ∨ (¬ L = l + 1 ∧ jnX l n L X = X) := by
  unfold jnX
  by_cases z : L = l + 1
  · rw [if_pos z]
    exact Or.inl ⟨z, rfl⟩
  · rw [if_neg z]
    exact Or.inr ⟨z, Int.add_zero _⟩
theorem jn_pl (N : cn6 a) (hl : 0 ≤ l ∧ l + 1 < m) (n0 : 0 ≤ a 2 284 l ∧ 0 ≤ a 2 284 (l + 1)) (g1 : 0 ≤ L ∧ L < m) (g2 : X ≤ a 2 284 L) (em : a 1504 282 0 = m) : (0 ≤ jnL l L ∧ jnL l L < m - 1) ∧ (X ≤ jnX l (a 2 284 l) L X ∧ jnX l (a 2 284 l) L X ≤ tJd a l 2 284 (jnL l L)) := by
  have c1 := jnL_c (l := l) (L := L)
  have c2 := jnX_c (l := l) (n := a 2 284 l) (L := L) (X := X)
  rw [jd_l N, em]
  by_cases z : L ≤ l
  · have e : jnL l L = L := by omega
    rw [e, if_neg (by omega)]
    by_cases y : L = l
    · rw [if_pos y]
      rw [y] at g2 c2 ⊢
      omega
    · rw [if_neg y]
      omega
  · have e : jnL l L = L - 1 := by omega
    rw [e]
    by_cases y : L = l + 1
    · rw [if_neg (by omega), if_pos (by omega)]
      rw [y] at g2 c2 ⊢
      omega
    · rw [if_pos (by omega), show L - 1 + 1 = L by omega]
      omega
theorem jnL_lt (hj : j < l) : jnL l L = j ↔ L = j := by
  have c1 := jnL_c (l := l) (L := L)
  omega
theorem jnX_ne (hj : L < l) : jnX l n L X = X := by
  have c2 := jnX_c (l := l) (n := n) (L := L) (X := X)
  omega
/-- what is left of the folds of a pane -/
theorem dFk_P {R : Int → Int → Int → Prop} (hp : 0 ≤ p ∧ p < 4) : ∀ (k : Nat) (a : vH), (k : Int) ≤ a 2 301 p → (∀ i, 6 * p ≤ i → i < 6 * p + a 2 301 p → R (a 2 302 i) (a 2 303 i) (a 2 304 i)) → (∀ i, 6 * p + k ≤ i → i < 6 * p + a 2 301 p → ¬ a 2 302 i = a 2 303 i) → ∀ i, 6 * p ≤ i → i < 6 * p + dFk p k a 2 301 p → R (dFk p k a 2 302 i) (dFk p k a 2 303 i) (dFk p k a 2 304 i) ∧ ¬ dFk p k a 2 302 i = dFk p k a 2 303 i
  | 0, a, _, hR, hn => fun i u v => ⟨hR i u v, hn i (by omega) v⟩
  | k + 1, a, hk, hR, hn => by
    unfold dFk
    by_cases c : a 2 302 (6 * p + k) = a 2 303 (6 * p + k)
    · rw [if_pos c]
      have n1 : dR a p 2 k 2 301 p = a 2 301 p - 1 := if_pos ⟨rfl, rfl, rfl⟩
      have q1 : a 2 (293 + 4 * 2) p = a 2 301 p := rfl
      have hi : ∀ r i, 302 ≤ r → r ≤ 304 → 6 * p + k ≤ i → i < 6 * p + a 2 301 p - 1 → dR a p 2 k 2 r i = a 2 r (i + 1) := fun r i u v w y => by
        unfold dR
        rw [if_neg (by omega), if_pos (by omega)]
      have lo : ∀ r i, 302 ≤ r → r ≤ 304 → i < 6 * p + k → dR a p 2 k 2 r i = a 2 r i := fun r i u v w => by
        unfold dR
        rw [if_neg (by omega), if_neg (by omega)]
      refine dFk_P hp k _ (by omega) (fun i u v => ?_) (fun i u v => ?_)
      · rw [n1] at v
        by_cases y : 6 * p + k ≤ i
        · rw [hi _ i (by decide) (by decide) y (by omega), hi _ i (by decide) (by decide) y (by omega), hi _ i (by decide) (by decide) y (by omega)]
          exact hR (i + 1) (by omega) (by omega)
        · rw [lo _ i (by decide) (by decide) (by omega), lo _ i (by decide) (by decide) (by omega), lo _ i (by decide) (by decide) (by omega)]
          exact hR i u (by omega)
      · rw [n1] at v
        rw [hi _ i (by decide) (by decide) u (by omega), hi _ i (by decide) (by decide) u (by omega)]
        exact hn (i + 1) (by omega) (by omega)
    · rw [if_neg c]
      refine dFk_P hp k a (by omega) hR (fun i u v => ?_)
      by_cases y : i = 6 * p + k
      · rw [y]; exact c
      · exact hn i (by omega) v
theorem dFk_slot {R : Int → Int → Prop} (hp : 0 ≤ p ∧ p < 4) : ∀ (k : Nat) (a : vH), (k : Int) ≤ a 2 301 p → a 2 301 p ≤ 6 → (∀ i, 0 ≤ i → i < 24 → R (a 2 302 i) (a 2 303 i)) → ∀ i, 0 ≤ i → i < 24 → R (dFk p k a 2 302 i) (dFk p k a 2 303 i)
  | 0, a, _, _, hR => hR
  | k + 1, a, hk, h6, hR => by
    unfold dFk
    split
    · have n1 : dR a p 2 k 2 301 p = a 2 301 p - 1 := if_pos ⟨rfl, rfl, rfl⟩
      refine dFk_slot hp k _ (by omega) (by omega) (fun i u v => ?_)
      obtain ⟨i2, w, e⟩ := dR_slot (a := a) (t := 2) (s := 2) (j := (k : Int)) (by decide) (by decide) hp (by rw [nL_f]; exact h6) (by omega) ⟨u, v⟩
      rw [e _ (by decide), e _ (by decide)]
      exact hR i2 w.1 w.2
    · exact dFk_slot hp k a (by omega) h6 hR
/-- dropped folds fold nothing before the line -/
def anF (R : Int → Int → Int → Prop) (p : Int) (a : vH) : Prop := anyI (fun k => R (a 2 302 k) (a 2 303 k) (a 2 304 k)) (6 * p) (6 * p + a 2 301 p)
theorem anF_dR {R : Int → Int → Int → Prop} (hj : 0 ≤ j ∧ j < a 2 301 p) (e : ¬ R (a 2 302 (6 * p + j)) (a 2 303 (6 * p + j)) (a 2 304 (6 * p + j))) : anF R p (dR a p 2 j) = anF R p a := by
  have n1 : dR a p 2 j 2 301 p = a 2 301 p - 1 := if_pos ⟨rfl, rfl, rfl⟩
  have q1 : a 2 (293 + 4 * 2) p = a 2 301 p := rfl
  have hi : ∀ r i, 302 ≤ r → r ≤ 304 → 6 * p + j ≤ i → i < 6 * p + a 2 301 p - 1 → dR a p 2 j 2 r i = a 2 r (i + 1) := fun r i u v w y => by
    unfold dR
    rw [if_neg (by omega), if_pos (by omega)]
  have lo : ∀ r i, 302 ≤ r → r ≤ 304 → i < 6 * p + j → dR a p 2 j 2 r i = a 2 r i := fun r i u v w => by
    unfold dR
    rw [if_neg (by omega), if_neg (by omega)]
  unfold anF
  rw [n1]
  apply propext
  constructor
  · rintro ⟨i, u, v, w⟩
    by_cases y : 6 * p + j ≤ i
    · rw [hi _ i (by decide) (by decide) y (by omega), hi _ i (by decide) (by decide) y (by omega), hi _ i (by decide) (by decide) y (by omega)] at w
      exact ⟨i + 1, by omega, by omega, w⟩
    · rw [lo _ i (by decide) (by decide) (by omega), lo _ i (by decide) (by decide) (by omega), lo _ i (by decide) (by decide) (by omega)] at w
      exact ⟨i, u, by omega, w⟩
  · rintro ⟨i, u, v, w⟩
    by_cases c : i = 6 * p + j
    · rw [c] at w
      exact absurd w e
    · by_cases y : i < 6 * p + j
      · refine ⟨i, u, by omega, ?_⟩
        show R (dR a p 2 j 2 302 i) (dR a p 2 j 2 303 i) (dR a p 2 j 2 304 i)
        rw [lo _ i (by decide) (by decide) y, lo _ i (by decide) (by decide) y, lo _ i (by decide) (by decide) y]
        exact w
      · refine ⟨i - 1, by omega, by omega, ?_⟩
        show R (dR a p 2 j 2 302 (i - 1)) (dR a p 2 j 2 303 (i - 1)) (dR a p 2 j 2 304 (i - 1))
        rw [hi _ (i - 1) (by decide) (by decide) (by omega) (by omega), hi _ (i - 1) (by decide) (by decide) (by omega) (by omega), hi _ (i - 1) (by decide) (by decide) (by omega) (by omega), show i - 1 + 1 = i by omega]
        exact w
theorem anF_dFk {R : Int → Int → Int → Prop} (hp : 0 ≤ p ∧ p < 4) : ∀ (k : Nat) (a : vH), (k : Int) ≤ a 2 301 p → (∀ i, 6 * p ≤ i → i < 6 * p + a 2 301 p → a 2 302 i = a 2 303 i → ¬ R (a 2 302 i) (a 2 303 i) (a 2 304 i)) → anF R p (dFk p k a) = anF R p a
  | 0, _, _, _ => rfl
  | k + 1, a, hk, nR => by
    unfold dFk
    by_cases c : a 2 302 (6 * p + k) = a 2 303 (6 * p + k)
    · rw [if_pos c]
      have n1 : dR a p 2 k 2 301 p = a 2 301 p - 1 := if_pos ⟨rfl, rfl, rfl⟩
      have q1 : a 2 (293 + 4 * 2) p = a 2 301 p := rfl
      rw [anF_dFk hp k _ (by omega) (fun i u v => ?_), anF_dR ⟨by omega, by omega⟩ (nR _ (by omega) (by omega) c)]
      rw [n1] at v
      unfold dR
      by_cases y : 6 * p + k ≤ i
      · rw [if_neg (by omega), if_pos (by omega), if_neg (by omega), if_pos (by omega), if_neg (by omega), if_pos (by omega)]
        exact nR (i + 1) (by omega) (by omega)
      · rw [if_neg (by omega), if_neg (by omega), if_neg (by omega), if_neg (by omega), if_neg (by omega), if_neg (by omega)]
        exact nR i u (by omega)
    · rw [if_neg c]
      exact anF_dFk hp k a (by omega) nR
theorem anF_zF {R : Int → Int → Int → Prop} (z : zF p a b) : anF R p b = anF R p a := by
  unfold anF
  rw [z.1]
  exact any_loc (fun k u v => by rw [z.2 302 k (by decide) (by decide) u v, z.2 303 k (by decide) (by decide) u v, z.2 304 k (by decide) (by decide) u v])
theorem anF_jd {R : Int → Int → Int → Prop} (N : cn6 a) (hp : 0 ≤ p ∧ p < 4) (g : ∀ i, 6 * p ≤ i → i < 6 * p + a 2 301 p → a 2 302 i < a 2 303 i) (nR : ∀ C, ¬ R l l C) (e : ∀ F T C, R (jnL l F) (jnL l T) C = R F T C) : anF R p (tJd a l) = anF R p a := by
  have nT := tJw_n6 (l := l) N
  have t6 := (nT p hp.1 hp.2).2.2
  have a6 := (N p hp.1 hp.2).2.2
  have ef : tJw a l 2 301 p = a 2 301 p := (TT_o (by unfold rgL rgS rgV rgF rgC; omega)).trans (tJ_o (by decide) (by decide))
  have z1 : anF R p (tJd a l) = anF R p (dF (tJw a l) p) := anF_zF (zF_all hp nT)
  have z2 : anF R p (dF (tJw a l) p) = anF R p (tJw a l) := anF_dFk hp _ _ (by omega) (fun i u v c => by
    rw [ef] at v
    obtain ⟨-, -, k1, k2, k3⟩ := jw_S (a := a) (l := l) (k := i) (by omega)
    rw [k1, k2] at c ⊢
    have c1 := jnL_c (l := l) (L := a 2 302 i)
    have c2 := jnL_c (l := l) (L := a 2 303 i)
    have := g i u v
    have e1 : jnL l (a 2 302 i) = l := by omega
    have e2 : jnL l (a 2 303 i) = l := by omega
    rw [e1, e2]
    exact nR _)
  rw [z1, z2]
  unfold anF
  rw [ef]
  refine any_loc (fun i u v => ?_)
  obtain ⟨-, -, k1, k2, k3⟩ := jw_S (a := a) (l := l) (k := i) (by omega)
  rw [k1, k2, k3]
  exact e _ _ _
theorem lnE_jd (g : iG a) (hp : 0 ≤ p ∧ p < 4) (hl : 0 ≤ l ∧ l + 1 < a 1504 282 0) (h80 : a 2 284 l + a 2 284 (l + 1) ≤ 80) (j0 : 0 ≤ j) (j1 : j < l) : lnE a (tJd a l) p j := by
  have N := iG_n6 g
  have n6 := N p hp.1 hp.2
  have gl := g.1.2.1
  have lj := g.1.2.2.1 j j0 (by omega)
  have ll := g.1.2.2.1 l hl.1 (by omega)
  have gf : ∀ i, 6 * p ≤ i → i < 6 * p + a 2 301 p → a 2 302 i < a 2 303 i := fun i u v => ((g.2 p hp.1 hp.2).1 i u v).2.1
  refine ⟨by rw [jd_l N, if_neg (by omega), if_neg (by omega)], fun i u' v => by rw [jd_s N h80, if_neg (by omega), if_neg (by omega)], ?_, fun y => ?_, ?_, fun lo hi => ?_, jd_o N (by decide) (by decide), jd_o N (by decide) (by decide)⟩
  · refine anF_jd (R := fun F T C => ¬ (C = 0) ∧ ¬ (j ≤ F) ∧ ¬ (T < j)) N hp gf (fun C w => by omega) (fun F T C => ?_)
    have c1 := jnL_c (l := l) (L := F)
    have c2 := jnL_c (l := l) (L := T)
    exact propext ⟨fun w => ⟨w.1, by omega, by omega⟩, fun w => ⟨w.1, by omega, by omega⟩⟩
  · unfold mHid
    rw [jd_o N (r := 293) (by decide) (by decide)]
    refine any_loc (fun k u' v => ?_)
    obtain ⟨⟨k1, k2, k3⟩, -⟩ := jd_S (l := l) N (k := k) (by omega)
    rw [k1, k2, k3]
    by_cases z : a 2 294 k = j
    · rw [jnX_ne (by omega), jnX_ne (by omega), (jnL_lt j1).mpr z, z]
    · exact propext ⟨fun w => absurd ((jnL_lt j1).mp w.1) z, fun w => absurd w.1 z⟩
  · refine anF_jd (R := fun F T C => ¬ (C = 0) ∧ j = F) N hp gf (fun C w => by omega) (fun F T C => ?_)
    have c1 := jnL_c (l := l) (L := F)
    exact propext ⟨fun w => ⟨w.1, by omega⟩, fun w => ⟨w.1, by omega⟩⟩
  · rw [jd_o N (r := 297) (by decide) (by decide)]
    refine mVt_ed _ _ (fun i u' v => ?_)
    obtain ⟨-, k4, k5⟩ := jd_S (l := l) N (k := i) (by omega)
    rw [k4, k5, jd_o N (r := 300) (by decide) (by decide)]
    exact ⟨jnL_lt j1, fun e => jnX_ne (by omega), rfl⟩
end JN5

