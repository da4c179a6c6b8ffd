/-! join -/
section JN6
variable {h h2 a b : vH} {p q P Q X l x s f u t j st r l0 x0 n m L F T : Int}
theorem iG_jd (g : iG a) (hl : 0 ≤ l ∧ l + 1 < a 1504 282 0) (h80 : a 2 284 l + a 2 284 (l + 1) ≤ 80) : iG (tJd a l) := by
  have N := iG_n6 g
  have gl := g.1.2.1
  have gn := g.1.2.2.1
  have lX := gn l hl.1 (by omega)
  have lY := gn (l + 1) (by omega) (by omega)
  have nT : cn6 (tJw a l) := tJw_n6 N
  have nY : cn6 (tJd a l) := dFn_n6 4 (by decide) nT
  have LB : ∀ i, 0 ≤ i → i < 60 → 0 ≤ tJd a l 2 284 i ∧ tJd a l 2 284 i ≤ 80 := fun i u v => by
    rw [jd_l N]
    have k1 := gn i u v
    split
    · exact gn (i + 1) (by omega) (by omega)
    · split <;> omega
  have FO : ∀ p, 0 ≤ p → p < 4 → ∀ i, 6 * p ≤ i → i < 6 * p + tJd a l 2 301 p → (0 ≤ tJd a l 2 302 i ∧ tJd a l 2 302 i ≤ tJd a l 2 303 i ∧ tJd a l 2 303 i < a 1504 282 0 - 1) ∧ ¬ tJd a l 2 302 i = tJd a l 2 303 i := by
    intro p p0 p4 i u' v
    have Z : zF p (dF (tJw a l) p) (tJd a l) := zF_all ⟨p0, p4⟩ nT
    have t6 := (nT p p0 p4).2.2
    have ef : tJw a l 2 301 p = a 2 301 p := (TT_o (by unfold rgL rgS rgV rgF rgC; omega)).trans (tJ_o (by decide) (by decide))
    have a6 := (N p p0 p4).2.2
    rw [Z.1] at v
    rw [Z.2 302 i (by decide) (by decide) u' v, Z.2 303 i (by decide) (by decide) u' v]
    refine dFk_P (R := fun F T _ => 0 ≤ F ∧ F ≤ T ∧ T < a 1504 282 0 - 1) ⟨p0, p4⟩ (tJw a l 2 301 p).toNat (tJw a l) (by omega) (fun i v1 v2 => ?_) (fun i v1 v2 => by omega) i u' v
    rw [ef] at v2
    obtain ⟨-, -, k1, k2, -⟩ := jw_S (a := a) (l := l) (k := i) (by omega)
    obtain ⟨s1, s2, s3⟩ := (g.2 p p0 p4).1 i v1 v2
    rw [k1, k2]
    have c1 := jnL_c (l := l) (L := a 2 302 i)
    have c2 := jnL_c (l := l) (L := a 2 303 i)
    show 0 ≤ jnL l (a 2 302 i) ∧ jnL l (a 2 302 i) ≤ jnL l (a 2 303 i) ∧ jnL l (a 2 303 i) < a 1504 282 0 - 1
    omega
  refine ⟨⟨shModel_sx jd_sx g.1.1, by rw [jd_n N]; omega, LB, fun p u' v => ?_⟩, fun p u' v => ?_⟩
  · obtain ⟨⟨o1, o2, o3, o4, o5, o6, o7⟩, w1, w2⟩ := g.1.2.2.2 p u' v
    obtain ⟨⟨n1, n2⟩, ⟨n3, n4⟩, n5, n6⟩ := nY p u' v
    rw [jd_o N (r := 286) (by decide) (by decide), jd_o N (r := 287) (by decide) (by decide)]
    refine ⟨⟨n1, n2, n3, n4, n5, n6, fun k s t => ?_⟩, w1, w2⟩
    rw [jd_o N (r := 293) (by decide) (by decide)] at t
    obtain ⟨s2, s3, s4, s5, s6⟩ := (g.2 p u' v).2.1 k s t
    obtain ⟨⟨K1, K2, K3⟩, -⟩ := jd_S (l := l) N (k := k) (by omega)
    obtain ⟨b1, b2, b3⟩ := jn_pl N hl ⟨lX.1, lY.1⟩ ⟨s2, s3⟩ s6 rfl
    rw [K3]
    have L := LB _ b1.1 (by omega)
    exact ⟨by omega, Int.le_trans b3 L.2⟩
  · obtain ⟨f1, f2, f3, f4, f5, f6⟩ := g.2 p u' v
    obtain ⟨⟨C1, C2⟩, C3, C4⟩ := jd_C (l := l) N (p := p) ⟨u', v⟩
    rw [jd_o N (r := 293) (by decide) (by decide), jd_o N (r := 297) (by decide) (by decide), jd_o N (r := 288) (by decide) (by decide), C1, C2, C3, C4, jd_n N]
    have k6 := N p u' v
    refine ⟨fun k s1 t1 => ?_, fun k s1 t1 => ?_, fun k s1 t1 => ?_, ?_, ?_, f6⟩
    · obtain ⟨⟨s1', s2, s3⟩, s4⟩ := FO p u' v k s1 t1
      exact ⟨s1', by omega, s3⟩
    · obtain ⟨s2, s3, s4, s5, s6⟩ := f2 k s1 t1
      obtain ⟨⟨K1, K2, K3⟩, -⟩ := jd_S (l := l) N (k := k) (by omega)
      obtain ⟨b1, b2, b3⟩ := jn_pl N hl ⟨lX.1, lY.1⟩ ⟨s2, s3⟩ s6 rfl
      obtain ⟨d1, d2, d3⟩ := jn_pl N hl ⟨lX.1, lY.1⟩ ⟨s2, s3⟩ (show a 2 295 k ≤ a 2 284 (a 2 294 k) by omega) rfl
      rw [K1, K2, K3]
      have c1 := jnX_c (l := l) (n := a 2 284 l) (L := a 2 294 k) (X := a 2 295 k)
      have c2 := jnX_c (l := l) (n := a 2 284 l) (L := a 2 294 k) (X := a 2 296 k)
      exact ⟨b1.1, b1.2, by omega, by omega, b3⟩
    · obtain ⟨s2, s3, s4, s5⟩ := f3 k s1 t1
      obtain ⟨-, K1, K2⟩ := jd_S (l := l) N (k := k) (by omega)
      obtain ⟨b1, b2, b3⟩ := jn_pl N hl ⟨lX.1, lY.1⟩ ⟨s2, s3⟩ s5 rfl
      rw [K1, K2]
      exact ⟨b1.1, b1.2, by omega, b3⟩
    · obtain ⟨b1, b2, b3⟩ := jn_pl N hl ⟨lX.1, lY.1⟩ ⟨f4.1, f4.2.1⟩ f4.2.2.2 rfl
      exact ⟨b1.1, b1.2, by omega, b3⟩
    · obtain ⟨b1, b2, b3⟩ := jn_pl N hl ⟨lX.1, lY.1⟩ ⟨f5.1, f5.2.1⟩ f5.2.2.2 rfl
      exact ⟨b1.1, b1.2, by omega, b3⟩
theorem iH_jd (g : iG a) (i : iH a) (hl : 0 ≤ l ∧ l + 1 < a 1504 282 0) (h80 : a 2 284 l + a 2 284 (l + 1) ≤ 80) : iH (tJd a l) := by
  have N := iG_n6 g
  have gl := g.1.2.1
  have lX := g.1.2.2.1 l hl.1 (by omega)
  have lY := g.1.2.2.1 (l + 1) (by omega) (by omega)
  refine iH_x (fun r hr => funext (fun _ => jd_o N (by omega) (by omega))) (jd_o N (by decide) (by decide)) (fun m y v w z1 z2 => ?_) i
  rw [jd_n N] at w
  rw [jd_l N] at z2
  rw [jd_s N h80]
  have gm := g.1.2.2.1 m v (by omega)
  by_cases c : l + 1 ≤ m ∧ m < a 1504 282 0 - 1
  · rw [if_pos c] at z2
    have gm2 := g.1.2.2.1 (m + 1) (by omega) (by omega)
    rw [if_pos (by omega), show 80 * m + y + 80 = 80 * (m + 1) + y by omega]
    exact i.2.2.2.2.2.2 (m + 1) y (by omega) (by omega) z1 z2
  · rw [if_neg c] at z2
    rw [if_neg (by split at z2 <;> omega)]
    by_cases c2 : m = l
    · rw [if_pos c2] at z2
      rw [c2]
      by_cases c1 : a 2 284 l ≤ y
      · rw [if_pos (by omega), show 80 * l + y + 80 - a 2 284 l = 80 * (l + 1) + (y - a 2 284 l) by omega]
        exact i.2.2.2.2.2.2 (l + 1) (y - a 2 284 l) (by omega) hl.2 (by omega) (by omega)
      · rw [if_neg (by omega)]
        exact i.2.2.2.2.2.2 l y hl.1 (by omega) z1 (by omega)
    · rw [if_neg c2] at z2
      rw [if_neg (by omega)]
      exact i.2.2.2.2.2.2 m y v (by omega) z1 z2
theorem iV_jd (g : iG a) (V : iV n a) (hl : 0 ≤ l ∧ l + 1 < a 1504 282 0) : iV n (tJd a l) := by
  have N := iG_n6 g
  have gl := g.1.2.1
  have lX := g.1.2.2.1 l hl.1 (by omega)
  have lY := g.1.2.2.1 (l + 1) (by omega) (by omega)
  have nT : cn6 (tJw a l) := tJw_n6 N
  have st : ∀ {R : Int → Int → Prop} (k : Nat), (k : Int) ≤ 4 → (∀ i, 0 ≤ i → i < 24 → R (tJw a l 2 302 i) (tJw a l 2 303 i)) → ∀ i, 0 ≤ i → i < 24 → R (dFn k (tJw a l) 2 302 i) (dFn k (tJw a l) 2 303 i) := by
    intro R k
    induction k with
    | zero => intro _ hR; exact hR
    | succ k ih =>
      intro hk hR
      have n6 := dFn_n6 k (by omega) nT
      have n7 := (n6 k (by omega) (by omega)).2.2
      exact dFk_slot (by omega) _ _ (by omega) n7.2 (ih (by omega) hR)
  intro k u' v
  obtain ⟨v1, v2, v3, v4, v5, v6, v7⟩ := V k u' v
  have S := st (R := fun F T => (0 ≤ F ∧ F < a 1504 282 0 - 1) ∧ 0 ≤ T ∧ T < a 1504 282 0 - 1) 4 (by decide) (fun i w1 w2 => by
    obtain ⟨-, -, k1, k2, -⟩ := jw_S (a := a) (l := l) (k := i) ⟨w1, w2⟩
    obtain ⟨-, -, -, -, -, v6, v7⟩ := V i w1 w2
    rw [k1, k2]
    have c1 := jnL_c (l := l) (L := a 2 302 i)
    have c2 := jnL_c (l := l) (L := a 2 303 i)
    show (0 ≤ jnL l (a 2 302 i) ∧ jnL l (a 2 302 i) < a 1504 282 0 - 1) ∧ 0 ≤ jnL l (a 2 303 i) ∧ jnL l (a 2 303 i) < a 1504 282 0 - 1
    omega) k u' v
  obtain ⟨⟨K1, K2, K3⟩, K4, K5⟩ := jd_S (l := l) N (k := k) ⟨u', v⟩
  rw [K1, K2, K3, K4, K5, jd_n N]
  obtain ⟨b1, b2, b3⟩ := jn_pl N hl ⟨lX.1, lY.1⟩ v1 v2.2 rfl
  obtain ⟨d1, d2, d3⟩ := jn_pl N hl ⟨lX.1, lY.1⟩ v1 v3.2 rfl
  obtain ⟨e1, e2, e3⟩ := jn_pl N hl ⟨lX.1, lY.1⟩ v4 v5.2 rfl
  exact ⟨b1, ⟨by omega, b3⟩, ⟨by omega, d3⟩, e1, ⟨by omega, e3⟩, S.1, S.2⟩
theorem iM_jd (N : cn6 a) (w : iM a) (hl : 0 ≤ l ∧ l + 1 < a 1504 282 0) : iM (tJd a l) := fun i u' v => by
  rw [jd_n N] at v
  rw [jd_m N]
  split
  · exact w (i + 1) (by omega) (by omega)
  · split
    · split
      · exact Or.inr rfl
      · exact Or.inl rfl
    · exact w i u' (by omega)
theorem tJw_iC (w : iC a) : iC (tJw a l) := fun i u' v => by
  rw [(jw_S (a := a) (l := l) ⟨u', v⟩).2.2.2.2]
  exact w i u' v
theorem iC_jd (N : cn6 a) (w : iC a) : iC (tJd a l) := iC_dFn (tJw_n6 N) (tJw_iC w) 4 (by decide)
noncomputable def kJn (a : vH) (l : Int) : Int := if 0 ≤ l ∧ l + 1 < a 1504 282 0 then (if a 2 284 l + a 2 284 (l + 1) ≤ 80 then 0 else 2) else 1
theorem kJn_0 : kJn a l = 0 ↔ (0 ≤ l ∧ l + 1 < a 1504 282 0) ∧ a 2 284 l + a 2 284 (l + 1) ≤ 80 := by
  unfold kJn
  split
  · rename_i z1
    split
    · rename_i z2; exact ⟨fun _ => ⟨z1, z2⟩, fun _ => rfl⟩
    · rename_i z2; exact ⟨fun w => absurd w (by decide), fun w => absurd w.2 z2⟩
  · rename_i z1; exact ⟨fun w => absurd w (by decide), fun w => absurd w.1 z1⟩
noncomputable def tJn (a : vH) (l : Int) : vH := if kJn a l = 0 then tJd (th 0 a) l else th (kJn a l) a
theorem tJ_bd (bd : bdP a) : bdP (tJ a l) := by
  refine ⟨fun r i hr u v => ?_, fun r i hr u v => ?_⟩
  · rw [tJ_o (fun w => by unfold rgL rgS rgV rgF at hr; omega) (fun w => by unfold rgL rgS rgV rgF at hr; omega)]
    exact bd.1 r i hr u v
  · rw [tJ_o (fun w => by unfold rgC at hr; omega) (fun w => by unfold rgC at hr; omega)]
    exact bd.2 r i hr u v
theorem C_jnLoop (c : cW h a) (I : iD h) (g : iG a) (V : iV n a) (hn : 0 ≤ n ∧ n ≤ 9000) (hl : 0 ≤ l ∧ l + 1 < a 1504 282 0) (h80 : a 2 284 l + a 2 284 (l + 1) ≤ 80) {x3 : Int} : ∃ h2, vrun mX12_join 59 [(1, 3), (0, l), (0, a 2 284 l), (0, x3), (1, 126), (0, 4), (0, 0), (9, 0)] [] (lnJ h l (a 1504 282 0) (h 2 5 l) (h 2 5 (l + 1)) (a 2 284 l) (a 2 284 (l + 1))) = some (.inl (some (0, x3)), h2) ∧ cW h2 (tJd a l) ∧ eF h h2 ∧ ∀ p, 0 ≤ p → p < 4 → h2 714 (138 + 36 * p) 0 = 0 ∧ h2 715 (138 + 36 * p) 0 = -1 ∧ ∀ i, h2 2 (138 + 36 * p + 26) i = if l ≤ i ∧ i < 60 then -1 else h 2 (138 + 36 * p + 26) i := by
  have N := iG_n6 g
  have gl := g.1.2.1
  have lX := g.1.2.2.1 l hl.1 (by omega)
  have rX := c.2.1.2.2.1 l hl.1 (by omega)
  have rY := c.2.1.2.2.1 (l + 1) (by omega) (by omega)
  have nJ : cn6 (tJ a l) := tJ_n6 N
  have bd' : bdP (tJ a l) := tJ_bd (iV_bd g V hn)
  have F0 := lnJ_tF (h := h) (l := l) (c := a 1504 282 0) (X := h 2 5 l) (Y := h 2 5 (l + 1)) (n := a 2 284 l) (m := a 2 284 (l + 1)) rX.2 rY.2
  have W0 : cW (lnJ h l (a 1504 282 0) (h 2 5 l) (h 2 5 (l + 1)) (a 2 284 l) (a 2 284 (l + 1))) (tJ a l) := cW_tx F0 lnJ_sx tJ_eqTx c (cTx_J c.2.1 hl h80 (fun i u v => g.1.2.2.1 i u v))
  have loop : ∀ (k : Nat) (q : Int) (h1 a1 : vH) (v7 : vv), q + k = 4 → 0 ≤ q → rJo l (a 2 284 l) (tJ a l) q a1 → cW h1 a1 → iD h1 → eF h h1 → (∀ p, 0 ≤ p → p < q → h1 714 (138 + 36 * p) 0 = 0 ∧ h1 715 (138 + 36 * p) 0 = -1 ∧ ∀ i, h1 2 (138 + 36 * p + 26) i = if l ≤ i ∧ i < 60 then -1 else h 2 (138 + 36 * p + 26) i) → (∀ p, q ≤ p → p < 4 → ∀ i, h1 2 (138 + 36 * p + 26) i = h 2 (138 + 36 * p + 26) i) → ∃ h2, vrun mX12_join 59 [(1, 3), (0, l), (0, a 2 284 l), (0, x3), (1, 126), (0, 4), (0, q), v7] [] h1 = some (.inl (some (0, x3)), h2) ∧ cW h2 (tJd a l) ∧ eF h h2 ∧ ∀ p, 0 ≤ p → p < 4 → h2 714 (138 + 36 * p) 0 = 0 ∧ h2 715 (138 + 36 * p) 0 = -1 ∧ ∀ i, h2 2 (138 + 36 * p + 26) i = if l ≤ i ∧ i < 60 then -1 else h 2 (138 + 36 * p + 26) i := by
    intro k
    induction k with
    | zero =>
      intro q h1 a1 v7 hq h0 R W I1 E D _
      have eq : q = 4 := by omega
      subst eq
      exact ⟨h1, (rX12_join_59 (x5 := 4) (x6 := 4) (fun z => absurd (by decide) z) (fun z => absurd (by decide) z) (fun z => absurd (by decide) z) (fun z => absurd (by decide) z)).trans (if_pos (by decide)), cW_u (rJo_u nJ R) W, E, D⟩
    | succ k ih =>
      intro q h1 a1 v7 hq h0 R W I1 E D K
      have hq4 : 0 ≤ q ∧ q < 4 := ⟨h0, by omega⟩
      obtain ⟨d1, d2, d3⟩ := W.2.2.1 q hq4.1 hq4.2
      have s5 := W.1.2.2.2.2
      obtain ⟨s1, s2, s3⟩ := R.2.2 q (Int.le_refl _) hq4.2
      have n6x := rJo_n6 nJ ⟨h0, by omega⟩ R
      have bq : bdQ a1 q := by
        refine ⟨fun r i hr v w => ?_, fun r hr => ?_⟩
        · have e : a1 2 r i = tJ a l 2 r i := by
            unfold rgL at hr
            rcases hr with e | e | e
            · exact s2 r i (Or.inl e) v w
            · exact s2 r i (Or.inr e) v w
            · exact s1 r i (Or.inr ⟨by unfold rgF at e; omega, by unfold rgF at e; omega, v, w⟩)
          rw [e]
          exact bd'.1 r i hr (by omega) (by omega)
        · rw [s3 r hr]
          exact bd'.2 r q hr hq4.1 hq4.2
      have mo : ∀ i, 6 * q ≤ i → i < 6 * q + a1 2 301 q → a1 2 302 i ≤ a1 2 303 i := fun i v w => by
        have ec : a1 2 301 q = tJ a l 2 301 q := s1 _ _ (Or.inl ⟨rfl, rfl⟩)
        have ec2 : tJ a l 2 301 q = a 2 301 q := tJ_o (by decide) (by decide)
        have k6 := (N q hq4.1 hq4.2).2.2
        rw [s1 302 i (Or.inr ⟨by decide, by decide, v, by omega⟩), s1 303 i (Or.inr ⟨by decide, by decide, v, by omega⟩), tJ_o (r := 302) (by decide) (by decide), tJ_o (r := 303) (by decide) (by decide)]
        have := ((g.2 q hq4.1 hq4.2).1 i v (by omega)).2.1
        omega
      obtain ⟨h3, a1', a2, a3, a4, a5, a6, a7⟩ := C_panJoin (l := l) (n := a 2 284 l) W I1 n6x bq mo hq4 ⟨hl.1, by omega⟩ lX
      obtain ⟨h4, b1, b2, b3, b5⟩ := ih (q + 1) h3 _ (1, 138 + 36 * q) (by omega) (by omega) (rJo_s hq4 nJ n6x R) a4 a3 (eF_tr E (fgF_eF hq4 a2)) (fun p v w => by
        by_cases z : p = q
        · subst z
          refine ⟨a5, a6, fun i => ?_⟩
          rw [a7, K p (by omega) (by omega)]
        · obtain ⟨e1, e2, e3⟩ := D p v (by omega)
          refine ⟨(a2 _ _ _ (by omega)).trans e1, (a2 _ _ _ (by omega)).trans e2, fun i => ?_⟩
          rw [a2 2 _ _ (by omega), e3]) (fun p v w i => by
        rw [a2 2 _ _ (by omega)]
        exact K p (by omega) w i)
      refine ⟨h4, ?_, b2, b3, b5⟩
      refine (rX12_join_59 (fun _ => s5.1) (fun _ => h0) (fun _ => by have := s5.2.1; omega) (fun _ => by rw [d1]; exact d2.1)).trans ((if_neg (by omega)).trans ?_)
      rw [d1]
      exact (vret_n a1').trans ((rX12_join_80 (by omega) (by omega)).trans b1)
  refine loop 4 0 _ _ (9, 0) (by decide) (by decide) rJo_0 W0 ?_ (tF_eF F0) (fun p v w => by omega) (fun p v w i => F0 _ _ _ (by omega))
  exact iD_eF (tF_eF F0) I
theorem Cq_join (c : cAll h a) (g : iG a) (V : iV n a) (hn : 0 ≤ n ∧ n ≤ 9000) (I : iD h) : cOut h (tJn a l) (kJn a l) (a 2 284 l + a 2 284 (l + 1)) e2 (vcl mX12_join [(1, 3), (0, l)] h) := by
  unfold tJn
  have bad : ∀ {X : Option (vR × vH)} (k : Int), ¬ k = 0 → kJn a l = k → X = some (.inr (e2 k), vexc h) → cOut h (if kJn a l = 0 then tJd (th 0 a) l else th (kJn a l) a) (kJn a l) (a 2 284 l + a 2 284 (l + 1)) e2 X := fun k hk ek eX => by
    rw [ek, if_neg hk]
    exact cO_eq eX (cO_x (cAll_th c) cR_rf hk rfl)
  by_cases z : 0 ≤ l ∧ l < a 1504 282 0
  · obtain ⟨d1, d2, d3⟩ := C_lineOf c z
    have gl := g.1.2.1
    have lX := g.1.2.2.1 l z.1 (by omega)
    have e1 := (rX12_join_0 (x1 := l) c.1).trans ((vret_v d1).trans (rX12_join_5 d2 (by omega) (by omega) c.1))
    rw [show h 601 (h 2 5 l) 0 = a 2 284 l from d3] at e1
    by_cases y : 0 ≤ l + 1 ∧ l + 1 < a 1504 282 0
    · obtain ⟨f1, f2, f3⟩ := C_lineOf c y
      have lY := g.1.2.2.1 (l + 1) y.1 (by omega)
      have f3' : h 601 (h 2 5 (l + 1)) 0 = a 2 284 (l + 1) := f3
      have e2' := e1.trans ((vret_v f1).trans (rX12_join_17 f2 (by omega) (by omega) c.1))
      rw [f3'] at e2'
      by_cases w : a 2 284 l + a 2 284 (l + 1) ≤ 80
      · rw [if_pos (by omega)] at e2'
        have k0 : kJn a l = 0 := kJn_0.mpr ⟨⟨z.1, y.2⟩, w⟩
        rw [k0, if_pos rfl]
        have c0 : cAll h (th 0 a) := cAll_th c
        have g0 : iG (th 0 a) := iG_tk g
        have V0 : iV n (th 0 a) := V
        have N0 := iG_n6 g0
        have z0 : 0 ≤ l ∧ l + 1 < th 0 a 1504 282 0 := ⟨z.1, y.2⟩
        have w0 : th 0 a 2 284 l + th 0 a 2 284 (l + 1) ≤ 80 := w
        obtain ⟨h2, a1, a2, a3, a4⟩ := C_jnLoop (x3 := a 2 284 l + a 2 284 (l + 1)) (cW_of c0) I g0 V0 hn z0 w0
        have A := cAll_from a2 c0 (by rw [jd_n N0]; omega) a4 (fun p i v w s1 t1 n1 => lnE_jd g0 ⟨v, w⟩ z0 w0 s1 n1)
        have B := C_joinBehind c0.2.1 z0 ⟨lX.1, lY.1⟩ w0
        have SB := shPL_sx (lnJ_sx (h := h) (l := l) (c := th 0 a 1504 282 0) (X := h 2 5 l) (Y := h 2 5 (l + 1)) (n := th 0 a 2 284 l) (m := th 0 a 2 284 (l + 1))) c.1
        refine cO_eq (e2'.trans ((vret_n (C_chkState.1 (by decide))).trans ((rX12_join_37 c.1 c.2.1.1).trans ((vret_n B).trans ((rX12_join_45 SB).trans a1))))) ?_
        exact cO_v A (eF_kR a3)
      · rw [if_neg (by omega)] at e2'
        exact bad 2 (by decide) (by unfold kJn; rw [if_pos ⟨z.1, y.2⟩, if_neg w]) (e2'.trans (vret_x (C_chkState.2 rfl) rfl))
    · exact bad 1 (by decide) (if_neg (fun w => y ⟨by omega, w.2⟩)) (e1.trans (vret_x (C_lineOfX c y) rfl))
  · exact bad 1 (by decide) (if_neg (fun w => z ⟨w.1, by omega⟩)) ((rX12_join_0 c.1).trans (vret_x (C_lineOfX c z) rfl))
theorem iX_join (x0 : iA a) : iA (tJn a l) := by
  unfold tJn
  by_cases k : kJn a l = 0
  · obtain ⟨z1, z2⟩ := kJn_0.mp k
    rw [if_pos k]
    have g0 : iG (th 0 a) := iG_tk x0.1
    have N0 := iG_n6 g0
    exact ⟨iG_jd g0 z1 z2, iH_jd g0 (iH_th x0.2.1) z1 z2, iM_jd N0 (iM_th x0.2.2.1) z1, iC_jd (a := th 0 a) N0 x0.2.2.2⟩
  · rw [if_neg k]; exact iA_tk x0
theorem iV_join (x0 : iA a) (V : iV n a) : iV n (tJn a l) := by
  unfold tJn
  by_cases k : kJn a l = 0
  · obtain ⟨z1, z2⟩ := kJn_0.mp k
    rw [if_pos k]
    exact iV_jd (a := th 0 a) (iG_tk x0.1) V z1
  · rw [if_neg k]; exact V
end JN6

