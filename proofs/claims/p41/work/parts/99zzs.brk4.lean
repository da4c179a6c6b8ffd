/-! breakLine -/
section BK4
variable {h h2 a b : vH} {p q P Q X l x s f u t j st r l0 x0 n m L F T : Int}
theorem iG_bk (g : iG a) (hl : 0 ≤ l ∧ l < a 1504 282 0) (hc : a 1504 282 0 < 60) (hx : 0 ≤ x ∧ x ≤ a 2 284 l) : iG (tBk a l x) := by
  have gl := g.1.2.1
  have gn := g.1.2.2.1
  have ll := gn l hl.1 (by omega)
  refine ⟨⟨shModel_sx bk_sx g.1.1, by rw [bk_n]; omega, fun i u v => ?_, fun p u v => ?_⟩, fun p u v => ?_⟩
  · rw [bk_l]
    have k1 := gn i u v
    split
    · omega
    · split
      · omega
      · split
        · exact gn (i - 1) (by omega) (by omega)
        · exact k1
  · obtain ⟨⟨o1, o2, o3, o4, o5, o6, o7⟩, w1, w2⟩ := g.1.2.2.2 p u v
    have S := (g.2 p u v).2.1
    unfold mOKp
    rw [bk_o (r := 293) (by decide) (by decide), bk_o (r := 297) (by decide) (by decide), bk_o (r := 301) (by decide) (by decide), bk_o (r := 286) (by decide) (by decide), bk_o (r := 287) (by decide) (by decide)]
    refine ⟨⟨o1, o2, o3, o4, o5, o6, fun k s1 t1 => ?_⟩, w1, w2⟩
    obtain ⟨s2, s3, s4, s5, s6⟩ := S k s1 t1
    obtain ⟨K1, K2, K3⟩ := bk_S (a := a) (l := l) (x := x) (k := k) (by omega)
    obtain ⟨b1, b2, b3, b4⟩ := bk_spn (a := a) (l := l) (x := x) (L := a 2 294 k) (F := a 2 295 k) (T := a 2 296 k) hl hx ll.2 ⟨s2, s3⟩ ⟨s4, by omega⟩ s6 rfl
    have b5 := b4 s5
    rw [K3]
    refine ⟨by omega, Int.le_trans b3.1 ?_⟩
    rw [bk_l]
    have G := gn (bkL l x (a 2 294 k) (a 2 295 k)) b1.1 (by omega)
    split
    · omega
    · split
      · omega
      · split
        · exact (gn _ (by omega) (by omega)).2
        · exact G.2
  · obtain ⟨f1, f2, f3, f4, f5, f6⟩ := g.2 p u v
    obtain ⟨⟨o1, o2, o3, o4, o5, o6, o7⟩, w1, w2⟩ := g.1.2.2.2 p u v
    obtain ⟨⟨C1, C2⟩, C3, C4⟩ := bk_C (a := a) (l := l) (x := x) (p := p) ⟨u, v⟩
    rw [bk_o (r := 293) (by decide) (by decide), bk_o (r := 297) (by decide) (by decide), bk_o (r := 301) (by decide) (by decide), bk_o (r := 288) (by decide) (by decide), C1, C2, C3, C4, bk_n]
    refine ⟨fun k s1 t1 => ?_, fun k s1 t1 => ?_, fun k s1 t1 => ?_, ?_, ?_, f6⟩
    · obtain ⟨K1, K2⟩ := bk_F (a := a) (l := l) (x := x) (k := k) (by omega)
      have F := f1 k s1 t1
      rw [K1, K2]
      split <;> split <;> omega
    · obtain ⟨s2, s3, s4, s5, s6⟩ := f2 k s1 t1
      obtain ⟨K1, K2, K3⟩ := bk_S (a := a) (l := l) (x := x) (k := k) (by omega)
      obtain ⟨b1, b2, b3, b4⟩ := bk_spn (a := a) (l := l) (x := x) (L := a 2 294 k) (F := a 2 295 k) (T := a 2 296 k) hl hx ll.2 ⟨s2, s3⟩ ⟨s4, by omega⟩ s6 rfl
      rw [K1, K2, K3]
      exact ⟨b1.1, b1.2, b2.1, b4 s5, b3.1⟩
    · obtain ⟨s2, s3, s4, s5⟩ := f3 k s1 t1
      obtain ⟨K1, K2⟩ := bk_V (a := a) (l := l) (x := x) (k := k) (by omega)
      obtain ⟨b1, b2, b3⟩ := bk_pl (a := a) (l := l) (x := x) (L := a 2 298 k) (X := a 2 299 k) hl hx.1 ⟨s2, s3⟩ ⟨s4, s5⟩ rfl
      rw [K1, K2]
      exact ⟨b1.1, b1.2, b2, b3⟩
    · obtain ⟨b1, b2, b3⟩ := bk_pl (a := a) (l := l) (x := x) (L := a 2 305 p) (X := a 2 306 p) hl hx.1 ⟨f4.1, f4.2.1⟩ f4.2.2 rfl
      exact ⟨b1.1, b1.2, b2, b3⟩
    · obtain ⟨b1, b2, b3⟩ := bk_pl (a := a) (l := l) (x := x) (L := a 2 308 p) (X := a 2 309 p) hl hx.1 ⟨f5.1, f5.2.1⟩ f5.2.2 rfl
      exact ⟨b1.1, b1.2, b2, b3⟩
theorem iH_bk (g : iG a) (i : iH a) (hl : 0 ≤ l ∧ l < a 1504 282 0) (hc : a 1504 282 0 < 60) (hx : 0 ≤ x ∧ x ≤ a 2 284 l) : iH (tBk a l x) := by
  have R : ∀ r : Int, ¬ ((283 ≤ r ∧ r ≤ 285) ∨ r = 294 ∨ r = 295 ∨ r = 296 ∨ r = 298 ∨ r = 299 ∨ r = 302 ∨ r = 303 ∨ r = 305 ∨ r = 306 ∨ r = 308 ∨ r = 309) → tBk a l x 2 r = a 2 r := fun r hr => funext (fun _ => bk_o (fun z => hr z.2) (fun z => absurd z.1 (by decide)))
  obtain ⟨i1, i2, i3, i4, i5, i6, i7⟩ := i
  have gl := g.1.2.1
  have gn := g.1.2.2.1
  have ll := gn l hl.1 (by omega)
  unfold iH
  rw [R 289 (by decide), R 290 (by decide), R 291 (by decide), R 292 (by decide), R 310 (by decide), R 334 (by decide), R 335 (by decide), R 329 (by decide), R 327 (by decide), bk_o (k := 1559) (by decide) (by decide), bk_n]
  refine ⟨i1, i2, i3, i4, i5, i6, fun m y u v w z => ?_⟩
  rw [bk_l] at z
  rw [bk_s]
  by_cases c1 : m = l
  · rw [if_pos c1] at z
    rw [if_neg (by omega), if_neg (by omega)]
    exact i7 m y u (by omega) w (by rw [c1]; omega)
  · rw [if_neg c1] at z
    by_cases c2 : m = l + 1
    · rw [if_pos c2] at z
      rw [if_pos (by omega), show 80 * m + y - 80 + x = 80 * l + (x + y) by omega]
      exact i7 l (x + y) hl.1 hl.2 (by omega) (by omega)
    · rw [if_neg c2] at z
      by_cases c3 : l + 1 < m ∧ m ≤ a 1504 282 0
      · rw [if_pos c3] at z
        have gm := gn (m - 1) (by omega) (by omega)
        rw [if_neg (by omega), if_pos (by omega), show 80 * m + y - 80 = 80 * (m - 1) + y by omega]
        exact i7 (m - 1) y (by omega) (by omega) w z
      · rw [if_neg c3] at z
        have gm := gn m u (by omega)
        rw [if_neg (by omega), if_neg (by omega)]
        exact i7 m y u (by omega) w z
theorem iV_bk (g : iG a) (V : iV n a) (hl : 0 ≤ l ∧ l < a 1504 282 0) (hc : a 1504 282 0 < 60) (hx : 0 ≤ x ∧ x ≤ a 2 284 l) : iV (n + 1) (tBk a l x) := by
  intro k u v
  have gl := g.1.2.1
  have ll := g.1.2.2.1 l hl.1 (by omega)
  obtain ⟨v1, v2, v3, v4, v5, v6, v7⟩ := V k u v
  obtain ⟨K1, K2, K3⟩ := bk_S (a := a) (l := l) (x := x) (k := k) ⟨u, v⟩
  obtain ⟨K4, K5⟩ := bk_V (a := a) (l := l) (x := x) (k := k) ⟨u, v⟩
  obtain ⟨K6, K7⟩ := bk_F (a := a) (l := l) (x := x) (k := k) ⟨u, v⟩
  rw [K1, K2, K3, K4, K5, K6, K7, bk_n]
  obtain ⟨b1, b2, b3, b4⟩ := bk_spn (a := a) (l := l) (x := x) (L := a 2 294 k) (F := a 2 295 k) (T := a 2 296 k) hl hx ll.2 v1 v2 v3.2 rfl
  obtain ⟨d1, d2, d3⟩ := bk_pl (a := a) (l := l) (x := x) (L := a 2 298 k) (X := a 2 299 k) hl hx.1 v4 v5 rfl
  refine ⟨b1, b2, ⟨by omega, b3.1⟩, d1, ⟨d2, d3⟩, ?_, ?_⟩
  · split <;> omega
  · split <;> omega
theorem iM_bk (m : iM a) (hl : 0 ≤ l ∧ l < a 1504 282 0) : iM (tBk a l x) := fun i u v => by
  rw [bk_n] at v
  rw [bk_m]
  split
  · exact Or.inl rfl
  · split
    · exact m (i - 1) (by omega) (by omega)
    · exact m i u (by omega)
theorem iC_bk (m : iC a) : iC (tBk a l x) := fun i u v => by
  rw [bk_o (r := 304) (by decide) (by decide)]
  exact m i u v
noncomputable def kBl (a : vH) (l x : Int) : Int := if 0 ≤ l ∧ l < a 1504 282 0 then (if 0 ≤ x ∧ x ≤ a 2 284 l then (if a 1504 282 0 = 60 then 3 else 0) else 2) else 1
theorem kBl_0 : kBl a l x = 0 ↔ (0 ≤ l ∧ l < a 1504 282 0) ∧ (0 ≤ x ∧ x ≤ a 2 284 l) ∧ ¬ a 1504 282 0 = 60 := by
  unfold kBl
  split
  · rename_i z1
    split
    · rename_i z2
      split
      · rename_i z3; exact ⟨fun w => absurd w (by decide), fun w => absurd z3 w.2.2⟩
      · rename_i z3; exact ⟨fun _ => ⟨z1, z2, z3⟩, fun _ => rfl⟩
    · rename_i z2; exact ⟨fun w => absurd w (by decide), fun w => absurd w.2.1 z2⟩
  · rename_i z1; exact ⟨fun w => absurd w (by decide), fun w => absurd w.1 z1⟩
noncomputable def tBl (a : vH) (l x : Int) : vH := if kBl a l x = 0 then tBk (th 0 a) l x else th (kBl a l x) a
theorem tB_bd (bd : bdP a) : bdP (tB a l x) := by
  refine ⟨fun r i hr u v => ?_, fun r i hr u v => ?_⟩
  · rw [tB_o (fun w => by unfold rgL rgS rgV rgF at hr; omega) (fun w => by unfold rgL rgS rgV rgF at hr; omega)]
    exact bd.1 r i hr u v
  · rw [tB_o (fun w => by unfold rgC at hr; omega) (fun w => by unfold rgC at hr; omega)]
    exact bd.2 r i hr u v
theorem C_brkLoop (c : cW h a) (g : iG a) (V : iV n a) (hn : 0 ≤ n ∧ n ≤ 9000) (hl : 0 ≤ l ∧ l < a 1504 282 0) (hc : a 1504 282 0 < 60) (hx : 0 ≤ x ∧ x ≤ a 2 284 l) : ∃ h2, vrun mX12_breakLine 56 [(1, 3), (0, l), (0, x), (1, 126), (0, 4), (0, 0), (9, 0)] [] (lnB h l x (a 1504 282 0) (a 2 284 l)) = some (.inl (some (0, a 1504 282 0 + 1)), h2) ∧ cW h2 (tBk a l x) ∧ eF h h2 ∧ ∀ p, 0 ≤ p → p < 4 → h2 714 (138 + 36 * p) 0 = 0 ∧ h2 715 (138 + 36 * p) 0 = -1 ∧ ∀ i, h2 2 (138 + 36 * p + 26) i = if l ≤ i ∧ i < 60 then -1 else h 2 (138 + 36 * p + 26) i := by
  have n6 := iG_n6 g
  have l60 : l < 60 := by omega
  have ll := g.1.2.2.1 l hl.1 l60
  have rl := c.2.1.2.2.1 l hl.1 l60
  have rc := c.2.1.2.2.1 (a 1504 282 0) (by omega) hc
  have n6' : cn6 (tB a l x) := cn6_of (fun q _ _ => ⟨tB_o (by decide) (by decide), tB_o (by decide) (by decide), tB_o (by decide) (by decide)⟩) n6
  have bd' : bdP (tB a l x) := tB_bd (iV_bd g V hn)
  have F0 := lnB_tF (h := h) (l := l) (x := x) (c := a 1504 282 0) (n := a 2 284 l) rl.2 rc.2
  have W0 : cW (lnB h l x (a 1504 282 0) (a 2 284 l)) (tB a l x) := cW_tx F0 lnB_sx tB_eqTx c (cTx_B c.2.1 hl hc hx (fun i u v => (g.1.2.2.1 i u v).2))
  have loop : ∀ (f : Nat) (q : Int) (h1 : vH) (v6 : vv), q + f = 4 → 0 ≤ q → cW h1 (TT (gBk l x) (tB a l x) q) → eF h h1 → (∀ p, 0 ≤ p → p < q → h1 714 (138 + 36 * p) 0 = 0 ∧ h1 715 (138 + 36 * p) 0 = -1 ∧ ∀ i, h1 2 (138 + 36 * p + 26) i = if l ≤ i ∧ i < 60 then -1 else h 2 (138 + 36 * p + 26) i) → (∀ p, q ≤ p → p < 4 → ∀ i, h1 2 (138 + 36 * p + 26) i = h 2 (138 + 36 * p + 26) i) → ∃ h2, vrun mX12_breakLine 56 [(1, 3), (0, l), (0, x), (1, 126), (0, 4), (0, q), v6] [] h1 = some (.inl (some (0, a 1504 282 0 + 1)), h2) ∧ cW h2 (tBk a l x) ∧ eF h h2 ∧ ∀ p, 0 ≤ p → p < 4 → h2 714 (138 + 36 * p) 0 = 0 ∧ h2 715 (138 + 36 * p) 0 = -1 ∧ ∀ i, h2 2 (138 + 36 * p + 26) i = if l ≤ i ∧ i < 60 then -1 else h 2 (138 + 36 * p + 26) i := by
    intro f
    induction f with
    | zero =>
      intro q h1 v6 hq h0 W E D _
      have eq : q = 4 := by omega
      subst eq
      have ec : h1 1201 4 0 = a 1504 282 0 + 1 := W.2.1.2.1.1.trans bk_n
      have r0 := (rX12_breakLine_56 (x1 := l) (x2 := x) (x3 := 126) (x4 := 4) (x5 := 4) (v6 := v6) W.1 W.2.1.1 (fun z => absurd (by decide) z) (fun z => absurd (by decide) z) (fun z => absurd (by decide) z) (fun z => absurd (by decide) z)).trans (if_pos (by decide))
      rw [ec] at r0
      exact ⟨h1, r0, W, E, D⟩
    | succ f ih =>
      intro q h1 v6 hq h0 W E D K
      have hq4 : 0 ≤ q ∧ q < 4 := ⟨h0, by omega⟩
      obtain ⟨d1, d2, d3⟩ := W.2.2.1 q hq4.1 hq4.2
      have s5 := W.1.2.2.2.2
      have mo : ∀ i, 6 * q ≤ i → i < 6 * q + TT (gBk l x) (tB a l x) q 2 293 q → TT (gBk l x) (tB a l x) q 2 295 i < TT (gBk l x) (tB a l x) q 2 296 i := fun i v w => by
        have es : TT (gBk l x) (tB a l x) q 2 293 q = a 2 293 q := (TT_o (by unfold rgL rgS rgV rgF rgC; decide)).trans (tB_o (by decide) (by decide))
        rw [es] at w
        have k6 := (n6 q hq4.1 hq4.2).1
        rw [TT_L (r := 295) (Or.inl (by unfold rgS; decide)), if_neg (by omega), TT_L (r := 296) (Or.inl (by unfold rgS; decide)), if_neg (by omega), tB_o (r := 295) (by decide) (by decide), tB_o (r := 296) (by decide) (by decide)]
        exact ((g.2 q hq4.1 hq4.2).2.1 i v w).2.2.2.1
      obtain ⟨h3, a1, a2, a3, a4, a5, a6⟩ := C_panBroke (l := l) (x := x) W (TT_n6 n6') (TT_bQ bd' hq4) mo hq4 ⟨hl.1, l60⟩ (by omega)
      have W3 := cW_u (oP_TT gBk_loc n6' hq4) a3
      obtain ⟨h4, b1, b2, b3, b4⟩ := ih (q + 1) h3 (1, 138 + 36 * q) (by omega) (by omega) W3 (eF_tr E (fgF_eF hq4 a2)) (fun p u v => by
        by_cases z : p = q
        · subst z
          refine ⟨a4, a5, fun i => ?_⟩
          rw [a6, K p (by omega) (by omega)]
        · obtain ⟨e1, e2, e3⟩ := D p u (by omega)
          refine ⟨(a2 _ _ _ (by omega)).trans e1, (a2 _ _ _ (by omega)).trans e2, fun i => ?_⟩
          rw [a2 2 _ _ (by omega), e3]) (fun p u v i => by
        rw [a2 2 _ _ (by omega)]
        exact K p (by omega) v i)
      refine ⟨h4, ?_, b2, b3, b4⟩
      refine (rX12_breakLine_56 W.1 W.2.1.1 (fun _ => s5.1) (fun _ => h0) (fun _ => by have := s5.2.1; omega) (fun _ => by rw [d1]; exact d2.1)).trans ((if_neg (by omega)).trans ?_)
      rw [d1]
      exact (vret_n a1).trans ((rX12_breakLine_76 (by omega) (by omega)).trans b1)
  refine loop 4 0 _ (9, 0) (by decide) (by decide) ?_ (tF_eF F0) (fun p u v => by omega) (fun p u v i => F0 _ _ _ (by omega))
  rw [TT_0]
  exact W0
theorem Cq_breakLine (c : cAll h a) (g : iG a) (V : iV n a) (hn : 0 ≤ n ∧ n ≤ 9000) : cOut h (tBl a l x) (kBl a l x) (a 1504 282 0 + 1) e3 (vcl mX12_breakLine [(1, 3), (0, l), (0, x)] h) := by
  unfold tBl
  have bad : ∀ {X : Option (vR × vH)} (k : Int), ¬ k = 0 → kBl a l x = k → X = some (.inr (e3 k), vexc h) → cOut h (if kBl a l x = 0 then tBk (th 0 a) l x else th (kBl a l x) a) (kBl a l x) (a 1504 282 0 + 1) e3 X := fun k hk ek eX => by
    rw [ek, if_neg hk]
    exact cO_eq eX (cO_x (cAll_th c) cR_rf hk rfl)
  by_cases z : 0 ≤ l ∧ l < a 1504 282 0
  · obtain ⟨d1, d2, d3⟩ := C_lineOf c z
    have gl := g.1.2.1
    have l80 := g.1.2.2.1 l z.1 (by omega)
    have e1 := (rX12_breakLine_0 (x1 := l) (x2 := x) c.1).trans ((vret_v d1).trans (rX12_breakLine_8 d2 c.1))
    rw [show h 601 (h 2 5 l) 0 = a 2 284 l from d3] at e1
    by_cases y : 0 ≤ x ∧ x ≤ a 2 284 l
    · have e2 := e1.trans ((vret_n (C_chkRange.1 y)).trans (rX12_breakLine_14 c.1 c.2.1.1))
      rw [show h 1201 4 0 = a 1504 282 0 from c.2.1.2.1.1] at e2
      by_cases w : a 1504 282 0 = 60
      · rw [if_neg (by omega)] at e2
        exact bad 3 (by decide) (by unfold kBl; rw [if_pos z, if_pos y, if_pos w]) (e2.trans (vret_x (C_chkState.2 rfl) rfl))
      · rw [if_pos (by omega)] at e2
        have k0 : kBl a l x = 0 := kBl_0.mpr ⟨z, y, w⟩
        rw [k0, if_pos rfl]
        have c0 : cAll h (th 0 a) := cAll_th c
        have g0 : iG (th 0 a) := iG_tk g
        have V0 : iV n (th 0 a) := V
        have z0 : 0 ≤ l ∧ l < th 0 a 1504 282 0 := z
        have y0 : 0 ≤ x ∧ x ≤ th 0 a 2 284 l := y
        have w0 : th 0 a 1504 282 0 < 60 := by show a 1504 282 0 < 60; have : ¬ a 1504 282 0 = 60 := w; omega
        obtain ⟨h2, a1, a2, a3, a4⟩ := C_brkLoop (cW_of c0) g0 V0 hn z0 w0 y0
        have A := cAll_from a2 c0 (by rw [bk_n]; omega) a4 (fun p i v w s1 t1 n1 => lnE_bk g0 ⟨v, w⟩ z0 y0 s1 n1)
        have B := C_breakAt c0.2.1 z0 w0 y0 l80.2
        have SB := shPL_sx (lnB_sx (h := h) (l := l) (x := x) (c := th 0 a 1504 282 0) (n := th 0 a 2 284 l)) c.1
        refine cO_eq (e2.trans ((vret_n (C_chkState.1 (by decide))).trans ((rX12_breakLine_35 c.1 c.2.1.1).trans ((vret_n B).trans ((rX12_breakLine_44 SB).trans a1))))) ?_
        exact cO_v A (eF_kR a3)
    · exact bad 2 (by decide) (by unfold kBl; rw [if_pos z, if_neg y]) (e1.trans (vret_x (C_chkRange.2 y) rfl))
  · exact bad 1 (by decide) (if_neg z) ((rX12_breakLine_0 c.1).trans (vret_x (C_lineOfX c z) rfl))
theorem iX_breakLine (x0 : iA a) : iA (tBl a l x) := by
  unfold tBl
  by_cases k : kBl a l x = 0
  · obtain ⟨z1, z2, z3⟩ := kBl_0.mp k
    have gl := x0.1.1.2.1
    rw [if_pos k]
    have g0 : iG (th 0 a) := iG_tk x0.1
    have y3 : th 0 a 1504 282 0 < 60 := by show a 1504 282 0 < 60; have : ¬ a 1504 282 0 = 60 := z3; omega
    exact ⟨iG_bk g0 z1 y3 z2, iH_bk g0 (iH_th x0.2.1) z1 y3 z2, iM_bk (iM_th x0.2.2.1) z1, iC_bk (a := th 0 a) x0.2.2.2⟩
  · rw [if_neg k]; exact iA_tk x0
theorem iV_up (V : iV n a) (hn : n ≤ m) : iV m a := fun k u v => by
  obtain ⟨v1, v2, v3, v4, v5, v6, v7⟩ := V k u v
  exact ⟨v1, v2, ⟨by omega, v3.2⟩, v4, v5, v6, v7⟩
theorem iV_breakLine (x0 : iA a) (V : iV n a) : iV (n + 1) (tBl a l x) := by
  unfold tBl
  by_cases k : kBl a l x = 0
  · obtain ⟨z1, z2, z3⟩ := kBl_0.mp k
    have gl := x0.1.1.2.1
    rw [if_pos k]
    have g0 : iG (th 0 a) := iG_tk x0.1
    have y3 : th 0 a 1504 282 0 < 60 := by show a 1504 282 0 < 60; have : ¬ a 1504 282 0 = 60 := z3; omega
    exact iV_bk (a := th 0 a) g0 V z1 y3 z2
  · rw [if_neg k]
    exact iV_up (a := a) V (by omega)
end BK4

