/-! a line is broken: panes of the class -/
def bkM (st l x L X : Int) : Int := if l < L then L + 1 else if L = l ∧ (x < X ∨ ¬ st = 0 ∧ X = x) then L + 1 else L
def bkY (st l x L X : Int) : Int := if L = l ∧ (x < X ∨ ¬ st = 0 ∧ X = x) then X - x else X
section CBK
variable {h h2 a b : vH} {p q P Q X l x s f u t j st r l0 x0 n m E L F T : Int}
theorem C_plBroke (s : shPlace h r) (c : cPl h r st l0 x0) (b0 : -1000000 ≤ l0 ∧ l0 ≤ 1000000) (b : -1000000 ≤ x0 ∧ x0 ≤ 1000000) (hx : 0 ≤ x ∧ x ≤ 80) : vcl mX7_lineBroke [(1, r), (0, l), (0, x)] h = some (.inl none, pS h r (bkM st l x l0 x0) (bkY st l x l0 x0)) := by
  obtain ⟨c1, c2, c3⟩ := c
  have b1 : -1000000 ≤ h 902 r 0 ∧ h 902 r 0 ≤ 1000000 := by rw [c3]; exact b
  have b2 : -1000000 ≤ h 901 r 0 ∧ h 901 r 0 ≤ 1000000 := by rw [c2]; exact b0
  have same : pS h r l0 x0 = h := by
    unfold pS
    rw [vup_same c2, vup_same c3]
  have same2 : ∀ v, pS h r v x0 = vup h 901 r 0 v := fun v => by
    unfold pS
    refine vup_same ?_
    exact (vup_k (by decide)).trans c3
  refine (show _ = _ from rX7_lineBroke_0 s (fun _ _ _ => by omega) (fun _ _ _ => by omega) (fun _ _ _ => by omega) (fun _ _ _ => by omega) (fun _ => by omega) (fun _ => by omega)).trans ?_
  have kb : fX7_isBehind h r x = if x < x0 ∨ ¬ st = 0 ∧ x0 = x then 1 else 0 := by
    unfold fX7_isBehind
    rw [show h 900 r 0 = st from c1, show h 902 r 0 = x0 from c3]
  rw [kb, show h 901 r 0 = l0 from c2, show h 902 r 0 = x0 from c3]
  unfold bkM bkY
  by_cases z1 : l < l0
  · rw [if_neg (by omega), if_pos z1, if_neg (by omega), same2]
  · rw [if_pos (by omega), if_neg z1]
    by_cases z2 : l0 = l
    · rw [if_pos z2]
      by_cases z3 : x < x0 ∨ ¬ st = 0 ∧ x0 = x
      · rw [if_pos z3, if_neg (by decide), if_pos ⟨z2, z3⟩, if_pos ⟨z2, z3⟩]
        rfl
      · rw [if_neg z3, if_pos rfl, if_neg (fun w => z3 w.2), if_neg (fun w => z3 w.2), same]
    · rw [if_neg z2, if_neg (fun w => z2 w.1), if_neg (fun w => z2 w.1), same]
theorem bk_0 : bkM 0 l x l0 x0 = l0 + bkB l x l0 x0 ∧ bkY 0 l x l0 x0 = bkX l x l0 x0 := by
  unfold bkM bkY bkX bkB
  by_cases z1 : l < l0
  · rw [if_pos z1, if_pos (Or.inl z1), if_neg (by omega), if_neg (show ¬ l0 = l by omega)]
    omega
  · by_cases z2 : l0 = l ∧ x < x0
    · rw [if_neg z1, if_pos ⟨z2.1, Or.inl z2.2⟩, if_pos (Or.inr ⟨z2.1, by omega⟩), if_pos ⟨z2.1, Or.inl z2.2⟩, if_pos z2.1, if_neg (by decide)]
      omega
    · rw [if_neg z1, if_neg (by omega), if_neg (by omega), if_neg (by omega)]
      by_cases z3 : l0 = l
      · rw [if_pos z3, if_pos (by decide)]
        omega
      · rw [if_neg z3]
        omega
theorem bk_1 : bkM 1 l x l0 x0 = bkL l x l0 x0 ∧ bkY 1 l x l0 x0 = bkF l x l0 x0 := by
  unfold bkM bkY bkL bkF
  by_cases z1 : l < l0
  · rw [if_pos z1, if_pos (Or.inr (by omega)), if_neg (by omega), if_neg (by omega)]
    omega
  · by_cases z2 : l0 = l ∧ ¬ x0 < x
    · rw [if_neg z1, if_pos (by omega), if_pos (Or.inl z2), if_pos (by omega), if_pos z2]
      omega
    · rw [if_neg z1, if_neg (by omega), if_neg (by omega), if_neg (by omega), if_neg z2]
      omega
theorem pS_pS {v w y z : Int} : pS (pS h X v w) X y z = pS h X y z := by
  funext k r i
  unfold pS vup
  by_cases a1 : k = 902 ∧ r = X ∧ i = 0
  · rw [if_pos a1, if_pos a1]
  · rw [if_neg a1, if_neg a1]
    by_cases a2 : k = 901 ∧ r = X ∧ i = 0
    · rw [if_pos a2, if_pos a2, if_neg a1]
    · rw [if_neg a2, if_neg a2, if_neg a1, if_neg a2]
theorem C_spBroke (s : shSpan h E) (c1 : cPl h (E + 1) 1 L F) (c2 : cPl h (E + 2) 0 L T) (hFT : F < T) (bl : -1000000 ≤ L ∧ L ≤ 1000000) (bF : -1000000 ≤ F ∧ F ≤ 1000000) (bT : -1000000 ≤ T ∧ T ≤ 1000000) (hx : 0 ≤ x ∧ x ≤ 80) : vcl mX8_lineBroke [(1, E), (0, l), (0, x)] h = some (.inl none, pS (pS h (E + 1) (bkL l x L F) (bkF l x L F)) (E + 2) (bkL l x L F) (bkT l x L F T)) := by
  have r1 := C_plBroke (l := l) (x := x) s.2.2.1 c1 bl bF hx
  rw [bk_1.1, bk_1.2] at r1
  have X1 : sx h (pS h (E + 1) (bkL l x L F) (bkF l x L F)) := sx_up rfl (sx_up rfl sx_rf)
  have c2' := pS_off (X := E + 1) (l := bkL l x L F) (x := bkF l x L F) (by omega) c2
  have r2 := C_plBroke (l := l) (x := x) (shPlace_sx X1 s.2.2.2.2) c2' bl bT hx
  rw [bk_0.1, bk_0.2] at r2
  have X2 : sx h (pS (pS h (E + 1) (bkL l x L F) (bkF l x L F)) (E + 2) (L + bkB l x L T) (bkX l x L T)) := sx_tr X1 (sx_up rfl (sx_up rfl sx_rf))
  have d1 := (pS_off (X := E + 2) (l := L + bkB l x L T) (x := bkX l x L T) (by omega) (pS_own (X := E + 1) (l := bkL l x L F) (x := bkF l x L F) c1)).2.1
  have d2 := (pS_own (X := E + 2) (l := L + bkB l x L T) (x := bkX l x L T) c2').2.1
  refine (show _ = _ from rX8_lineBroke_0 s).trans ((vret_n r1).trans ((rX8_lineBroke_9 (shSpan_sx X1 s)).trans ((vret_n r2).trans ((rX8_lineBroke_18 (shSpan_sx X2 s)).trans ?_))))
  rw [show pS _ _ _ _ 901 (E + 1) 0 = _ from d1, show pS _ _ _ _ 901 (E + 2) 0 = _ from d2]
  by_cases z : L + bkB l x L T ≤ bkL l x L F
  · rw [if_pos z]
    have e1 : L + bkB l x L T = bkL l x L F ∧ bkX l x L T = bkT l x L F T := by
      unfold bkB bkL at z
      unfold bkX bkB bkL bkT
      by_cases y1 : l < L
      · rw [if_pos (Or.inl y1), if_pos (Or.inr (by omega)), if_neg (show ¬ L = l by omega), if_neg (by omega), if_neg (show ¬ L = l by omega)]
        omega
      · by_cases y2 : L = l
        · by_cases y3 : F < x
          · by_cases y4 : T ≤ x
            · rw [if_neg (by omega), if_neg (by omega), if_pos y2, if_pos (by decide), if_neg (by omega), if_pos y2]
              by_cases y5 : x ≤ T
              · rw [if_pos y5]; omega
              · rw [if_neg y5]; omega
            · rw [if_pos (by omega), if_neg (by omega)] at z
              omega
          · rw [if_pos (by omega), if_pos (by omega), if_pos y2, if_neg (by decide), if_pos (by omega)]
            exact ⟨rfl, rfl⟩
        · rw [if_neg (by omega), if_neg (by omega), if_neg y2, if_neg (by omega), if_neg y2]
          omega
    rw [e1.1, e1.2]
  · rw [if_neg z]
    have e1 : bkT l x L F T = x := by
      unfold bkB bkL at z
      unfold bkT
      by_cases y2 : L = l
      · by_cases y3 : F < x
        · by_cases y4 : T ≤ x
          · rw [if_neg (by omega), if_neg (by omega)] at z
            omega
          · rw [if_neg (by omega), if_pos y2, if_pos (by omega)]
        · rw [if_pos (by omega), if_pos (by omega)] at z
          omega
      · by_cases y1 : l < L
        · rw [if_pos (Or.inl y1), if_pos (Or.inr (by omega))] at z
          omega
        · rw [if_neg (by omega), if_neg (by omega)] at z
          omega
    have r3 := (show vcl mX7_set [(1, E + 2), (0, bkL l x L F), (0, x)] (pS (pS h (E + 1) (bkL l x L F) (bkF l x L F)) (E + 2) (L + bkB l x L T) (bkX l x L T)) = _ from rX7_set_0 (x1 := bkL l x L F) (x2 := x) (shPlace_sx X2 s.2.2.2.2))
    refine (vret_n r3).trans (rX8_lineBroke_50.trans ?_)
    have e2 : vup (vup (pS (pS h (E + 1) (bkL l x L F) (bkF l x L F)) (E + 2) (L + bkB l x L T) (bkX l x L T)) 901 (E + 2) 0 (bkL l x L F)) 902 (E + 2) 0 x = pS (pS h (E + 1) (bkL l x L F) (bkF l x L F)) (E + 2) (bkL l x L F) x := pS_pS
    rw [e2, e1]
theorem C_foBroke (s : shFold h E) (c1 : h 300 E 0 = F) (c2 : h 301 E 0 = T) (bF : -1000000 ≤ F ∧ F ≤ 1000000) (bT : -1000000 ≤ T ∧ T ≤ 1000000) : vcl mX1_lineBroke [(1, E), (0, l)] h = some (.inl none, fS h E (F + (if ¬ (F ≤ l) then 1 else 0)) (T + (if ¬ (T < l) then 1 else 0))) := by
  have c1' : h 300 E 0 = F := c1
  have c2' : h 301 E 0 = T := c2
  refine (show _ = _ from rX1_lineBroke_0 s (fun _ => by omega) (fun _ => by omega) (fun _ => by omega) (fun _ => by omega)).trans ?_
  rw [c1', c2']
  have s1 : vup h 300 E 0 F = h := vup_same c1
  have s2 : ∀ H : vH, H 301 E 0 = T → vup H 301 E 0 T = H := fun H e => vup_same e
  unfold fS
  by_cases z1 : F ≤ l
  · rw [if_pos z1, if_neg (show ¬ ¬ F ≤ l from fun w => w z1), Int.add_zero, s1]
    by_cases z2 : T < l
    · rw [if_pos z2, if_neg (show ¬ ¬ T < l from fun w => w z2), Int.add_zero, s2 h c2]
    · rw [if_neg z2, if_pos z2]
  · rw [if_neg z1, if_pos z1]
    by_cases z2 : T < l
    · rw [if_pos z2, if_neg (show ¬ ¬ T < l from fun w => w z2), Int.add_zero, s2 _ ((vup_k (by decide)).trans c2)]
    · rw [if_neg z2, if_pos z2]
theorem C_layBroke (c : cW h a) (n6 : cn6 a) (bd : bdQ a p) (mo : ∀ i, 6 * p ≤ i → i < 6 * p + a 2 293 p → a 2 295 i < a 2 296 i) (hp : 0 ≤ p ∧ p < 4) (hx : 0 ≤ x ∧ x ≤ 80) : ∃ h2, vcl mX2_lineBroke [(1, 138 + 36 * p + 1), (0, l), (0, x)] h = some (.inl none, h2) ∧ lF h h2 ∧ cW h2 (mp (mp (mp a rgS (6 * p) (6 * p + a 2 293 p) (gBk l x a)) rgV (6 * p) (6 * p + a 2 297 p) (gBk l x a)) rgF (6 * p) (6 * p + a 2 301 p) (gBk l x a)) := by
  have p6 := n6 p hp.1 hp.2
  have sp : ∀ (f : Nat) (j : Int) (h1 : vH), j + f = a 2 293 p → 0 ≤ j → lF h h1 → cW h1 (mp a rgS (6 * p) (6 * p + j) (gBk l x a)) → ∃ h2, vrun mX2_lineBroke 2 [(1, 138 + 36 * p + 1), (0, l), (0, x), (0, j)] [] h1 = vrun mX2_lineBroke 37 [(1, 138 + 36 * p + 1), (0, l), (0, x), (0, 0)] [] h2 ∧ lF h h2 ∧ cW h2 (mp a rgS (6 * p) (6 * p + a 2 293 p) (gBk l x a)) := by
    intro f
    induction f with
    | zero =>
      intro j h1 hj h0 F W
      have ej : j = a 2 293 p := by omega
      have L := (W.2.2.1 p hp.1 hp.2).2.1.2.1
      have es : h1 102 (138 + 36 * p + 1 + 1) 0 = a 2 293 p := L.2.1.2.1.trans (mp_r (by unfold rgS; decide))
      refine ⟨h1, (rX2_lineBroke_2 L.1 L.2.1.1 (fun z => absurd (by omega) z) (fun z => absurd (by omega) z) (fun z => absurd (by omega) z) (fun z => absurd (by omega) z) (fun z => absurd (by omega) z)).trans (if_pos (by omega)), F, ?_⟩
      rw [ej] at W
      exact W
    | succ f ih =>
      intro j h1 hj h0 F W
      have m6 : cn6 (mp a rgS (6 * p) (6 * p + j) (gBk l x a)) := cn6_of (fun q _ _ => ⟨mp_r (by unfold rgS; decide), mp_r (by unfold rgS; decide), mp_r (by unfold rgS; decide)⟩) n6
      have L := (W.2.2.1 p hp.1 hp.2).2.1.2.1
      have es : h1 102 (138 + 36 * p + 1 + 1) 0 = a 2 293 p := L.2.1.2.1.trans (mp_r (by unfold rgS; decide))
      have en : mp a rgS (6 * p) (6 * p + j) (gBk l x a) 2 293 p = a 2 293 p := mp_r (by unfold rgS; decide)
      obtain ⟨k1, k2⟩ := L.2.1.2.2 (by omega)
      obtain ⟨m1, m2, m3⟩ := L.2.2.2.2.1 j h0 (by omega)
      have rd : ∀ r, mp a rgS (6 * p) (6 * p + j) (gBk l x a) 2 r (6 * p + j) = a 2 r (6 * p + j) := fun r => mp_i (by omega)
      rw [rd, rd] at m2 m3
      have E3 := cW_eS W hp (j := j) ⟨h0, by omega⟩
      have b0 := bd.1 294 (6 * p + j) (Or.inl (by unfold rgS; decide)) (by omega) (by omega)
      have b1 := bd.1 295 (6 * p + j) (Or.inl (by unfold rgS; decide)) (by omega) (by omega)
      have b2 := bd.1 296 (6 * p + j) (Or.inl (by unfold rgS; decide)) (by omega) (by omega)
      have W2 := cW_sp (l := gBk l x a 294 (6 * p + j)) (f := gBk l x a 295 (6 * p + j)) (t := gBk l x a 296 (6 * p + j)) W m6 hp (j := j) ⟨h0, by omega⟩
      have W3 : aSp (mp a rgS (6 * p) (6 * p + j) (gBk l x a)) (6 * p + j) (gBk l x a 294 (6 * p + j)) (gBk l x a 295 (6 * p + j)) (gBk l x a 296 (6 * p + j)) = mp a rgS (6 * p) (6 * p + (j + 1)) (gBk l x a) := by
        rw [← Int.add_assoc]
        exact aSp_mp (by omega)
      rw [W3] at W2
      have F2 : lF h (pS (pS h1 (lE h1 (138 + 36 * p + 1 + 1) j + 1) (gBk l x a 294 (6 * p + j)) (gBk l x a 295 (6 * p + j))) (lE h1 (138 + 36 * p + 1 + 1) j + 2) (gBk l x a 294 (6 * p + j)) (gBk l x a 296 (6 * p + j))) := lF_tr F (lF_tr (lF_pS (by omega)) (lF_pS (by omega)))
      obtain ⟨h3, r1, r2, r3⟩ := ih (j + 1) _ (by omega) (by omega) F2 W2
      refine ⟨h3, ?_, r2, r3⟩
      refine (rX2_lineBroke_2 L.1 L.2.1.1 (fun _ => by omega) (fun _ => k1) (fun _ => h0) (fun _ => by omega) (fun _ => m1)).trans ((if_neg (by omega)).trans ?_)
      refine (vret_n (C_spBroke (E := lE h1 (138 + 36 * p + 1 + 1) j) m1 m2 m3 (mo _ (by omega) (by omega)) b0 b1 b2 hx)).trans ?_
      exact (rX2_lineBroke_29 (by omega) (by omega)).trans r1
  have vi : ∀ (f : Nat) (j : Int) (h1 a1 : vH), a1 = mp a rgS (6 * p) (6 * p + a 2 293 p) (gBk l x a) → j + f = a 2 297 p → 0 ≤ j → lF h h1 → cW h1 (mp a1 rgV (6 * p) (6 * p + j) (gBk l x a)) → ∃ h2, vrun mX2_lineBroke 37 [(1, 138 + 36 * p + 1), (0, l), (0, x), (0, j)] [] h1 = vrun mX2_lineBroke 75 [(1, 138 + 36 * p + 1), (0, l), (0, x), (0, 0)] [] h2 ∧ lF h h2 ∧ cW h2 (mp a1 rgV (6 * p) (6 * p + a 2 297 p) (gBk l x a)) := by
    intro f
    induction f with
    | zero =>
      intro j h1 a1 ea hj h0 F W
      have ej : j = a 2 297 p := by omega
      have L := (W.2.2.1 p hp.1 hp.2).2.1.2.1
      have es : h1 102 (138 + 36 * p + 1 + 2) 0 = a 2 297 p := L.2.2.1.2.1.trans ((mp_r (by unfold rgV; decide)).trans (by rw [ea]; exact mp_r (by unfold rgS; decide)))
      refine ⟨h1, (rX2_lineBroke_37 L.1 L.2.2.1.1 (fun z => absurd (by omega) z) (fun z => absurd (by omega) z) (fun z => absurd (by omega) z) (fun z => absurd (by omega) z) (fun z => absurd (by omega) z)).trans (if_pos (by omega)), F, ?_⟩
      rw [ej] at W
      exact W
    | succ f ih =>
      intro j h1 a1 ea hj h0 F W
      have m6 : cn6 (mp a1 rgV (6 * p) (6 * p + j) (gBk l x a)) := cn6_of (fun q _ _ => ⟨(mp_r (by unfold rgV; decide)).trans (by rw [ea]; exact mp_r (by unfold rgS; decide)), (mp_r (by unfold rgV; decide)).trans (by rw [ea]; exact mp_r (by unfold rgS; decide)), (mp_r (by unfold rgV; decide)).trans (by rw [ea]; exact mp_r (by unfold rgS; decide))⟩) n6
      have L := (W.2.2.1 p hp.1 hp.2).2.1.2.1
      have en : mp a1 rgV (6 * p) (6 * p + j) (gBk l x a) 2 297 p = a 2 297 p := (mp_r (by unfold rgV; decide)).trans (by rw [ea]; exact mp_r (by unfold rgS; decide))
      have es : h1 102 (138 + 36 * p + 1 + 2) 0 = a 2 297 p := L.2.2.1.2.1.trans en
      obtain ⟨k1, k2⟩ := L.2.2.1.2.2 (by omega)
      obtain ⟨m1, m2, m3, m4⟩ := L.2.2.2.2.2.1 j h0 (by omega)
      have rd : ∀ r, rgV r → mp a1 rgV (6 * p) (6 * p + j) (gBk l x a) 2 r (6 * p + j) = a 2 r (6 * p + j) := fun r hr => (mp_i (by omega)).trans (by rw [ea]; exact mp_r (by unfold rgV at hr; unfold rgS; omega))
      rw [rd _ (by unfold rgV; decide), rd _ (by unfold rgV; decide)] at m2
      have E3 := cW_eV W hp (j := j) ⟨h0, by omega⟩
      have b0 := bd.1 298 (6 * p + j) (Or.inr (Or.inl (by unfold rgV; decide))) (by omega) (by omega)
      have b1 := bd.1 299 (6 * p + j) (Or.inr (Or.inl (by unfold rgV; decide))) (by omega) (by omega)
      have W2 := cW_vi (l := gBk l x a 298 (6 * p + j)) (x := gBk l x a 299 (6 * p + j)) W m6 hp (j := j) ⟨h0, by omega⟩
      have W3 : aVi (mp a1 rgV (6 * p) (6 * p + j) (gBk l x a)) (6 * p + j) (gBk l x a 298 (6 * p + j)) (gBk l x a 299 (6 * p + j)) = mp a1 rgV (6 * p) (6 * p + (j + 1)) (gBk l x a) := by
        rw [← Int.add_assoc]
        exact aVi_mp (by omega)
      rw [W3] at W2
      obtain ⟨h3, r1, r2, r3⟩ := ih (j + 1) _ a1 ea (by omega) (by omega) (lF_tr F (lF_pS (by omega))) W2
      refine ⟨h3, ?_, r2, r3⟩
      refine (rX2_lineBroke_37 L.1 L.2.2.1.1 (fun _ => by omega) (fun _ => k1) (fun _ => h0) (fun _ => by omega) (fun _ => m1)).trans ((if_neg (by omega)).trans ?_)
      have pl := C_plBroke (l := l) (x := x) (r := lE h1 (138 + 36 * p + 1 + 2) j + 1) m1.2.2 m2 b0 b1 hx
      rw [bk_0.1, bk_0.2] at pl
      exact (vret_n pl).trans ((rX2_lineBroke_67 (by omega) (by omega)).trans r1)
  have fo : ∀ (f : Nat) (j : Int) (h1 a1 : vH), a1 = mp (mp a rgS (6 * p) (6 * p + a 2 293 p) (gBk l x a)) rgV (6 * p) (6 * p + a 2 297 p) (gBk l x a) → j + f = a 2 301 p → 0 ≤ j → lF h h1 → cW h1 (mp a1 rgF (6 * p) (6 * p + j) (gBk l x a)) → ∃ h2, vrun mX2_lineBroke 75 [(1, 138 + 36 * p + 1), (0, l), (0, x), (0, j)] [] h1 = some (.inl none, h2) ∧ lF h h2 ∧ cW h2 (mp a1 rgF (6 * p) (6 * p + a 2 301 p) (gBk l x a)) := by
    intro f
    induction f with
    | zero =>
      intro j h1 a1 ea hj h0 F W
      have ej : j = a 2 301 p := by omega
      have L := (W.2.2.1 p hp.1 hp.2).2.1.2.1
      have es : h1 102 (138 + 36 * p + 1 + 3) 0 = a 2 301 p := L.2.2.2.1.2.1.trans ((mp_r (by unfold rgF; decide)).trans (by rw [ea]; exact (mp_r (by unfold rgV; decide)).trans (mp_r (by unfold rgS; decide))))
      refine ⟨h1, (rX2_lineBroke_75 L.1 L.2.2.2.1.1 (fun z => absurd (by omega) z) (fun z => absurd (by omega) z) (fun z => absurd (by omega) z) (fun z => absurd (by omega) z) (fun z => absurd (by omega) z)).trans (if_pos (by omega)), F, ?_⟩
      rw [ej] at W
      exact W
    | succ f ih =>
      intro j h1 a1 ea hj h0 F W
      have ra : ∀ r i, ¬ rgF r → ¬ rgV r → ¬ rgS r → mp a1 rgF (6 * p) (6 * p + j) (gBk l x a) 2 r i = a 2 r i := fun r i w1 w2 w3 => (mp_r w1).trans (by rw [ea]; exact (mp_r w2).trans (mp_r w3))
      have m6 : cn6 (mp a1 rgF (6 * p) (6 * p + j) (gBk l x a)) := cn6_of (fun q _ _ => ⟨ra _ _ (by unfold rgF; decide) (by unfold rgV; decide) (by unfold rgS; decide), ra _ _ (by unfold rgF; decide) (by unfold rgV; decide) (by unfold rgS; decide), ra _ _ (by unfold rgF; decide) (by unfold rgV; decide) (by unfold rgS; decide)⟩) n6
      have L := (W.2.2.1 p hp.1 hp.2).2.1.2.1
      have en : mp a1 rgF (6 * p) (6 * p + j) (gBk l x a) 2 301 p = a 2 301 p := ra _ _ (by unfold rgF; decide) (by unfold rgV; decide) (by unfold rgS; decide)
      have es : h1 102 (138 + 36 * p + 1 + 3) 0 = a 2 301 p := L.2.2.2.1.2.1.trans en
      obtain ⟨k1, k2⟩ := L.2.2.2.1.2.2 (by omega)
      obtain ⟨m1, m2, m3, m4⟩ := L.2.2.2.2.2.2 j h0 (by omega)
      have rd : ∀ r, rgF r → mp a1 rgF (6 * p) (6 * p + j) (gBk l x a) 2 r (6 * p + j) = a 2 r (6 * p + j) := fun r hr => (mp_i (by omega)).trans (by rw [ea]; exact (mp_r (by unfold rgF at hr; unfold rgV; omega)).trans (mp_r (by unfold rgF at hr; unfold rgS; omega)))
      rw [rd _ (by unfold rgF; decide)] at m2 m3
      have E3 := cW_eF W hp (j := j) ⟨h0, by omega⟩
      have b0 := bd.1 302 (6 * p + j) (Or.inr (Or.inr (by unfold rgF; decide))) (by omega) (by omega)
      have b1 := bd.1 303 (6 * p + j) (Or.inr (Or.inr (by unfold rgF; decide))) (by omega) (by omega)
      have W2 := cW_fo (f := gBk l x a 302 (6 * p + j)) (t := gBk l x a 303 (6 * p + j)) W m6 hp (j := j) ⟨h0, by omega⟩
      have W3 : aFo (mp a1 rgF (6 * p) (6 * p + j) (gBk l x a)) (6 * p + j) (gBk l x a 302 (6 * p + j)) (gBk l x a 303 (6 * p + j)) = mp a1 rgF (6 * p) (6 * p + (j + 1)) (gBk l x a) := by
        rw [← Int.add_assoc]
        exact aFo_mp (by omega)
      rw [W3] at W2
      obtain ⟨h3, r1, r2, r3⟩ := ih (j + 1) _ a1 ea (by omega) (by omega) (lF_tr F (lF_fS (by omega))) W2
      refine ⟨h3, ?_, r2, r3⟩
      refine (rX2_lineBroke_75 L.1 L.2.2.2.1.1 (fun _ => by omega) (fun _ => k1) (fun _ => h0) (fun _ => by omega) (fun _ => m1)).trans ((if_neg (by omega)).trans ?_)
      exact (vret_n (C_foBroke (E := lE h1 (138 + 36 * p + 1 + 3) j) m1 m2 m3 b0 b1)).trans ((rX2_lineBroke_101 (by omega) (by omega)).trans r1)
  have z0 : ∀ (b : vH) (R : Int → Prop), cW h b → True := fun _ _ _ => trivial
  have W0 : cW h (mp a rgS (6 * p) (6 * p + 0) (gBk l x a)) := by
    rw [show 6 * p + 0 = 6 * p by omega, mp_0]
    exact c
  obtain ⟨h1, a1, a2, a3⟩ := sp (a 2 293 p).toNat 0 h (by omega) (by decide) lF_rf W0
  have W1 : cW h1 (mp (mp a rgS (6 * p) (6 * p + a 2 293 p) (gBk l x a)) rgV (6 * p) (6 * p + 0) (gBk l x a)) := by
    rw [show 6 * p + 0 = 6 * p by omega, mp_0]
    exact a3
  obtain ⟨h3, b1, b2, b3⟩ := vi (a 2 297 p).toNat 0 h1 _ rfl (by omega) (by decide) a2 W1
  have W2 : cW h3 (mp (mp (mp a rgS (6 * p) (6 * p + a 2 293 p) (gBk l x a)) rgV (6 * p) (6 * p + a 2 297 p) (gBk l x a)) rgF (6 * p) (6 * p + 0) (gBk l x a)) := by
    rw [show 6 * p + 0 = 6 * p by omega, mp_0]
    exact b3
  obtain ⟨h4, d1, d2, d3⟩ := fo (a 2 301 p).toNat 0 h3 _ rfl (by omega) (by decide) b2 W2
  exact ⟨h4, (show _ = _ from rX2_lineBroke_0).trans (a1.trans (b1.trans d1)), d2, d3⟩
theorem C_panBroke (c : cW h a) (n6 : cn6 a) (bd : bdQ a p) (mo : ∀ i, 6 * p ≤ i → i < 6 * p + a 2 293 p → a 2 295 i < a 2 296 i) (hp : 0 ≤ p ∧ p < 4) (hl : 0 ≤ l ∧ l < 60) (hx : 0 ≤ x ∧ x ≤ 80) : ∃ h2, vcl mX5_lineBroke [(1, 138 + 36 * p), (0, l), (0, x)] h = some (.inl none, h2) ∧ fgF p h h2 ∧ cW h2 (oP (gBk l x a) a p) ∧ h2 714 (138 + 36 * p) 0 = 0 ∧ h2 715 (138 + 36 * p) 0 = -1 ∧ ∀ i, h2 2 (138 + 36 * p + 26) i = if l ≤ i ∧ i < 60 then -1 else h 2 (138 + 36 * p + 26) i := by
  obtain ⟨h1, a1, a2, a3⟩ := C_layBroke (l := l) (x := x) c n6 bd mo hp hx
  have P0 := (c.2.2.1 p hp.1 hp.2).2.1.1
  have C1 := (a3.2.2.1 p hp.1 hp.2).2.1.2.2.1
  have rd : ∀ r, rgC r → mp (mp (mp a rgS (6 * p) (6 * p + a 2 293 p) (gBk l x a)) rgV (6 * p) (6 * p + a 2 297 p) (gBk l x a)) rgF (6 * p) (6 * p + a 2 301 p) (gBk l x a) 2 r p = a 2 r p := fun r hr => (mp_r (by unfold rgC at hr; unfold rgF; omega)).trans ((mp_r (by unfold rgC at hr; unfold rgV; omega)).trans (mp_r (by unfold rgC at hr; unfold rgS; omega)))
  rw [rd _ (by unfold rgC; decide), rd _ (by unfold rgC; decide)] at C1
  have P1 := shPane_sx (lF_sx a2) P0
  have B0 := bd.2 305 (by unfold rgC; decide)
  have B1 := bd.2 306 (by unfold rgC; decide)
  have W1 := cW_cu (l := gBk l x a 305 p) (x := gBk l x a 306 p) a3 hp
  have T1 := (W1.2.2.1 p hp.1 hp.2).2.1.2.2.2.1
  have F1 : lF h (pS h1 (138 + 36 * p + 23) (gBk l x a 305 p) (gBk l x a 306 p)) := lF_tr a2 (lF_pS (by omega))
  have P2 := shPane_sx (lF_sx F1) P0
  have rt : ∀ r, rgC r → ¬ (r = 305 ∨ r = 306) → aCu (mp (mp (mp a rgS (6 * p) (6 * p + a 2 293 p) (gBk l x a)) rgV (6 * p) (6 * p + a 2 297 p) (gBk l x a)) rgF (6 * p) (6 * p + a 2 301 p) (gBk l x a)) p (gBk l x a 305 p) (gBk l x a 306 p) 2 r p = a 2 r p := fun r hr n => (vup_r (by omega)).trans ((vup_r (by omega)).trans (rd r hr))
  rw [rt _ (by unfold rgC; decide) (by decide), rt _ (by unfold rgC; decide) (by decide)] at T1
  have B2 := bd.2 308 (by unfold rgC; decide)
  have B3 := bd.2 309 (by unfold rgC; decide)
  have W2 := cW_tp (l := gBk l x a 308 p) (x := gBk l x a 309 p) W1 hp
  have F2 : lF h (pS (pS h1 (138 + 36 * p + 23) (gBk l x a 305 p) (gBk l x a 306 p)) (138 + 36 * p + 24) (gBk l x a 308 p) (gBk l x a 309 p)) := lF_tr F1 (lF_pS (by omega))
  have P3 := shPane_sx (lF_sx F2) P0
  have q1 := C_plBroke (l := l) (x := x) (r := 138 + 36 * p + 23) (shPane_pl P1).1 C1 B0 B1 hx
  rw [bk_0.1, bk_0.2] at q1
  have q2 := C_plBroke (l := l) (x := x) (r := 138 + 36 * p + 24) (shPane_pl P2).2 T1 B2 B3 hx
  rw [bk_0.1, bk_0.2] at q2
  obtain ⟨r1, r2, r3⟩ := fgt_r (P := 138 + 36 * p) (n := l) (h := pS (pS h1 (138 + 36 * p + 23) (gBk l x a 305 p) (gBk l x a 306 p)) (138 + 36 * p + 24) (gBk l x a 308 p) (gBk l x a 309 p))
  refine ⟨_, ?_, ?_, cW_qF hp (fgt_qF (P := 138 + 36 * p) (n := l)) W2, r1, r2, fun i => ?_⟩
  · refine (show _ = _ from rX5_lineBroke_0 P0).trans ((vret_n a1).trans ((rX5_lineBroke_9 P1).trans ?_))
    refine (vret_n q1).trans ((rX5_lineBroke_18 P2).trans ?_)
    refine (vret_n q2).trans ((rX5_lineBroke_27 P3).trans ?_)
    exact (vret_n (C_fgt P3 (by omega))).trans rX5_lineBroke_32
  · intro k r i e
    unfold fgt vup frT
    rw [if_neg (by omega), if_neg (by omega), if_neg (by omega)]
    exact F2 k r i (by omega)
  · rw [r3, F2 2 _ _ (by omega)]
end CBK

