/-! a sign comes: the places of a pane, the class -/
/-- where a place goes when a sign comes at the place x of the line l -/
def sgX (st l x L X : Int) : Int := if L = l ∧ (x < X ∨ ¬ st = 0 ∧ X = x) then X + 1 else X
def gCm (l x : Int) (a : vH) (r i : Int) : Int := if r = 295 then sgX 1 l x (a 2 294 i) (a 2 295 i) else if r = 296 then sgX 0 l x (a 2 294 i) (a 2 296 i) else if r = 299 then sgX 0 l x (a 2 298 i) (a 2 299 i) else if r = 306 then sgX 0 l x (a 2 305 i) (a 2 306 i) else if r = 309 then sgX 0 l x (a 2 308 i) (a 2 309 i) else a 2 r i
/-- places that may be added to -/
def bdQ (a : vH) (p : Int) : Prop := (∀ r i, rgL r → 6 * p ≤ i → i < 6 * p + 6 → -1000000 ≤ a 2 r i ∧ a 2 r i ≤ 1000000) ∧ ∀ r, rgC r → -1000000 ≤ a 2 r p ∧ a 2 r p ≤ 1000000
def bdP (a : vH) : Prop := (∀ r i, rgL r → 0 ≤ i → i < 24 → -1000000 ≤ a 2 r i ∧ a 2 r i ≤ 1000000) ∧ ∀ r i, rgC r → 0 ≤ i → i < 4 → -1000000 ≤ a 2 r i ∧ a 2 r i ≤ 1000000
section CAM
variable {h h2 a b : vH} {p q P Q X l x f t j st r l0 x0 : Int}
theorem gCm_loc : gLoc (gCm l x) := by
  refine ⟨fun a b r i hr e => ?_, fun a b r i hr e => ?_⟩
  · unfold rgL rgS rgV rgF at hr
    unfold gCm
    rw [e 294 (by decide) (by decide), e 295 (by decide) (by decide), e 296 (by decide) (by decide), e 298 (by decide) (by decide), e 299 (by decide) (by decide), e r (by omega) (by omega), if_neg (show ¬ r = 306 by omega), if_neg (show ¬ r = 309 by omega), if_neg (show ¬ r = 306 by omega), if_neg (show ¬ r = 309 by omega)]
  · unfold rgC at hr
    unfold gCm
    rw [e 305 (by decide) (by decide), e 306 (by decide) (by decide), e 308 (by decide) (by decide), e 309 (by decide) (by decide), e r (by omega) (by omega), if_neg (show ¬ r = 295 by omega), if_neg (show ¬ r = 296 by omega), if_neg (show ¬ r = 299 by omega), if_neg (show ¬ r = 295 by omega), if_neg (show ¬ r = 296 by omega), if_neg (show ¬ r = 299 by omega)]
theorem C_plCame (s : shPlace h r) (c : cPl h r st l0 x0) (b : -1000000 ≤ x0 ∧ x0 ≤ 1000000) : vcl mX7_signCame [(1, r), (0, l), (0, x)] h = some (.inl none, pS h r l0 (sgX st l x l0 x0)) := by
  obtain ⟨c1, c2, c3⟩ := c
  have b1 : -1000000 ≤ h 902 r 0 ∧ h 902 r 0 ≤ 1000000 := by rw [c3]; exact b
  refine (show _ = _ from rX7_signCame_0 s (fun _ _ => by omega) (fun _ _ => by omega)).trans ?_
  have e1 : pS h r l0 (sgX st l x l0 x0) = vup h 902 r 0 (sgX st l x l0 x0) := by
    unfold pS
    rw [vup_same c2]
  rw [e1]
  unfold sgX
  by_cases z1 : l0 = l
  · rw [if_pos (c2.trans z1)]
    by_cases z2 : x < x0 ∨ ¬ st = 0 ∧ x0 = x
    · have k : fX7_isBehind h r x = 1 := by
        unfold fX7_isBehind
        rw [show h 900 r 0 = st from c1, show h 902 r 0 = x0 from c3]
        exact if_pos z2
      rw [if_neg (by rw [k]; decide), if_pos ⟨z1, z2⟩, show h 902 r 0 = x0 from c3]
    · have k : fX7_isBehind h r x = 0 := by
        unfold fX7_isBehind
        rw [show h 900 r 0 = st from c1, show h 902 r 0 = x0 from c3]
        exact if_neg z2
      rw [if_pos k, if_neg (fun w => z2 w.2), vup_same c3]
  · rw [if_neg (fun w => z1 (c2.symm.trans w)), if_neg (fun w => z1 w.1), vup_same c3]
theorem C_layCame (c : cW h a) (n6 : cn6 a) (bd : bdQ a p) (hp : 0 ≤ p ∧ p < 4) : ∃ h2, vcl mX2_signCame [(1, 138 + 36 * p + 1), (0, l), (0, x)] h = some (.inl none, h2) ∧ lF h h2 ∧ cW h2 (mp (mp a rgS (6 * p) (6 * p + a 2 293 p) (gCm l x a)) rgV (6 * p) (6 * p + a 2 297 p) (gCm l x a)) := by
  have p6 := n6 p hp.1 hp.2
  have sp : ∀ (f : Nat) (j : Int) (h1 : vH), j + f = a 2 293 p → 0 ≤ j → lF h h1 → cW h1 (mp a rgS (6 * p) (6 * p + j) (gCm l x a)) → ∃ h2, vrun mX2_signCame 2 [(1, 138 + 36 * p + 1), (0, l), (0, x), (0, j)] [] h1 = vrun mX2_signCame 59 [(1, 138 + 36 * p + 1), (0, l), (0, x), (0, 0)] [] h2 ∧ lF h h2 ∧ cW h2 (mp a rgS (6 * p) (6 * p + a 2 293 p) (gCm l x a)) := by
    intro f
    induction f with
    | zero =>
      intro j h1 hj h0 F W
      have ej : j = a 2 293 p := by omega
      have L := (W.2.2.1 p hp.1 hp.2).2.1.2.1
      have es : h1 102 (138 + 36 * p + 1 + 1) 0 = a 2 293 p := L.2.1.2.1.trans (mp_r (by unfold rgS; decide))
      refine ⟨h1, (rX2_signCame_2 L.1 L.2.1.1 (fun z => absurd (by omega) z) (fun z => absurd (by omega) z) (fun z => absurd (by omega) z) (fun z => absurd (by omega) z) (fun z => absurd (by omega) z)).trans (if_pos (by omega)), F, ?_⟩
      rw [ej] at W
      exact W
    | succ f ih =>
      intro j h1 hj h0 F W
      have m6 : cn6 (mp a rgS (6 * p) (6 * p + j) (gCm l x a)) := cn6_of (fun q _ _ => ⟨mp_r (by unfold rgS; decide), mp_r (by unfold rgS; decide), mp_r (by unfold rgS; decide)⟩) n6
      have L := (W.2.2.1 p hp.1 hp.2).2.1.2.1
      have es : h1 102 (138 + 36 * p + 1 + 1) 0 = a 2 293 p := L.2.1.2.1.trans (mp_r (by unfold rgS; decide))
      have en : mp a rgS (6 * p) (6 * p + j) (gCm l x a) 2 293 p = a 2 293 p := mp_r (by unfold rgS; decide)
      obtain ⟨k1, k2⟩ := L.2.1.2.2 (by omega)
      obtain ⟨m1, m2, m3⟩ := L.2.2.2.2.1 j h0 (by omega)
      have rd : ∀ r, mp a rgS (6 * p) (6 * p + j) (gCm l x a) 2 r (6 * p + j) = a 2 r (6 * p + j) := fun r => mp_i (by omega)
      rw [rd, rd] at m2 m3
      have E3 := cW_eS W hp (j := j) ⟨h0, by omega⟩
      have b1 := bd.1 295 (6 * p + j) (Or.inl (by unfold rgS; decide)) (by omega) (by omega)
      have b2 := bd.1 296 (6 * p + j) (Or.inl (by unfold rgS; decide)) (by omega) (by omega)
      have W2 := cW_sp (l := a 2 294 (6 * p + j)) (f := sgX 1 l x (a 2 294 (6 * p + j)) (a 2 295 (6 * p + j))) (t := sgX 0 l x (a 2 294 (6 * p + j)) (a 2 296 (6 * p + j))) W m6 hp (j := j) ⟨h0, by omega⟩
      have W3 : aSp (mp a rgS (6 * p) (6 * p + j) (gCm l x a)) (6 * p + j) (a 2 294 (6 * p + j)) (sgX 1 l x (a 2 294 (6 * p + j)) (a 2 295 (6 * p + j))) (sgX 0 l x (a 2 294 (6 * p + j)) (a 2 296 (6 * p + j))) = mp a rgS (6 * p) (6 * p + (j + 1)) (gCm l x a) := by
        rw [← Int.add_assoc]
        exact aSp_mp (by omega)
      rw [W3] at W2
      have F2 : lF h (pS (pS h1 (lE h1 (138 + 36 * p + 1 + 1) j + 1) (a 2 294 (6 * p + j)) (sgX 1 l x (a 2 294 (6 * p + j)) (a 2 295 (6 * p + j)))) (lE h1 (138 + 36 * p + 1 + 1) j + 2) (a 2 294 (6 * p + j)) (sgX 0 l x (a 2 294 (6 * p + j)) (a 2 296 (6 * p + j)))) := lF_tr F (lF_tr (lF_pS (by omega)) (lF_pS (by omega)))
      obtain ⟨h3, r1, r2, r3⟩ := ih (j + 1) _ (by omega) (by omega) F2 W2
      refine ⟨h3, ?_, r2, r3⟩
      refine (rX2_signCame_2 L.1 L.2.1.1 (fun _ => by omega) (fun _ => k1) (fun _ => h0) (fun _ => by omega) (fun _ => m1)).trans ((if_neg (by omega)).trans ?_)
      have X1 := lF_sx (lF_pS (h := h1) (X := lE h1 (138 + 36 * p + 1 + 1) j + 1) (l := a 2 294 (6 * p + j)) (x := sgX 1 l x (a 2 294 (6 * p + j)) (a 2 295 (6 * p + j))) (by omega))
      refine (vret_n (C_plCame (r := lE h1 (138 + 36 * p + 1 + 1) j + 1) m1.2.2.1 m2 b1)).trans ?_
      refine (rX2_signCame_32 (shLayers_sx X1 L.1) (shList_sx X1 L.2.1.1) (by omega) (show j < h1 102 (138 + 36 * p + 1 + 1) 0 by omega) k1 h0 (show j < h1 1 (h1 101 (138 + 36 * p + 1 + 1) 0) 0 by omega) (shSpan_sx X1 m1)).trans ?_
      refine (vret_n (C_plCame (r := lE h1 (138 + 36 * p + 1 + 1) j + 2) (shPlace_sx X1 m1.2.2.2.2) (pS_off (by omega) m3) b2)).trans ?_
      exact (rX2_signCame_51 (by omega) (by omega)).trans r1
  have vi : ∀ (f : Nat) (j : Int) (h1 a1 : vH), a1 = mp a rgS (6 * p) (6 * p + a 2 293 p) (gCm l x a) → j + f = a 2 297 p → 0 ≤ j → lF h h1 → cW h1 (mp a1 rgV (6 * p) (6 * p + j) (gCm l x a)) → ∃ h2, vrun mX2_signCame 59 [(1, 138 + 36 * p + 1), (0, l), (0, x), (0, j)] [] h1 = some (.inl none, h2) ∧ lF h h2 ∧ cW h2 (mp a1 rgV (6 * p) (6 * p + a 2 297 p) (gCm l x a)) := by
    intro f
    induction f with
    | zero =>
      intro j h1 a1 ea hj h0 F W
      have ej : j = a 2 297 p := by omega
      have L := (W.2.2.1 p hp.1 hp.2).2.1.2.1
      have es : h1 102 (138 + 36 * p + 1 + 2) 0 = a 2 297 p := L.2.2.1.2.1.trans ((mp_r (by unfold rgV; decide)).trans (by rw [ea]; exact mp_r (by unfold rgS; decide)))
      refine ⟨h1, (rX2_signCame_59 L.1 L.2.2.1.1 (fun z => absurd (by omega) z) (fun z => absurd (by omega) z) (fun z => absurd (by omega) z) (fun z => absurd (by omega) z) (fun z => absurd (by omega) z)).trans (if_pos (by omega)), F, ?_⟩
      rw [ej] at W
      exact W
    | succ f ih =>
      intro j h1 a1 ea hj h0 F W
      have m6 : cn6 (mp a1 rgV (6 * p) (6 * p + j) (gCm l x a)) := cn6_of (fun q _ _ => ⟨(mp_r (by unfold rgV; decide)).trans (by rw [ea]; exact mp_r (by unfold rgS; decide)), (mp_r (by unfold rgV; decide)).trans (by rw [ea]; exact mp_r (by unfold rgS; decide)), (mp_r (by unfold rgV; decide)).trans (by rw [ea]; exact mp_r (by unfold rgS; decide))⟩) n6
      have L := (W.2.2.1 p hp.1 hp.2).2.1.2.1
      have en : mp a1 rgV (6 * p) (6 * p + j) (gCm l x a) 2 297 p = a 2 297 p := (mp_r (by unfold rgV; decide)).trans (by rw [ea]; exact mp_r (by unfold rgS; decide))
      have es : h1 102 (138 + 36 * p + 1 + 2) 0 = a 2 297 p := L.2.2.1.2.1.trans en
      obtain ⟨k1, k2⟩ := L.2.2.1.2.2 (by omega)
      obtain ⟨m1, m2, m3, m4⟩ := L.2.2.2.2.2.1 j h0 (by omega)
      have rd : ∀ r, rgV r → mp a1 rgV (6 * p) (6 * p + j) (gCm l x a) 2 r (6 * p + j) = a 2 r (6 * p + j) := fun r hr => (mp_i (by omega)).trans (by rw [ea]; exact mp_r (by unfold rgV at hr; unfold rgS; omega))
      rw [rd _ (by unfold rgV; decide), rd _ (by unfold rgV; decide)] at m2
      have E3 := cW_eV W hp (j := j) ⟨h0, by omega⟩
      have b1 := bd.1 299 (6 * p + j) (Or.inr (Or.inl (by unfold rgV; decide))) (by omega) (by omega)
      have W2 := cW_vi (l := a 2 298 (6 * p + j)) (x := sgX 0 l x (a 2 298 (6 * p + j)) (a 2 299 (6 * p + j))) W m6 hp (j := j) ⟨h0, by omega⟩
      have W3 : aVi (mp a1 rgV (6 * p) (6 * p + j) (gCm l x a)) (6 * p + j) (a 2 298 (6 * p + j)) (sgX 0 l x (a 2 298 (6 * p + j)) (a 2 299 (6 * p + j))) = mp a1 rgV (6 * p) (6 * p + (j + 1)) (gCm l x a) := by
        rw [← Int.add_assoc]
        exact aVi_mp (by omega)
      rw [W3] at W2
      obtain ⟨h3, r1, r2, r3⟩ := ih (j + 1) _ a1 ea (by omega) (by omega) (lF_tr F (lF_pS (by omega))) W2
      refine ⟨h3, ?_, r2, r3⟩
      refine (rX2_signCame_59 L.1 L.2.2.1.1 (fun _ => by omega) (fun _ => k1) (fun _ => h0) (fun _ => by omega) (fun _ => m1)).trans ((if_neg (by omega)).trans ?_)
      refine (vret_n (C_plCame (r := lE h1 (138 + 36 * p + 1 + 2) j + 1) m1.2.2 m2 b1)).trans ?_
      exact (rX2_signCame_89 (by omega) (by omega)).trans r1
  have W0 : cW h (mp a rgS (6 * p) (6 * p + 0) (gCm l x a)) := by
    rw [show 6 * p + 0 = 6 * p by omega, mp_0]
    exact c
  obtain ⟨h1, a1, a2, a3⟩ := sp (a 2 293 p).toNat 0 h (by omega) (by decide) lF_rf W0
  have W1 : cW h1 (mp (mp a rgS (6 * p) (6 * p + a 2 293 p) (gCm l x a)) rgV (6 * p) (6 * p + 0) (gCm l x a)) := by
    rw [show 6 * p + 0 = 6 * p by omega, mp_0]
    exact a3
  obtain ⟨h3, b1, b2, b3⟩ := vi (a 2 297 p).toNat 0 h1 _ rfl (by omega) (by decide) a2 W1
  exact ⟨h3, (show _ = _ from rX2_signCame_0).trans (a1.trans b1), b2, b3⟩
/-- of a pane: what isn't forgotten stays -/
def fgF (p : Int) (h h2 : vH) : Prop := ∀ (k : Nat) (r i : Int), ¬ (((k = 901 ∨ k = 902 ∨ k = 300 ∨ k = 301 ∨ k = 100 ∨ k = 102) ∧ (138 ≤ r ∧ r ≤ 281 ∨ 282 ≤ r)) ∨ (k = 2 ∧ 282 ≤ r) ∨ (r = 138 + 36 * p ∧ (k = 714 ∨ k = 715)) ∨ (k = 2 ∧ r = 138 + 36 * p + 26)) → h2 k r i = h k r i
theorem C_panCame (c : cW h a) (n6 : cn6 a) (bd : bdQ a p) (hp : 0 ≤ p ∧ p < 4) (hl : 0 ≤ l ∧ l < 60) : ∃ h2, vcl mX5_signCame [(1, 138 + 36 * p), (0, l), (0, x)] h = some (.inl none, h2) ∧ fgF p h h2 ∧ cW h2 (oP (gCm l x a) a p) ∧ h2 714 (138 + 36 * p) 0 = 0 ∧ h2 715 (138 + 36 * p) 0 = -1 ∧ ∀ i, h2 2 (138 + 36 * p + 26) i = if i = l then -1 else h 2 (138 + 36 * p + 26) i := by
  obtain ⟨h1, a1, a2, a3⟩ := C_layCame (l := l) (x := x) c n6 bd hp
  have P0 := (c.2.2.1 p hp.1 hp.2).2.1.1
  have C1 := (a3.2.2.1 p hp.1 hp.2).2.1.2.2.1
  have rd : ∀ r, rgC r → mp (mp a rgS (6 * p) (6 * p + a 2 293 p) (gCm l x a)) rgV (6 * p) (6 * p + a 2 297 p) (gCm l x a) 2 r p = a 2 r p := fun r hr => (mp_r (by unfold rgC at hr; unfold rgV; omega)).trans (mp_r (by unfold rgC at hr; unfold rgS; omega))
  rw [rd _ (by unfold rgC; decide), rd _ (by unfold rgC; decide)] at C1
  have P1 := shPane_sx (lF_sx a2) P0
  have B1 := bd.2 306 (by unfold rgC; decide)
  have W1 := cW_cu (l := a 2 305 p) (x := sgX 0 l x (a 2 305 p) (a 2 306 p)) a3 hp
  have T1 := (W1.2.2.1 p hp.1 hp.2).2.1.2.2.2.1
  have F1 : lF h (pS h1 (138 + 36 * p + 23) (a 2 305 p) (sgX 0 l x (a 2 305 p) (a 2 306 p))) := lF_tr a2 (lF_pS (by omega))
  have P2 := shPane_sx (lF_sx F1) P0
  have rt : ∀ r, rgC r → ¬ (r = 305 ∨ r = 306) → aCu (mp (mp a rgS (6 * p) (6 * p + a 2 293 p) (gCm l x a)) rgV (6 * p) (6 * p + a 2 297 p) (gCm l x a)) p (a 2 305 p) (sgX 0 l x (a 2 305 p) (a 2 306 p)) 2 r p = a 2 r p := fun r hr n => (vup_r (by omega)).trans ((vup_r (by omega)).trans (rd r hr))
  rw [rt _ (by unfold rgC; decide) (by decide), rt _ (by unfold rgC; decide) (by decide)] at T1
  have B2 := bd.2 309 (by unfold rgC; decide)
  have W2 := cW_tp (l := a 2 308 p) (x := sgX 0 l x (a 2 308 p) (a 2 309 p)) W1 hp
  have F2 : lF h (pS (pS h1 (138 + 36 * p + 23) (a 2 305 p) (sgX 0 l x (a 2 305 p) (a 2 306 p))) (138 + 36 * p + 24) (a 2 308 p) (sgX 0 l x (a 2 308 p) (a 2 309 p))) := lF_tr F1 (lF_pS (by omega))
  have P3 := shPane_sx (lF_sx F2) P0
  have eO : aTp (aCu (mp (mp a rgS (6 * p) (6 * p + a 2 293 p) (gCm l x a)) rgV (6 * p) (6 * p + a 2 297 p) (gCm l x a)) p (a 2 305 p) (sgX 0 l x (a 2 305 p) (a 2 306 p))) p (a 2 308 p) (sgX 0 l x (a 2 308 p) (a 2 309 p)) = oP (gCm l x a) a p := by
    unfold oP
    rw [mp_id (b := mp (mp a rgS (6 * p) (6 * p + a 2 293 p) (gCm l x a)) rgV (6 * p) (6 * p + a 2 297 p) (gCm l x a)) (R := rgF) (fun r i hr _ _ => by
      unfold rgF at hr
      rw [mp_r (by unfold rgV; omega), mp_r (by unfold rgS; omega)]
      unfold gCm
      rw [if_neg (by omega), if_neg (by omega), if_neg (by omega), if_neg (by omega), if_neg (by omega)])]
    rfl
  rw [eO] at W2
  obtain ⟨r1, r2, r3⟩ := fgl_r (P := 138 + 36 * p) (l := l) (h := pS (pS h1 (138 + 36 * p + 23) (a 2 305 p) (sgX 0 l x (a 2 305 p) (a 2 306 p))) (138 + 36 * p + 24) (a 2 308 p) (sgX 0 l x (a 2 308 p) (a 2 309 p)))
  refine ⟨_, ?_, ?_, cW_qF hp (fgl_qF (P := 138 + 36 * p) (l := l)) W2, r1, r2, fun i => ?_⟩
  · refine (show _ = _ from rX5_signCame_0 P0).trans ((vret_n a1).trans ((rX5_signCame_9 P1).trans ?_))
    refine (vret_n (C_plCame (r := 138 + 36 * p + 23) (shPane_pl P1).1 C1 B1)).trans ((rX5_signCame_18 P2).trans ?_)
    refine (vret_n (C_plCame (r := 138 + 36 * p + 24) (shPane_pl P2).2 T1 B2)).trans ((rX5_signCame_27 P3).trans ?_)
    exact (vret_n (C_fgl P3 hl)).trans rX5_signCame_32
  · intro k r i e
    unfold fgl vup
    rw [if_neg (by omega), if_neg (by omega), if_neg (by omega)]
    exact F2 k r i (by omega)
  · rw [r3, F2 2 _ _ (by omega)]
end CAM

