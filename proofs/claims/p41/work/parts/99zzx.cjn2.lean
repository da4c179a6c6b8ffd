/-! two lines are joined: a pane of the class -/
section CJ2
variable {h h2 a b : vH} {p q P Q X l x s f u t j st r l0 x0 n E L F T : Int}
theorem C_layJoin (c : cW h a) (I : iD h) (n6 : cn6 a) (bd : bdQ a p) (mo : ∀ i, 6 * p ≤ i → i < 6 * p + a 2 301 p → a 2 302 i ≤ a 2 303 i) (hp : 0 ≤ p ∧ p < 4) (hl : 0 ≤ l ∧ l < 60) (hn : 0 ≤ n ∧ n ≤ 80) : ∃ h2, vcl mX2_linesJoined [(1, 138 + 36 * p + 1), (0, l), (0, n)] h = some (.inl none, h2) ∧ lF h h2 ∧ iD h2 ∧ cW h2 (dFk p (a 2 301 p).toNat (mp (mp (mp a rgS (6 * p) (6 * p + a 2 293 p) (gJo l n a)) rgV (6 * p) (6 * p + a 2 297 p) (gJo l n a)) rgF (6 * p) (6 * p + a 2 301 p) (gJo l n a))) := by
  have p6 := n6 p hp.1 hp.2
  have sp : ∀ (f : Nat) (j : Int) (h1 : vH), j + f = a 2 293 p → 0 ≤ j → lF h h1 → cW h1 (mp a rgS (6 * p) (6 * p + j) (gJo l n a)) → ∃ h2, vrun mX2_linesJoined 2 [(1, 138 + 36 * p + 1), (0, l), (0, n), (0, j), (9, 0)] [] h1 = vrun mX2_linesJoined 59 [(1, 138 + 36 * p + 1), (0, l), (0, n), (0, 0), (9, 0)] [] h2 ∧ lF h h2 ∧ cW h2 (mp a rgS (6 * p) (6 * p + a 2 293 p) (gJo l n a)) := by
    intro f
    induction f with
    | zero =>
      intro j h1 hj h0 F W
      have ej : j = a 2 293 p := by omega
      have L := (W.2.2.1 p hp.1 hp.2).2.1.2.1
      have es : h1 102 (138 + 36 * p + 1 + 1) 0 = a 2 293 p := L.2.1.2.1.trans (mp_r (by unfold rgS; decide))
      refine ⟨h1, (rX2_linesJoined_2 L.1 L.2.1.1 (fun z => absurd (by omega) z) (fun z => absurd (by omega) z) (fun z => absurd (by omega) z) (fun z => absurd (by omega) z) (fun z => absurd (by omega) z)).trans (if_pos (by omega)), F, ?_⟩
      rw [ej] at W
      exact W
    | succ f ih =>
      intro j h1 hj h0 F W
      have m6 : cn6 (mp a rgS (6 * p) (6 * p + j) (gJo l n a)) := cn6_of (fun q _ _ => ⟨mp_r (by unfold rgS; decide), mp_r (by unfold rgS; decide), mp_r (by unfold rgS; decide)⟩) n6
      have L := (W.2.2.1 p hp.1 hp.2).2.1.2.1
      have es : h1 102 (138 + 36 * p + 1 + 1) 0 = a 2 293 p := L.2.1.2.1.trans (mp_r (by unfold rgS; decide))
      have en : mp a rgS (6 * p) (6 * p + j) (gJo l n a) 2 293 p = a 2 293 p := mp_r (by unfold rgS; decide)
      obtain ⟨k1, k2⟩ := L.2.1.2.2 (by omega)
      obtain ⟨m1, m2, m3⟩ := L.2.2.2.2.1 j h0 (by omega)
      have rd : ∀ r, mp a rgS (6 * p) (6 * p + j) (gJo l n a) 2 r (6 * p + j) = a 2 r (6 * p + j) := fun r => mp_i (by omega)
      rw [rd, rd] at m2 m3
      have E3 := cW_eS W hp (j := j) ⟨h0, by omega⟩
      have b0 := bd.1 294 (6 * p + j) (Or.inl (by unfold rgS; decide)) (by omega) (by omega)
      have b1 := bd.1 295 (6 * p + j) (Or.inl (by unfold rgS; decide)) (by omega) (by omega)
      have b2 := bd.1 296 (6 * p + j) (Or.inl (by unfold rgS; decide)) (by omega) (by omega)
      have W2 := cW_sp (l := gJo l n a 294 (6 * p + j)) (f := gJo l n a 295 (6 * p + j)) (t := gJo l n a 296 (6 * p + j)) W m6 hp (j := j) ⟨h0, by omega⟩
      have W3 : aSp (mp a rgS (6 * p) (6 * p + j) (gJo l n a)) (6 * p + j) (gJo l n a 294 (6 * p + j)) (gJo l n a 295 (6 * p + j)) (gJo l n a 296 (6 * p + j)) = mp a rgS (6 * p) (6 * p + (j + 1)) (gJo l n a) := by
        rw [← Int.add_assoc]
        exact aSp_mp (by omega)
      rw [W3] at W2
      have X1 := lF_sx (lF_pS (h := h1) (X := lE h1 (138 + 36 * p + 1 + 1) j + 1) (l := gJo l n a 294 (6 * p + j)) (x := gJo l n a 295 (6 * p + j)) (by omega))
      have F2 : lF h (pS (pS h1 (lE h1 (138 + 36 * p + 1 + 1) j + 1) (gJo l n a 294 (6 * p + j)) (gJo l n a 295 (6 * p + j))) (lE h1 (138 + 36 * p + 1 + 1) j + 2) (gJo l n a 294 (6 * p + j)) (gJo l n a 296 (6 * p + j))) := lF_tr F (lF_tr (lF_pS (by omega)) (lF_pS (by omega)))
      obtain ⟨h3, r1, r2, r3⟩ := ih (j + 1) _ (by omega) (by omega) F2 W2
      refine ⟨h3, ?_, r2, r3⟩
      have q1 := C_plJoin (l := l) (n := n) (r := lE h1 (138 + 36 * p + 1 + 1) j + 1) m1.2.2.1 m2 b0 b1 hl hn
      have m3' := pS_off (X := lE h1 (138 + 36 * p + 1 + 1) j + 1) (l := gJo l n a 294 (6 * p + j)) (x := gJo l n a 295 (6 * p + j)) (by omega) m3
      have q2 := C_plJoin (l := l) (n := n) (r := lE h1 (138 + 36 * p + 1 + 1) j + 2) (shPlace_sx X1 m1.2.2.2.2) m3' b0 b2 hl hn
      refine (rX2_linesJoined_2 L.1 L.2.1.1 (fun _ => by omega) (fun _ => k1) (fun _ => h0) (fun _ => by omega) (fun _ => m1)).trans ((if_neg (by omega)).trans ?_)
      have H : ∀ (k : Nat) (r i : Int), ¬ k = 901 → ¬ k = 902 → pS h1 (lE h1 (138 + 36 * p + 1 + 1) j + 1) (gJo l n a 294 (6 * p + j)) (gJo l n a 295 (6 * p + j)) k r i = h1 k r i := fun k r i z y => (vup_k y).trans (vup_k z)
      have e3 := rX2_linesJoined_32 (x0 := 138 + 36 * p + 1) (x1 := l) (x2 := n) (x3 := j) (shLayers_sx X1 L.1) (shList_sx X1 L.2.1.1) (by omega)
      rw [H 101 _ _ (by decide) (by decide), H 102 _ _ (by decide) (by decide), H 0 _ _ (by decide) (by decide), H 1 _ _ (by decide) (by decide), H 2 _ _ (by decide) (by decide)] at e3
      have e4 := e3 (by omega) k1 h0 (by omega) (shSpan_sx X1 m1)
      exact (vret_n q1).trans (e4.trans ((vret_n q2).trans ((rX2_linesJoined_51 (by omega) (by omega)).trans r1)))
  have vi : ∀ (f : Nat) (j : Int) (h1 a1 : vH), a1 = mp a rgS (6 * p) (6 * p + a 2 293 p) (gJo l n a) → j + f = a 2 297 p → 0 ≤ j → lF h h1 → cW h1 (mp a1 rgV (6 * p) (6 * p + j) (gJo l n a)) → ∃ h2, vrun mX2_linesJoined 59 [(1, 138 + 36 * p + 1), (0, l), (0, n), (0, j), (9, 0)] [] h1 = vrun mX2_linesJoined 105 [(1, 138 + 36 * p + 1), (0, l), (0, n), (0, a 2 301 p - 1), (9, 0)] [] h2 ∧ lF h h2 ∧ cW h2 (mp a1 rgV (6 * p) (6 * p + a 2 297 p) (gJo l n a)) := by
    intro f
    induction f with
    | zero =>
      intro j h1 a1 ea hj h0 F W
      have ej : j = a 2 297 p := by omega
      have L := (W.2.2.1 p hp.1 hp.2).2.1.2.1
      have es : h1 102 (138 + 36 * p + 1 + 2) 0 = a 2 297 p := L.2.2.1.2.1.trans ((mp_r (by unfold rgV; decide)).trans (by rw [ea]; exact mp_r (by unfold rgS; decide)))
      have ef : h1 102 (138 + 36 * p + 1 + 3) 0 = a 2 301 p := L.2.2.2.1.2.1.trans ((mp_r (by unfold rgV; decide)).trans (by rw [ea]; exact mp_r (by unfold rgS; decide)))
      have e0 := rX2_linesJoined_59 (x1 := l) (x2 := n) (x3 := j) L.1 L.2.2.1.1 (fun _ => L.2.2.2.1.1) (fun _ => by omega) (fun _ => by omega) (fun z => absurd (by omega) z) (fun z => absurd (by omega) z) (fun z => absurd (by omega) z) (fun z => absurd (by omega) z) (fun z => absurd (by omega) z)
      rw [if_pos (by omega), show h1 102 (138 + 36 * p + 1 + 3) 0 = a 2 301 p from ef] at e0
      refine ⟨h1, e0, F, ?_⟩
      rw [ej] at W
      exact W
    | succ f ih =>
      intro j h1 a1 ea hj h0 F W
      have m6 : cn6 (mp a1 rgV (6 * p) (6 * p + j) (gJo l n a)) := cn6_of (fun q _ _ => ⟨(mp_r (by unfold rgV; decide)).trans (by rw [ea]; exact mp_r (by unfold rgS; decide)), (mp_r (by unfold rgV; decide)).trans (by rw [ea]; exact mp_r (by unfold rgS; decide)), (mp_r (by unfold rgV; decide)).trans (by rw [ea]; exact mp_r (by unfold rgS; decide))⟩) n6
      have L := (W.2.2.1 p hp.1 hp.2).2.1.2.1
      have en : mp a1 rgV (6 * p) (6 * p + j) (gJo l n a) 2 297 p = a 2 297 p := (mp_r (by unfold rgV; decide)).trans (by rw [ea]; exact mp_r (by unfold rgS; decide))
      have es : h1 102 (138 + 36 * p + 1 + 2) 0 = a 2 297 p := L.2.2.1.2.1.trans en
      obtain ⟨k1, k2⟩ := L.2.2.1.2.2 (by omega)
      obtain ⟨m1, m2, m3, m4⟩ := L.2.2.2.2.2.1 j h0 (by omega)
      have rd : ∀ r, rgV r → mp a1 rgV (6 * p) (6 * p + j) (gJo l n a) 2 r (6 * p + j) = a 2 r (6 * p + j) := fun r hr => (mp_i (by omega)).trans (by rw [ea]; exact mp_r (by unfold rgV at hr; unfold rgS; omega))
      rw [rd _ (by unfold rgV; decide), rd _ (by unfold rgV; decide)] at m2
      have E3 := cW_eV W hp (j := j) ⟨h0, by omega⟩
      have b0 := bd.1 298 (6 * p + j) (Or.inr (Or.inl (by unfold rgV; decide))) (by omega) (by omega)
      have b1 := bd.1 299 (6 * p + j) (Or.inr (Or.inl (by unfold rgV; decide))) (by omega) (by omega)
      have W2 := cW_vi (l := gJo l n a 298 (6 * p + j)) (x := gJo l n a 299 (6 * p + j)) W m6 hp (j := j) ⟨h0, by omega⟩
      have W3 : aVi (mp a1 rgV (6 * p) (6 * p + j) (gJo l n a)) (6 * p + j) (gJo l n a 298 (6 * p + j)) (gJo l n a 299 (6 * p + j)) = mp a1 rgV (6 * p) (6 * p + (j + 1)) (gJo l n a) := by
        rw [← Int.add_assoc]
        exact aVi_mp (by omega)
      rw [W3] at W2
      obtain ⟨h3, r1, r2, r3⟩ := ih (j + 1) _ a1 ea (by omega) (by omega) (lF_tr F (lF_pS (by omega))) W2
      refine ⟨h3, ?_, r2, r3⟩
      refine (rX2_linesJoined_59 L.1 L.2.2.1.1 (fun z => absurd z (by omega)) (fun z => absurd z (by omega)) (fun z => absurd z (by omega)) (fun _ => by omega) (fun _ => k1) (fun _ => h0) (fun _ => by omega) (fun _ => m1)).trans ((if_neg (by omega)).trans ?_)
      have pl := C_plJoin (l := l) (n := n) (r := lE h1 (138 + 36 * p + 1 + 2) j + 1) m1.2.2 m2 b0 b1 hl hn
      exact (vret_n pl).trans ((rX2_linesJoined_89 (by omega) (by omega)).trans r1)
  have W0 : cW h (mp a rgS (6 * p) (6 * p + 0) (gJo l n a)) := by
    rw [show 6 * p + 0 = 6 * p by omega, mp_0]
    exact c
  obtain ⟨h1, a1, a2, a3⟩ := sp (a 2 293 p).toNat 0 h (by omega) (by decide) lF_rf W0
  have W1 : cW h1 (mp (mp a rgS (6 * p) (6 * p + a 2 293 p) (gJo l n a)) rgV (6 * p) (6 * p + 0) (gJo l n a)) := by
    rw [show 6 * p + 0 = 6 * p by omega, mp_0]
    exact a3
  obtain ⟨h3, b1, b2, b3⟩ := vi (a 2 297 p).toNat 0 h1 _ rfl (by omega) (by decide) a2 W1
  have ra : ∀ r i, ¬ rgV r → ¬ rgS r → mp (mp a rgS (6 * p) (6 * p + a 2 293 p) (gJo l n a)) rgV (6 * p) (6 * p + a 2 297 p) (gJo l n a) 2 r i = a 2 r i := fun r i w2 w3 => (mp_r w2).trans (mp_r w3)
  have m6 : cn6 (mp (mp a rgS (6 * p) (6 * p + a 2 293 p) (gJo l n a)) rgV (6 * p) (6 * p + a 2 297 p) (gJo l n a)) := cn6_of (fun q _ _ => ⟨ra _ _ (by unfold rgV; decide) (by unfold rgS; decide), ra _ _ (by unfold rgV; decide) (by unfold rgS; decide), ra _ _ (by unfold rgV; decide) (by unfold rgS; decide)⟩) n6
  have eF : mp (mp (mp a rgS (6 * p) (6 * p + a 2 293 p) (gJo l n a)) rgV (6 * p) (6 * p + a 2 297 p) (gJo l n a)) rgF (6 * p) (6 * p + a 2 301 p) (gJo l n (mp (mp a rgS (6 * p) (6 * p + a 2 293 p) (gJo l n a)) rgV (6 * p) (6 * p + a 2 297 p) (gJo l n a))) = mp (mp (mp a rgS (6 * p) (6 * p + a 2 293 p) (gJo l n a)) rgV (6 * p) (6 * p + a 2 297 p) (gJo l n a)) rgF (6 * p) (6 * p + a 2 301 p) (gJo l n a) := by
    funext k r i
    by_cases z : k = 2 ∧ rgF r ∧ 6 * p ≤ i ∧ i < 6 * p + a 2 301 p
    · obtain ⟨z1, z2, z3, z4⟩ := z
      subst z1
      rw [mp_in z2 z3 z4, mp_in z2 z3 z4, gJo_F z2, gJo_F z2, ra _ _ (by unfold rgF at z2; unfold rgV; omega) (by unfold rgF at z2; unfold rgS; omega)]
    · exact (if_neg z).trans (if_neg z).symm
  have en : (((a 2 301 p).toNat : Nat) : Int) = a 2 301 p := by omega
  have ef := ra 301 p (by unfold rgV; decide) (by unfold rgS; decide)
  obtain ⟨h4, d1, d2, d3, d4⟩ := C_foJoined (h := h) (n := n) hp hl (a 2 301 p).toNat h3 _ (9, 0) (by rw [ef]; omega) b3 m6 (iD_lF b2 I) b2 (fun i v w => by
    rw [ra 302 i (by unfold rgV; decide) (by unfold rgS; decide), ra 303 i (by unfold rgV; decide) (by unfold rgS; decide)]
    exact ⟨bd.1 _ i (Or.inr (Or.inr (by unfold rgF; decide))) v (by omega), bd.1 _ i (Or.inr (Or.inr (by unfold rgF; decide))) v (by omega), mo i v (by omega)⟩)
  rw [en] at d1 d4
  rw [eF] at d4
  exact ⟨h4, (show _ = _ from rX2_linesJoined_0).trans (a1.trans (b1.trans d1)), d2, d3, d4⟩
theorem C_panJoin (c : cW h a) (I : iD h) (n6 : cn6 a) (bd : bdQ a p) (mo : ∀ i, 6 * p ≤ i → i < 6 * p + a 2 301 p → a 2 302 i ≤ a 2 303 i) (hp : 0 ≤ p ∧ p < 4) (hl : 0 ≤ l ∧ l < 60) (hn : 0 ≤ n ∧ n ≤ 80) : ∃ h2, vcl mX5_linesJoined [(1, 138 + 36 * p), (0, l), (0, n)] h = some (.inl none, h2) ∧ fgF p h h2 ∧ iD h2 ∧ cW h2 (oJ (gJo l n a) a p) ∧ h2 714 (138 + 36 * p) 0 = 0 ∧ h2 715 (138 + 36 * p) 0 = -1 ∧ ∀ i, h2 2 (138 + 36 * p + 26) i = if l ≤ i ∧ i < 60 then -1 else h 2 (138 + 36 * p + 26) i := by
  have p6 := n6 p hp.1 hp.2
  obtain ⟨h1, a1, a2, aI, a3⟩ := C_layJoin (l := l) (n := n) c I n6 bd mo hp hl hn
  have P0 := (c.2.2.1 p hp.1 hp.2).2.1.1
  have C1 := (a3.2.2.1 p hp.1 hp.2).2.1.2.2.1
  have ms : ∀ r i, ¬ rgF r → ¬ rgV r → ¬ rgS r → mp (mp (mp a rgS (6 * p) (6 * p + a 2 293 p) (gJo l n a)) rgV (6 * p) (6 * p + a 2 297 p) (gJo l n a)) rgF (6 * p) (6 * p + a 2 301 p) (gJo l n a) 2 r i = a 2 r i := fun r i w1 w2 w3 => (mp_r w1).trans ((mp_r w2).trans (mp_r w3))
  have mf := ms 301 p (by unfold rgF; decide) (by unfold rgV; decide) (by unfold rgS; decide)
  have rd : ∀ r, rgC r → dFk p (a 2 301 p).toNat (mp (mp (mp a rgS (6 * p) (6 * p + a 2 293 p) (gJo l n a)) rgV (6 * p) (6 * p + a 2 297 p) (gJo l n a)) rgF (6 * p) (6 * p + a 2 301 p) (gJo l n a)) 2 r p = a 2 r p := fun r hr => (dFk_o hp (by unfold rgC at hr; omega) _ _ (by rw [mf]; omega) (by rw [mf]; omega)).trans (ms r p (by unfold rgC at hr; unfold rgF; omega) (by unfold rgC at hr; unfold rgV; omega) (by unfold rgC at hr; unfold rgS; omega))
  rw [rd _ (by unfold rgC; decide), rd _ (by unfold rgC; decide)] at C1
  have P1 := shPane_sx (lF_sx a2) P0
  have B0 := bd.2 305 (by unfold rgC; decide)
  have B1 := bd.2 306 (by unfold rgC; decide)
  have W1 := cW_cu (l := gJo l n a 305 p) (x := gJo l n a 306 p) a3 hp
  have T1 := (W1.2.2.1 p hp.1 hp.2).2.1.2.2.2.1
  have F1 : lF h (pS h1 (138 + 36 * p + 23) (gJo l n a 305 p) (gJo l n a 306 p)) := lF_tr a2 (lF_pS (by omega))
  have P2 := shPane_sx (lF_sx F1) P0
  have rt : ∀ r, rgC r → ¬ (r = 305 ∨ r = 306) → aCu (dFk p (a 2 301 p).toNat (mp (mp (mp a rgS (6 * p) (6 * p + a 2 293 p) (gJo l n a)) rgV (6 * p) (6 * p + a 2 297 p) (gJo l n a)) rgF (6 * p) (6 * p + a 2 301 p) (gJo l n a))) p (gJo l n a 305 p) (gJo l n a 306 p) 2 r p = a 2 r p := fun r hr n => (vup_r (by omega)).trans ((vup_r (by omega)).trans (rd r hr))
  rw [rt _ (by unfold rgC; decide) (by decide), rt _ (by unfold rgC; decide) (by decide)] at T1
  have B2 := bd.2 308 (by unfold rgC; decide)
  have B3 := bd.2 309 (by unfold rgC; decide)
  have W2 := cW_tp (l := gJo l n a 308 p) (x := gJo l n a 309 p) W1 hp
  have F2 : lF h (pS (pS h1 (138 + 36 * p + 23) (gJo l n a 305 p) (gJo l n a 306 p)) (138 + 36 * p + 24) (gJo l n a 308 p) (gJo l n a 309 p)) := lF_tr F1 (lF_pS (by omega))
  have P3 := shPane_sx (lF_sx F2) P0
  have I2 : iD (pS (pS h1 (138 + 36 * p + 23) (gJo l n a 305 p) (gJo l n a 306 p)) (138 + 36 * p + 24) (gJo l n a 308 p) (gJo l n a 309 p)) := iD_lF F2 I
  have q1 := C_plJoin (l := l) (n := n) (r := 138 + 36 * p + 23) (shPane_pl P1).1 C1 B0 B1 hl hn
  have q2 := C_plJoin (l := l) (n := n) (r := 138 + 36 * p + 24) (shPane_pl P2).2 T1 B2 B3 hl hn
  obtain ⟨r1, r2, r3⟩ := fgt_r (P := 138 + 36 * p) (n := l) (h := pS (pS h1 (138 + 36 * p + 23) (gJo l n a 305 p) (gJo l n a 306 p)) (138 + 36 * p + 24) (gJo l n a 308 p) (gJo l n a 309 p))
  refine ⟨fgt (138 + 36 * p) l (pS (pS h1 (138 + 36 * p + 23) (gJo l n a 305 p) (gJo l n a 306 p)) (138 + 36 * p + 24) (gJo l n a 308 p) (gJo l n a 309 p)), ?_, ?_, ?_, cW_qF hp (fgt_qF (P := 138 + 36 * p) (n := l)) W2, r1, r2, fun i => ?_⟩
  · refine (show _ = _ from rX5_linesJoined_0 P0).trans ((vret_n a1).trans ((rX5_linesJoined_9 P1).trans ?_))
    refine (vret_n q1).trans ((rX5_linesJoined_18 P2).trans ?_)
    refine (vret_n q2).trans ((rX5_linesJoined_27 P3).trans ?_)
    exact (vret_n (C_fgt P3 (by omega))).trans rX5_linesJoined_32
  · intro k r i e
    unfold fgt vup frT
    rw [if_neg (by omega), if_neg (by omega), if_neg (by omega)]
    exact F2 k r i (by omega)
  · refine iD_eF (h := pS (pS h1 (138 + 36 * p + 23) (gJo l n a 305 p) (gJo l n a 306 p)) (138 + 36 * p + 24) (gJo l n a 308 p) (gJo l n a 309 p)) (fun k r i e => ?_) I2
    unfold fgt vup frT
    rw [if_neg (by omega), if_neg (by omega), if_neg (by omega)]
  · rw [r3, F2 2 _ _ (by omega)]
end CJ2

