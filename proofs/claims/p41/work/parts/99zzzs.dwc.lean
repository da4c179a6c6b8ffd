/-! draw: the class's call -/
section DWC
variable {h h2 h3 a b : vH} {p q P Q X l x s f t k c r S H D v w : Int}
theorem dr_A : eqA a (tDr a p t) := ⟨fun r i e e2 => dr_o (by omega), dr_o (by decide), dr_sx⟩
theorem dr_nL : nL (tDr a p t) q s = nL a q s := by
  unfold nL
  rw [dr_o (r := 293) (by decide), dr_o (r := 297) (by decide), dr_o (r := 301) (by decide)]
theorem cNP_dr (i : iH a) (hp : 0 ≤ p ∧ p < 4) (hH : a 2 310 p ≤ 24) (c : cNP h a p) : cNP h (tDr a p t) p := by
  obtain ⟨c1, c2, c3, c4, c5, c6, c7⟩ := c
  have y := dr_A (a := a) (p := p) (t := t)
  have T := cTx_a y c2
  have pan : ∀ q, 0 ≤ q → q < 4 → cPan h (tDr a p t) q := fun q u v => by
    obtain ⟨⟨f1, f2, f3, f4, f5, f6, f7, f8⟩, k2, k3⟩ := (c3 q u v).2.1
    refine ⟨⟨f1, cLay_a y.1 f2, ?_, ?_, ?_, ?_, ?_, ?_⟩, cCnt_a y k2, cLd_a y k3⟩
    · rw [dr_o (r := 305) (by decide), dr_o (r := 306) (by decide)]; exact f3
    · rw [dr_o (r := 308) (by decide), dr_o (r := 309) (by decide)]; exact f4
    · rw [dr_o (r := 307) (by decide)]; exact f5
    · rw [dr_o (r := 286) (by decide)]; exact f6
    · rw [dr_o (r := 287) (by decide)]; exact f7
    · rw [dr_o (r := 288) (by decide)]; exact f8
  refine ⟨c1, T, fun q u v => ⟨(c3 q u v).1, pan q u v, fun z => ?_⟩, fun q u v => ?_, ?_, ?_, ⟨T, (pan p hp.1 hp.2).1, (pan p hp.1 hp.2).2.1, (pan p hp.1 hp.2).2.2, c7.2.2.2.2⟩⟩
  · obtain ⟨p1, p2, p3, p4, p5, p6⟩ := (c3 q u v).2.2 z
    have d24 := (i.2.2.2.2.2.1 q u v)
    have e9 : tDr a p t 2 329 q = a 2 329 q := by rw [dr_329, if_neg z]
    refine ⟨p1, p2, p3, ?_, by rw [e9]; exact p5, fun k s w => ?_⟩
    · have e0 : tDr a p t 2 330 q = a 2 330 q := (vup_i z).trans (kpR_o (by decide))
      rw [e0]
      exact p4
    · rw [e9] at w
      obtain ⟨q1, q2, q3⟩ := p6 k s w
      have dm := d24.2 k s w
      have e7 : tDr a p t 2 327 (24 * q + k) = a 2 327 (24 * q + k) := by rw [dr_327, if_neg (by omega)]
      have e8 : tDr a p t 2 328 (24 * q + k) = a 2 328 (24 * q + k) := by rw [dr_328, if_neg (by omega)]
      rw [e7, e8]
      refine ⟨q1, q2, fun c s2 t2 => ?_⟩
      rw [dr_326o ⟨u, v⟩ z ⟨s, by omega⟩ ⟨s2, by omega⟩ hH]
      exact q3 c s2 t2
  · rw [dr_o (r := 289) (by decide), dr_o (r := 290) (by decide), dr_o (r := 291) (by decide), dr_o (r := 292) (by decide), dr_o (r := 310) (by decide)]
    exact c4 q u v
  · obtain ⟨l1, l2, l3, l4⟩ := c5
    have en : tDr a p t 1559 282 0 = a 1559 282 0 := dr_o (by decide)
    refine ⟨l1.trans en.symm, by rw [en]; exact l2, l3, fun i u v => ?_⟩
    rw [en] at v
    rw [en, dr_o (r := 334) (by decide), dr_o (r := 335) (by decide)]
    exact l4 i u v
  · obtain ⟨u0, u1, u2, u3, u4⟩ := c6
    exact ⟨u0, u1, u2, fun p t j a1 a2 a3 a4 a5 a6 => u3 p t j a1 a2 a3 a4 a5 (by rw [← dr_nL]; exact a6), fun p t j p2 t2 j2 a1 a2 a3 a4 a5 a6 b1 b2 b3 b4 b5 b6 => u4 p t j p2 t2 j2 a1 a2 a3 a4 a5 (by rw [← dr_nL]; exact a6) b1 b2 b3 b4 b5 (by rw [← dr_nL]; exact b6)⟩
theorem vup_vup {k : Nat} {r i v w : Int} : vup (vup h k r i v) k r i w = vup h k r i w := by
  funext k' r' i'
  unfold vup
  by_cases z : k' = k ∧ r' = r ∧ i' = i
  · rw [if_pos z, if_pos z]
  · rw [if_neg z, if_neg z, if_neg z]
theorem C_redraw (g : iG a) (i : iH a) (V : iVs a) (hp : 0 ≤ p ∧ p < 4) (A : cAll h a) (R : cRd h a p (138 + 36 * p)) (hH : 0 ≤ a 2 310 p ∧ a 2 310 p ≤ 24) : ∃ h2, vcl mX5_redraw [(1, 138 + 36 * p), (0, a 2 310 p)] h = some (.inl (some (0, (bdS a p (toR a p) 23).2)), h2) ∧ cAll h2 (tDr a p (toR a p)) ∧ KR h h2 := by
  have t0 := isRw_all.mp (to_in g hp)
  have al := mAll_in g.1 hp
  obtain ⟨h1, b1, b2, R1⟩ := C_topRow g hp (by omega) R
  have A1 := cAll_qM hp b2 A R1
  generalize hSe : h 718 (138 + 36 * p) 0 = S
  have eS1 : h1 718 (138 + 36 * p) 0 = S := (b2 _ _ _ (by omega)).trans hSe
  have hS : 138 ≤ S ∧ S ≤ 278 := by
    have := (A.2.2.1 p hp.1 hp.2).2.2.2.2.1
    rw [← hSe]
    rcases this with w | w <;> (rw [w.2]; omega)
  obtain ⟨h2, c1, A2, R2, eS2, K2, T2⟩ := C_takePicture g i V hp A1 R1 eS1 hS ⟨t0.1, by omega⟩ hH
  obtain ⟨p1, p2, p3, p4, p5, p6⟩ := (A2.2.2.1 p hp.1 hp.2).2.2
  generalize hDe : h2 717 (138 + 36 * p) 0 = D at p3 p5 p6
  rw [eS2] at p3
  have shS : shPicture h2 S := by
    rcases p3 with w | w
    · rw [w.2]; exact p2
    · rw [w.2]; exact p1
  have shD : shPicture h2 D := by
    rcases p3 with w | w
    · rw [w.1]; exact p1
    · rw [w.1]; exact p2
  -- the shift is looked for
  have HV : ∀ v, shPane (vup h2 719 (138 + 36 * p) 0 v) (138 + 36 * p) ∧ shPicture (vup h2 719 (138 + 36 * p) 0 v) S ∧ pT (vup h2 719 (138 + 36 * p) 0 v) S a p (toR a p) (a 2 310 p) ∧ dT (vup h2 719 (138 + 36 * p) 0 v) D a p ∧ vup h2 719 (138 + 36 * p) 0 v 717 (138 + 36 * p) 0 = D := fun v => by
    have X : sx h2 (vup h2 719 (138 + 36 * p) 0 v) := sx_up rfl sx_rf
    have e8 : ∀ r i, vup h2 719 (138 + 36 * p) 0 v 803 r i = h2 803 r i := fun r i => vup_k (by decide)
    have e2 : ∀ r i, vup h2 719 (138 + 36 * p) 0 v 2 r i = h2 2 r i := fun r i => vup_k (by decide)
    refine ⟨shPane_sx X R2.2.1.1, shPicture_sx X shS, ⟨(e8 _ _).trans T2.1, fun k s w => ?_⟩, ⟨shPicture_sx X shD, (e8 _ _).trans p5, fun k s w => ?_⟩, (vup_k (by decide)).trans hDe⟩
    · obtain ⟨w1, w2, w3⟩ := T2.2 k s w
      exact ⟨(e2 _ _).trans w1, (e2 _ _).trans w2, fun c s2 t2 => (e2 _ _).trans (w3 c s2 t2)⟩
    · obtain ⟨w1, w2, w3⟩ := p6 k s w
      exact ⟨(e2 _ _).trans w1, (e2 _ _).trans w2, fun c s2 t2 => (e2 _ _).trans (w3 c s2 t2)⟩
  have df : ∀ (v by_ : Int), -24 ≤ by_ ∧ by_ ≤ 24 → vcl mX6_differentRows [(1, S), (1, D), (0, by_)] (vup h2 719 (138 + 36 * p) 0 v) = some (.inl (some (0, tD a p (toR a p) by_ (a 2 310 p).toNat)), vup h2 719 (138 + 36 * p) 0 v) := fun v by_ hb => C_differ g i hp t0.1 hH (HV v).2.1 (HV v).2.2.1 (HV v).2.2.2.1 hb
  have loop : ∀ (f k : Nat) (v5 v6 : vv), k + f = 23 → vrun mX5_redraw 33 [(1, 138 + 36 * p), (0, a 2 310 p), (1, S), (0, (bdS a p (toR a p) k).2), (0, (k : Int) + 1), v5, v6] [] (vup h2 719 (138 + 36 * p) 0 (bdS a p (toR a p) k).1) = some (.inl (some (0, (bdS a p (toR a p) 23).2)), vup (vup (vup h2 719 (138 + 36 * p) 0 (bdS a p (toR a p) 23).1) 718 (138 + 36 * p) 0 D) 717 (138 + 36 * p) 0 S) := by
    intro f
    induction f with
    | zero =>
      intro k v5 v6 hk
      have ek : k = 23 := by omega
      subst ek
      have e0 := rX5_redraw_33 (x1 := a 2 310 p) (x3 := (bdS a p (toR a p) 23).2) (x4 := ((23 : Nat) : Int) + 1) (v5 := v5) (v6 := v6) (HV (bdS a p (toR a p) 23).1).1 (HV (bdS a p (toR a p) 23).1).2.1
      rw [(HV (bdS a p (toR a p) 23).1).2.2.2.2, if_pos (by decide)] at e0
      exact e0
    | succ f ih =>
      intro k v5 v6 hk
      have B0 := HV (bdS a p (toR a p) k).1
      have e0 := rX5_redraw_33 (x1 := a 2 310 p) (x3 := (bdS a p (toR a p) k).2) (x4 := (k : Int) + 1) (v5 := v5) (v6 := v6) B0.1 B0.2.1
      rw [B0.2.2.2.2, if_neg (by omega)] at e0
      have e1 := rX5_redraw_50 (x1 := a 2 310 p) (x3 := (bdS a p (toR a p) k).2) (x4 := (k : Int) + 1) (v5 := v5) (v6 := v6) (y0 := tD a p (toR a p) ((k : Int) + 1) (a 2 310 p).toNat) B0.1 (by omega) (by omega) B0.2.1
      rw [B0.2.2.2.2, vup_vup] at e1
      have q1 : (if (bdS a p (toR a p) k).2 ≤ tD a p (toR a p) ((k : Int) + 1) (a 2 310 p).toNat then (bdS a p (toR a p) k).2 else tD a p (toR a p) ((k : Int) + 1) (a 2 310 p).toNat) = (bdU (bdS a p (toR a p) k) ((k : Int) + 1) (tD a p (toR a p) ((k : Int) + 1) (a 2 310 p).toNat)).2 := rfl
      have q2 : (if (bdS a p (toR a p) k).2 ≤ tD a p (toR a p) ((k : Int) + 1) (a 2 310 p).toNat then vup h2 719 (138 + 36 * p) 0 (bdS a p (toR a p) k).1 else vup h2 719 (138 + 36 * p) 0 ((k : Int) + 1)) = vup h2 719 (138 + 36 * p) 0 (bdU (bdS a p (toR a p) k) ((k : Int) + 1) (tD a p (toR a p) ((k : Int) + 1) (a 2 310 p).toNat)).1 := by
        show _ = vup h2 719 (138 + 36 * p) 0 (if (bdS a p (toR a p) k).2 ≤ tD a p (toR a p) ((k : Int) + 1) (a 2 310 p).toNat then (bdS a p (toR a p) k).1 else (k : Int) + 1)
        split <;> rfl
      rw [q1, q2] at e1
      generalize hq : bdU (bdS a p (toR a p) k) ((k : Int) + 1) (tD a p (toR a p) ((k : Int) + 1) (a 2 310 p).toNat) = q at e1
      have B1 := HV q.1
      have e2 := rX5_redraw_78 (x1 := a 2 310 p) (x2 := S) (x3 := q.2) (x4 := (k : Int) + 1) (x5 := tD a p (toR a p) ((k : Int) + 1) (a 2 310 p).toNat) (v6 := v6) (y0 := tD a p (toR a p) (-((k : Int) + 1)) (a 2 310 p).toNat) (by omega) (by omega) B1.1 (by omega) (by omega)
      rw [vup_vup] at e2
      have q3 : (if q.2 ≤ tD a p (toR a p) (-((k : Int) + 1)) (a 2 310 p).toNat then q.2 else tD a p (toR a p) (-((k : Int) + 1)) (a 2 310 p).toNat) = (bdS a p (toR a p) (k + 1)).2 := by
        rw [← hq]
        rfl
      have q4 : (if q.2 ≤ tD a p (toR a p) (-((k : Int) + 1)) (a 2 310 p).toNat then vup h2 719 (138 + 36 * p) 0 q.1 else vup h2 719 (138 + 36 * p) 0 (-((k : Int) + 1))) = vup h2 719 (138 + 36 * p) 0 (bdS a p (toR a p) (k + 1)).1 := by
        have e : (bdS a p (toR a p) (k + 1)).1 = if q.2 ≤ tD a p (toR a p) (-((k : Int) + 1)) (a 2 310 p).toNat then q.1 else -((k : Int) + 1) := by
          rw [← hq]
          rfl
        rw [e]
        split <;> rfl
      rw [q3, q4] at e2
      have ih' := ih (k + 1) (0, tD a p (toR a p) ((k : Int) + 1) (a 2 310 p).toNat) (0, tD a p (toR a p) (-((k : Int) + 1)) (a 2 310 p).toNat) (by omega)
      rw [show (((k + 1 : Nat)) : Int) = (k : Int) + 1 by omega] at ih'
      exact e0.trans ((vret_v (df _ ((k : Int) + 1) ⟨by omega, by omega⟩)).trans (e1.trans ((vret_v (df _ (-((k : Int) + 1)) ⟨by omega, by omega⟩)).trans (e2.trans ih'))))
  have e15 := rX5_redraw_15 (x1 := a 2 310 p) R2.2.1.1 shS
  rw [show h2 717 (138 + 36 * p) 0 = D from hDe] at e15
  have e0 := rX5_redraw_0 (x1 := a 2 310 p) R.2.1.1
  rw [show h 718 (138 + 36 * p) 0 = S from hSe] at e0
  have run := (show vcl mX5_redraw [(1, 138 + 36 * p), (0, a 2 310 p)] h = _ from e0).trans ((vret_v b1).trans ((rX5_redraw_11 R1.2.1.1).trans ((vret_n c1).trans (e15.trans ((vret_v (df 0 0 ⟨by decide, by decide⟩)).trans (rX5_redraw_29.trans (loop 23 0 (9, 0) (9, 0) (by decide))))))))
  refine ⟨_, run, ?_, KR_tr (kR_qC hp (qM_C b2)) (KR_tr K2 ⟨fun k r i u => ?_, rfl, rfl⟩)⟩
  · have Y : pF p h2 (vup (vup (vup h2 719 (138 + 36 * p) 0 (bdS a p (toR a p) 23).1) 718 (138 + 36 * p) 0 D) 717 (138 + 36 * p) 0 S) := fun k r i n => by
      unfold vup
      rw [if_neg (by omega), if_neg (by omega), if_neg (by omega)]
    have N := cNP_dr (t := toR a p) i hp hH.2 (cNP_pF hp Y (cNP_of hp A2 R2))
    have X := pF_sx Y
    have g7 : vup (vup (vup h2 719 (138 + 36 * p) 0 (bdS a p (toR a p) 23).1) 718 (138 + 36 * p) 0 D) 717 (138 + 36 * p) 0 S 717 (138 + 36 * p) 0 = S := vup_s
    have g8 : vup (vup (vup h2 719 (138 + 36 * p) 0 (bdS a p (toR a p) 23).1) 718 (138 + 36 * p) 0 D) 717 (138 + 36 * p) 0 S 718 (138 + 36 * p) 0 = D := (vup_k (by decide)).trans vup_s
    have g9 : vup (vup (vup h2 719 (138 + 36 * p) 0 (bdS a p (toR a p) 23).1) 718 (138 + 36 * p) 0 D) 717 (138 + 36 * p) 0 S 719 (138 + 36 * p) 0 = (bdS a p (toR a p) 23).1 := (vup_k (by decide)).trans ((vup_k (by decide)).trans vup_s)
    have g2 : ∀ r i, vup (vup (vup h2 719 (138 + 36 * p) 0 (bdS a p (toR a p) 23).1) 718 (138 + 36 * p) 0 D) 717 (138 + 36 * p) 0 S 2 r i = h2 2 r i := fun r i => (vup_k (by decide)).trans ((vup_k (by decide)).trans (vup_k (by decide)))
    have g3 : ∀ r i, vup (vup (vup h2 719 (138 + 36 * p) 0 (bdS a p (toR a p) 23).1) 718 (138 + 36 * p) 0 D) 717 (138 + 36 * p) 0 S 803 r i = h2 803 r i := fun r i => (vup_k (by decide)).trans ((vup_k (by decide)).trans (vup_k (by decide)))
    have d9 : tDr a p (toR a p) 2 329 p = a 2 310 p := by rw [dr_329, if_pos rfl]
    refine cAll_NP N ⟨shPicture_sx X p1, shPicture_sx X p2, ?_, ?_, ?_, fun k s w => ?_⟩
    · rw [g7, g8]
      exact p3.elim (fun w => Or.inr ⟨w.2, w.1⟩) (fun w => Or.inl ⟨w.2, w.1⟩)
    · rw [g9]
      exact vup_s.symm
    · rw [g7, g3, d9]
      exact T2.1
    · rw [d9] at w
      obtain ⟨w1, w2, w3⟩ := T2.2 k s w
      have dn := dN_in g hp t0.1 s
      have d7 : tDr a p (toR a p) 2 327 (24 * p + k) = dN a p (toR a p) k := by rw [dr_327, if_pos (by omega), show 24 * p + k - 24 * p = k by omega]
      have d8 : tDr a p (toR a p) 2 328 (24 * p + k) = dM a p (toR a p) k := by rw [dr_328, if_pos (by omega), show 24 * p + k - 24 * p = k by omega]
      rw [g7, g2, g2, d7, d8]
      refine ⟨w1, w2, fun c s2 t2 => ?_⟩
      rw [g2, dr_326 ⟨s, w⟩ ⟨s2, by omega⟩ t2]
      exact w3 c s2 t2
  · unfold vup
    rw [if_neg (by omega), if_neg (by omega), if_neg (by omega)]
theorem Cq_draw (c : cAll h a) (x0 : iA a) (V : iVs a) : cOut h (tDw a p) (kDw a p) (vDw a p) e2 (vcl mX12_draw [(1, 3), (0, p)] h) := by
  have c0 := cAll_th (k := 0) c
  have x1 : iA (th 0 a) := iA_tk x0
  have V0 : iVs (th 0 a) := V
  by_cases z1 : 0 ≤ p ∧ p < 4
  · obtain ⟨h1, d1, d2, d3, d4⟩ := C_laid c0 x1.1 z1
    have e1 := (rX12_draw_0 (x1 := p) c0.1).trans ((vret_v d1).trans (rX12_draw_5 d3.1 (cAll_sh d3).2 (by omega) (by omega)))
    rw [C_isOpen d3 z1, show th 0 a 2 289 p = a 2 289 p from vup_k (by decide)] at e1
    by_cases z2 : a 2 289 p = 0
    · have k2 : kDw a p = 2 := by unfold kDw; rw [if_pos z1, if_pos z2]
      rw [if_pos z2] at e1
      unfold tDw
      rw [k2, if_neg (by decide)]
      exact cO_eq (e1.trans (vret_x (C_chkState.2 rfl) rfl)) (cO_x (cAll_tk d3) (kR_qC z1 d2) (by decide) rfl)
    · have k0 : kDw a p = 0 := kDw_0.mpr ⟨z1, z2⟩
      rw [if_neg z2] at e1
      unfold tDw
      rw [k0, if_pos rfl]
      have hH : 1 ≤ th 0 a 2 310 p ∧ th 0 a 2 310 p ≤ 24 := hO x1.2.1 z1 z2
      obtain ⟨h2, r1, r2, r3⟩ := C_redraw x1.1 x1.2.1 V0 z1 d3 d4 ⟨by omega, hH.2⟩
      rw [toR_th] at r1 r2
      have e18 := rX12_draw_18 (x1 := p) d3.1 (cAll_sh d3).2 (by omega) (by omega) d4.2.1.1
      rw [C_heightOf d3 z1] at e18
      exact cO_eq (e1.trans ((vret_n (C_chkState.1 (by decide))).trans (e18.trans ((vret_v r1).trans rX12_draw_30)))) (cO_v r2 (KR_tr (kR_qC z1 d2) r3))
  · have k1 : kDw a p = 1 := by unfold kDw; rw [if_neg z1]
    unfold tDw
    rw [k1, if_neg (by decide)]
    exact cO_eq ((rX12_draw_0 c.1).trans (vret_x (C_laidX c z1) rfl)) (cO_x (cAll_th c) cR_rf (by decide) rfl)
end DWC

