/-! type -/
section TYP
variable {h h1 h2 a b : vH} {p P l x s n : Int}
theorem iV_B (z : eqB p a b) (V : iV n a) : iV n b := fun k u v => by
  obtain ⟨v1, v2, v3, v4, v5, v6, v7⟩ := V k u v
  have e : ∀ r i : Int, ¬ (305 ≤ r ∧ r ≤ 309) → b 2 r i = a 2 r i := fun r i w => z 2 r i (by omega)
  rw [e 294 _ (by decide), e 295 _ (by decide), e 296 _ (by decide), e 298 _ (by decide), e 299 _ (by decide), e 302 _ (by decide), e 303 _ (by decide), e 284 _ (by decide), e 284 _ (by decide), z 1504 _ _ (by omega)]
  exact ⟨v1, v2, v3, v4, v5, v6, v7⟩
theorem iM_Bq (z : eqB p a b) (m : iM a) : iM b := fun i u v => by
  rw [z 1504 _ _ (by omega)] at v
  rw [z 2 285 _ (by omega)]
  exact m i u v
theorem iC_Bq (z : eqB p a b) (m : iC a) : iC b := fun i u v => by
  rw [z 2 304 _ (by omega)]
  exact m i u v
theorem cuL_th : cuL (th 0 a) p = cuL a p := cuL_eq (eqA_sT (a := a) (b := th 0 a) fine_F).1 (eqC_sT fine_F)
theorem cuX_th : cuX (th 0 a) p = cuX a p := cuX_eq (eqA_sT (a := a) (b := th 0 a) fine_F).1 (eqC_sT fine_F)
/-- the reference when a sign is typed -/
noncomputable def tT0 (a : vH) (p s : Int) : vH := tCm (th 0 a) (cuL a p) (cuX a p) s
noncomputable def tT1 (a : vH) (p s : Int) : vH := tLk (tP1 (tT0 a p s) p (cuL a p) (cuX a p + 1)) p
noncomputable def kTy (a : vH) (p s : Int) : Int := if 0 ≤ p ∧ p < 4 then @ite _ (sgOk s) (Classical.propDecidable _) (if a 2 289 p = 0 then 3 else if a 2 284 (cuL a p) = 80 then 3 else 0) 2 else 1
theorem kTy_0 : kTy a p s = 0 ↔ (0 ≤ p ∧ p < 4) ∧ sgOk s ∧ ¬ a 2 289 p = 0 ∧ ¬ a 2 284 (cuL a p) = 80 := by
  unfold kTy
  by_cases z1 : 0 ≤ p ∧ p < 4
  · by_cases z2 : sgOk s
    · by_cases z3 : a 2 289 p = 0
      · rw [if_pos z1, if_pos z2, if_pos z3]; exact ⟨fun w => absurd w (by decide), fun w => absurd z3 w.2.2.1⟩
      · by_cases z4 : a 2 284 (cuL a p) = 80
        · rw [if_pos z1, if_pos z2, if_neg z3, if_pos z4]; exact ⟨fun w => absurd w (by decide), fun w => absurd z4 w.2.2.2⟩
        · rw [if_pos z1, if_pos z2, if_neg z3, if_neg z4]; exact ⟨fun _ => ⟨z1, z2, z3, z4⟩, fun _ => rfl⟩
    · rw [if_pos z1, if_neg z2]; exact ⟨fun w => absurd w (by decide), fun w => absurd w.2.1 z2⟩
  · rw [if_neg z1]; exact ⟨fun w => absurd w (by decide), fun w => absurd w.1 z1⟩
noncomputable def tTy (a : vH) (p s : Int) : vH := if kTy a p s = 0 then tT1 a p s else th (kTy a p s) a
/-- all that holds when a sign has come at the cursor -/
theorem ty_in (x0 : iA a) (V : iV n a) (hn : 0 ≤ n) (k : kTy a p s = 0) : iA (tT0 a p s) ∧ iV n (tT0 a p s) ∧ isP (tT0 a p s) (cuL a p, cuX a p + 1) ∧ (1 ≤ tT0 a p s 2 310 p ∧ tT0 a p s 2 310 p ≤ 24) ∧ (0 ≤ cuL a p ∧ cuL a p < th 0 a 1504 282 0) ∧ (0 ≤ cuX a p ∧ cuX a p ≤ th 0 a 2 284 (cuL a p)) ∧ th 0 a 2 284 (cuL a p) < 80 := by
  obtain ⟨z1, z2, z3, z4⟩ := kTy_0.mp k
  have c := cu_in x0.1 z1
  have x1 : iA (th 0 a) := iA_tk x0
  have gl := x0.1.1.2.1
  have l80 := x0.1.1.2.2.1 (cuL a p) c.1.1 (by omega)
  have y1 : 0 ≤ cuL a p ∧ cuL a p < th 0 a 1504 282 0 := c.1
  have y2 : 0 ≤ cuX a p ∧ cuX a p ≤ th 0 a 2 284 (cuL a p) := c.2.1
  have y3 : th 0 a 2 284 (cuL a p) < 80 := by show a 2 284 (cuL a p) < 80; have : ¬ a 2 284 (cuL a p) = 80 := z4; omega
  have eH : tT0 a p s 2 310 p = a 2 310 p := cm_o (by decide)
  refine ⟨⟨iG_cm x1.1 y1 y2 y3, iH_cm x1.1 x1.2.1 (sgOk_in z2) y1 y2 y3, iM_cm x1.2.2.1, iC_cm x1.2.2.2⟩, iV_cm (a := th 0 a) V y2 hn, ⟨?_, ?_⟩, by rw [eH]; exact hO x0.2.1 z1 z3, y1, y2, y3⟩
  · show 0 ≤ cuL a p ∧ cuL a p < tT0 a p s 1504 282 0
    have e : tT0 a p s 1504 282 0 = th 0 a 1504 282 0 := cm_o (by decide)
    rw [e]
    exact y1
  · show 0 ≤ cuX a p + 1 ∧ cuX a p + 1 ≤ tT0 a p s 2 284 (cuL a p)
    have e : tT0 a p s 2 284 (cuL a p) = th 0 a 2 284 (cuL a p) + 1 := cm_l.trans (if_pos rfl)
    rw [e]
    omega
theorem eqB_T1 : eqB p (tT0 a p s) (tT1 a p s) := eqB_tr eqB_P1 eqB_lk
theorem iX_type (x0 : iA a) (V : iV n a) (hn : 0 ≤ n) : iA (tTy a p s) ∧ iV n (tTy a p s) := by
  unfold tTy
  by_cases k : kTy a p s = 0
  · rw [if_pos k]
    obtain ⟨x1, V1, P1, H1, -⟩ := ty_in x0 V hn k
    have z1 := (kTy_0.mp k).1
    have eH : tP1 (tT0 a p s) p (cuL a p) (cuX a p + 1) 2 310 p = tT0 a p s 2 310 p := eqB_P1 2 310 p (by omega)
    exact ⟨⟨iG_lk (iG_P1 x1.1 P1) z1 (by rw [eH]; exact H1), iH_B eqB_T1 x1.2.1, iM_Bq eqB_T1 x1.2.2.1, iC_Bq eqB_T1 x1.2.2.2⟩, iV_B eqB_T1 V1⟩
  · rw [if_neg k]
    exact ⟨iA_tk x0, V⟩
theorem Cq_type (c : cAll h a) (x0 : iA a) (V : iV n a) (hn : 0 ≤ n ∧ n ≤ 9000) : cOut h (tTy a p s) (kTy a p s) (cuX a p + 1) e3 (vcl mX12_type [(1, 3), (0, p), (0, s)] h) := by
  have g := x0.1
  have gl := g.1.2.1
  have c0 := cAll_th (k := 0) c
  have g0 : iG (th 0 a) := iG_tk g
  by_cases z1 : 0 ≤ p ∧ p < 4
  · obtain ⟨h1, d1, d2, d3, d4⟩ := C_laid c0 g0 z1
    have bad : ∀ {X : Option (vR × vH)} {s' : String} (k : Int), ¬ k = 0 → kTy a p s = k → s' = e3 k → X = some (.inr s', vexc h1) → cOut h (tTy a p s) (kTy a p s) (cuX a p + 1) e3 X := by
      intro X s' k hk ek es eX
      unfold tTy
      rw [ek, if_neg hk]
      exact cO_eq eX (cO_x (cAll_tk d3) (kR_qC z1 d2) hk es)
    have cu := cu_in g z1
    have cuP := g.2 p z1.1 z1.2
    have e1 := (rX12_type_0 (x1 := p) (x2 := s) c0.1).trans ((vret_v d1).trans (rX12_type_5 d3.1))
    by_cases z2 : sgOk s
    · have pl := d4.2.1.2.2.1
      have cl : 0 ≤ th 0 a 2 305 p ∧ th 0 a 2 305 p < th 0 a 1504 282 0 := ⟨cuP.2.2.2.1.1, cuP.2.2.2.1.2.1⟩
      have t1 := C_takenLine g0 z1 d4 (shPane_pl d4.2.1.1).1 pl cl
      have t2 := C_takenAt g0 z1 d4 (shPane_pl d4.2.1.1).1 pl cl
      rw [show vsL (th 0 a) p (th 0 a 2 305 p) = cuL a p from cuL_th] at t1
      rw [show vsX (th 0 a) p (th 0 a 2 305 p) (th 0 a 2 306 p) = cuX a p from cuX_th] at t2
      have e4 := e1.trans ((vret_n (C_chkSign.1 z2)).trans ((rX12_type_11 d4.2.1.1).trans ((vret_v t1).trans ((rX12_type_19 d4.2.1.1).trans ((vret_v t2).trans (rX12_type_29 d3.1 (cAll_sh d3).2 (by omega) (by omega)))))))
      rw [C_isOpen d3 z1, show th 0 a 2 289 p = a 2 289 p from vup_k (by decide)] at e4
      by_cases z4 : a 2 289 p = 0
      · rw [if_pos z4, if_pos rfl] at e4
        exact bad 3 (by decide) (by unfold kTy; rw [if_pos z1, if_pos z2, if_pos z4]) rfl (e4.trans (vret_x (C_chkState.2 rfl) rfl))
      · rw [if_neg z4, if_neg (by decide)] at e4
        obtain ⟨o1, o2, o3⟩ := C_lineOf d3 (l := cuL a p) cu.1
        have e5 := e4.trans ((vret_v o1).trans (rX12_type_49 o2 d3.1))
        rw [show h1 601 (h1 2 5 (cuL a p)) 0 = a 2 284 (cuL a p) from o3] at e5
        have l80 := g.1.2.2.1 (cuL a p) cu.1.1 (by omega)
        by_cases z5 : a 2 284 (cuL a p) = 80
        · rw [if_neg (by omega)] at e5
          exact bad 3 (by decide) (by unfold kTy; rw [if_pos z1, if_pos z2, if_neg z4, if_pos z5]) rfl (e5.trans (vret_x (C_chkState.2 rfl) rfl))
        · rw [if_pos (by omega)] at e5
          have k0 : kTy a p s = 0 := kTy_0.mpr ⟨z1, z2, z4, z5⟩
          unfold tTy
          rw [k0, if_pos rfl]
          obtain ⟨x1, V1, P1, H1, y1, y2, y3⟩ := ty_in x0 V hn.1 k0
          have V0 : iV n (th 0 a) := V
          obtain ⟨h2, u1, u2, u3, u4, u5⟩ := C_putIn (s := s) (cW_of d3) (iG_n6 g0) (iV_bd g0 V0 hn) y1 y2 y3 (fun i u v => (g0.1.2.2.1 i u v).2)
          have el : tT0 a p s 1504 282 0 = th 0 a 1504 282 0 := cm_o (by decide)
          have A := cAll_fgd u2 d3 el u5 (fun q i u v s1 t1 n1 => lnE_cm g0 ⟨u, v⟩ y1 y2 y3 s1 t1 n1)
          -- counted again
          obtain ⟨k1, k2, k3⟩ := (A.2.2.1 p z1.1 z1.2).2.1
          obtain ⟨h3, r1, r2, r3, r4, r5⟩ := C_refresh x1.1 z1 (P := 138 + 36 * p) (by omega) A.2.1 k1 k2 k3
          have F := cFix_qF r2 k1.1 k1
          have T := cTx_qF r2 (by omega) A.2.1
          have A3 : cAll h3 (tT0 a p s) := cAll_qC z1 (qF_C r2) eqB_rf A ⟨F, r3, r4⟩ T
          have R3 : cRd h3 (tT0 a p s) p (138 + 36 * p) := ⟨T, F, r3, r4, r5⟩
          obtain ⟨h4, w1, w2, w3⟩ := C_putCursor x1.1 z1 (by omega) R3 P1
          have gP := iG_P1 (p := p) x1.1 P1
          have eH : tP1 (tT0 a p s) p (cuL a p) (cuX a p + 1) 2 310 p = tT0 a p s 2 310 p := eqB_P1 2 310 p (by omega)
          have A4 : cAll h4 (tP1 (tT0 a p s) p (cuL a p) (cuX a p + 1)) := cAll_qC z1 w2 eqB_P1 A3 (cRd_Pan w3) w3.1
          obtain ⟨h5, v1, v2, v3⟩ := C_follow gP z1 (by omega) w3 (H := fX9_heightOf h4 p) (C_heightOf A4 z1) (by rw [eH]; exact H1)
          have A5 : cAll h5 (tT1 a p s) := cAll_qC z1 v2 eqB_lk A4 (cRd_Pan v3) v3.1
          have sP := (A.2.2.1 p z1.1 z1.2).2.1.1.1
          have KR : kR h h5 ∧ h5 4 0 0 = h 4 0 0 ∧ h5 5 0 0 = h 5 0 0 := by
            have q1 := kR_qC z1 d2
            have q2 := eF_kR u3
            have q3 := kR_qC z1 (qC_tr (qF_C r2) (qC_tr w2 v2))
            exact ⟨fun k r i u => (q3.1 k r i u).trans ((q2.1 k r i u).trans (q1.1 k r i u)), q3.2.1.trans (q2.2.1.trans q1.2.1), q3.2.2.trans (q2.2.2.trans q1.2.2)⟩
          refine cO_eq (e5.trans ((vret_n (C_chkState.1 (by decide))).trans ((rX12_type_65 d3.1).trans ((vret_n u1).trans ((rX12_type_74 sP).trans ((vret_n r1).trans ((rX12_type_78 (by omega) (by omega) F.1).trans ((vret_n w1).trans ((rX12_type_88 A4.1 (cAll_sh A4).2 (by omega) (by omega) w3.2.1.1).trans ((vret_n v1).trans (rX12_type_100 (by omega) (by omega)))))))))))) ?_
          exact cO_v A5 KR
    · exact bad 2 (by decide) (by unfold kTy; rw [if_pos z1, if_neg z2]) rfl (e1.trans (vret_x (C_chkSign.2 z2) rfl))
  · have k1 : kTy a p s = 1 := by unfold kTy; rw [if_neg z1]
    unfold tTy
    rw [k1, if_neg (by decide)]
    exact cO_eq ((rX12_type_0 c.1).trans (vret_x (C_laidX c z1) rfl)) (cO_x (cAll_th c) cR_rf (by decide) rfl)
end TYP

