/-! put and move -/
section CU2
variable {h h1 a b : vH} {p P l x y : Int}
theorem th_th {j k : Int} : th k (th j a) = th k a := by
  funext q r i
  unfold th vup
  by_cases z : q = 1500 ∧ r = 282 ∧ i = 0
  · rw [if_pos z, if_pos z]
  · rw [if_neg z, if_neg z, if_neg z]
theorem cAll_tk {j k : Int} (c : cAll h (th j a)) : cAll h (th k a) := by
  have := cAll_th (k := k) c
  rw [th_th] at this
  exact this
/-- put -/
noncomputable def kPu (a : vH) (p l x : Int) : Int := if (0 ≤ p ∧ p < 4) ∧ (0 ≤ l ∧ l < a 1504 282 0) then (if 0 ≤ x ∧ x ≤ a 2 284 l then (if a 2 289 p = 0 then 3 else @ite _ (mInv a p l) (Classical.propDecidable _) 3 0) else 2) else 1
noncomputable def tP1 (a : vH) (p l x : Int) : vH := tWn (tGo a p l x) p (cuC (tGo a p l x) p)
noncomputable def tPu (a : vH) (p l x : Int) : vH := if kPu a p l x = 0 then tLk (tP1 (th 0 a) p l x) p else th (kPu a p l x) a
noncomputable def vPu (a : vH) (p l x : Int) : Int := cuR (tLk (tP1 (th 0 a) p l x) p) p
theorem kPu_0 : kPu a p l x = 0 ↔ ((0 ≤ p ∧ p < 4) ∧ (0 ≤ l ∧ l < a 1504 282 0)) ∧ (0 ≤ x ∧ x ≤ a 2 284 l) ∧ ¬ a 2 289 p = 0 ∧ ¬ mInv a p l := by
  unfold kPu
  by_cases z1 : (0 ≤ p ∧ p < 4) ∧ (0 ≤ l ∧ l < a 1504 282 0)
  · by_cases z2 : 0 ≤ x ∧ x ≤ a 2 284 l
    · by_cases z3 : a 2 289 p = 0
      · rw [if_pos z1, if_pos z2, if_pos z3]; exact ⟨fun w => absurd w (by decide), fun w => absurd z3 w.2.2.1⟩
      · by_cases z4 : mInv a p l
        · rw [if_pos z1, if_pos z2, if_neg z3, if_pos z4]; exact ⟨fun w => absurd w (by decide), fun w => absurd z4 w.2.2.2⟩
        · rw [if_pos z1, if_pos z2, if_neg z3, if_neg z4]; exact ⟨fun _ => ⟨z1, z2, z3, z4⟩, fun _ => rfl⟩
    · rw [if_pos z1, if_neg z2]; exact ⟨fun w => absurd w (by decide), fun w => absurd w.2.1 z2⟩
  · rw [if_neg z1]; exact ⟨fun w => absurd w (by decide), fun w => absurd w.1 z1⟩
theorem eqB_P1 : eqB p a (tP1 a p l x) := eqB_tr eqB_go eqB_wn
theorem iG_P1 (g : iG a) (z : isP a (l, x)) : iG (tP1 a p l x) := iG_wn (iG_go g z.1 z.2)
theorem mInv_th {k : Int} : mInv (th k a) p l = mInv a p l := mInv_eq (eqA_sT (a := a) (b := th k a) fine_F).1
theorem Cq_put (c : cAll h a) (g : iG a) (i : iH a) : cOut h (tPu a p l x) (kPu a p l x) (vPu a p l x) e3 (vcl mX12_put [(1, 3), (0, p), (0, l), (0, x)] h) := by
  have gl := g.1.2.1
  have c0 := cAll_th (k := 0) c
  have g0 : iG (th 0 a) := iG_tk g
  have op : th 0 a 2 289 p = a 2 289 p := vup_k (by decide)
  have ln : th 0 a 1504 282 0 = a 1504 282 0 := vup_k (by decide)
  have le : th 0 a 2 284 l = a 2 284 l := vup_k (by decide)
  by_cases z1 : 0 ≤ p ∧ p < 4
  · obtain ⟨h1, d1, d2, d3, d4⟩ := C_laid c0 g0 z1
    have bad : ∀ {X : Option (vR × vH)} {s : String} (k : Int), ¬ k = 0 → kPu a p l x = k → s = e3 k → X = some (.inr s, vexc h1) → cOut h (tPu a p l x) (kPu a p l x) (vPu a p l x) e3 X := by
      intro X s k hk ek es eX
      unfold tPu
      rw [ek, if_neg hk]
      exact cO_eq eX (cO_x (cAll_tk d3) (kR_qC z1 d2) hk es)
    have e1 := (rX12_put_0 (x1 := p) (x2 := l) (x3 := x) c0.1).trans ((vret_v d1).trans (rX12_put_5 d3.1))
    by_cases z2 : 0 ≤ l ∧ l < a 1504 282 0
    · have z2' : 0 ≤ l ∧ l < th 0 a 1504 282 0 := by rw [ln]; exact z2
      obtain ⟨o1, o2, o3⟩ := C_lineOf d3 z2'
      have ex := e1.trans ((vret_v o1).trans (rX12_put_15 o2 d3.1))
      rw [o3, le] at ex
      by_cases z3 : 0 ≤ x ∧ x ≤ a 2 284 l
      · have e4 := ex.trans ((vret_n (C_chkRange.1 z3)).trans (rX12_put_21 d3.1 (cAll_sh d3).2 (by omega) (by omega) d4.2.1.1))
        have mp := mRC_pos g0.1 z1 (l := l) ⟨z2.1, by omega⟩
        rw [mInv_th] at mp
        rw [C_isOpen d3 z1, op, (cRd_F g0.1 d4 z2').1] at e4
        by_cases z4 : a 2 289 p = 0
        · rw [if_pos z4, if_neg (fun w => w.1 rfl)] at e4
          exact bad 3 (by decide) (by unfold kPu; rw [if_pos ⟨z1, z2⟩, if_pos z3, if_pos z4]) rfl (e4.trans (vret_x (C_chkState.2 rfl) rfl))
        · rw [if_neg z4] at e4
          by_cases z5 : mInv a p l
          · rw [if_neg (fun w => w.2 (mp.mpr z5))] at e4
            exact bad 3 (by decide) (by unfold kPu; rw [if_pos ⟨z1, z2⟩, if_pos z3, if_neg z4, if_pos z5]) rfl (e4.trans (vret_x (C_chkState.2 rfl) rfl))
          · rw [if_pos ⟨by decide, fun w => z5 (mp.mp w)⟩] at e4
            have k0 : kPu a p l x = 0 := kPu_0.mpr ⟨⟨z1, z2⟩, z3, z4, z5⟩
            unfold tPu
            rw [k0, if_pos rfl]
            have hH : 1 ≤ th 0 a 2 310 p ∧ th 0 a 2 310 p ≤ 24 := hO (iH_th i) z1 (by rw [op]; exact z4)
            have zP : isP (th 0 a) (l, x) := ⟨z2', z3.1, by rw [le]; exact z3.2⟩
            obtain ⟨h2, u1, u2, u3⟩ := C_putCursor g0 z1 (by omega) d4 zP
            have gP := iG_P1 (p := p) g0 zP
            have eH : tP1 (th 0 a) p l x 2 310 p = th 0 a 2 310 p := eqB_P1 2 310 p (by omega)
            have A2 : cAll h2 (tP1 (th 0 a) p l x) := cAll_qC z1 u2 eqB_P1 d3 (cRd_Pan u3) u3.1
            obtain ⟨h3, v1, v2, v3⟩ := C_follow gP z1 (by omega) u3 (H := fX9_heightOf h2 p) (C_heightOf A2 z1) (by rw [eH]; exact hH)
            have A3 : cAll h3 (tLk (tP1 (th 0 a) p l x) p) := cAll_qC z1 v2 eqB_lk A2 (cRd_Pan v3) v3.1
            have gL := iG_lk gP z1 (by rw [eH]; exact hH)
            obtain ⟨h4, w1, w2, w3⟩ := C_cursorRow gL z1 (by omega) v3
            exact cO_eq (e4.trans ((vret_n (C_chkState.1 (by decide))).trans ((rX12_put_50 d4.2.1.1).trans ((vret_n u1).trans ((rX12_put_57 A2.1 (cAll_sh A2).2 (by omega) (by omega) u3.2.1.1).trans ((vret_n v1).trans ((rX12_put_70 v3.2.1.1).trans ((vret_v w1).trans rX12_put_75)))))))) (cO_v (cAll_qM z1 w2 A3 w3) (kR_qC z1 (qC_tr d2 (qC_tr u2 (qC_tr v2 (qM_C w2))))))
      · exact bad 2 (by decide) (by unfold kPu; rw [if_pos ⟨z1, z2⟩, if_neg z3]) rfl (ex.trans (vret_x (C_chkRange.2 z3) rfl))
    · exact bad 1 (by decide) (by unfold kPu; rw [if_neg (fun w => z2 w.2)]) rfl (e1.trans (vret_x (C_lineOfX d3 (by rw [ln]; exact z2)) rfl))
  · have k1 : kPu a p l x = 1 := by unfold kPu; rw [if_neg (fun w => z1 w.1)]
    unfold tPu
    rw [k1, if_neg (by decide)]
    exact cO_eq ((rX12_put_0 c.1).trans (vret_x (C_laidX c z1) rfl)) (cO_x (cAll_th c) cR_rf (by decide) rfl)
theorem iX_put (g : iG a) (i : iH a) : iG (tPu a p l x) ∧ iH (tPu a p l x) := by
  unfold tPu
  by_cases z : kPu a p l x = 0
  · obtain ⟨z1, z2, z3, z4⟩ := kPu_0.mp z
    have hH : 1 ≤ th 0 a 2 310 p ∧ th 0 a 2 310 p ≤ 24 := hO (iH_th i) z1.1 (by unfold th; rw [vup_k (by decide)]; exact z3)
    have zP : isP (th 0 a) (l, x) := ⟨⟨z1.2.1, by unfold th; rw [vup_k (by decide)]; exact z1.2.2⟩, z2.1, by unfold th; rw [vup_k (by decide)]; exact z2.2⟩
    have eH : tP1 (th 0 a) p l x 2 310 p = th 0 a 2 310 p := eqB_P1 2 310 p (by omega)
    rw [if_pos z]
    exact ⟨iG_lk (iG_P1 (iG_tk g) zP) z1.1 (by rw [eH]; exact hH), iH_B (eqB_tr eqB_P1 eqB_lk) (iH_th i)⟩
  · rw [if_neg z]
    exact ⟨iG_tk g, iH_th i⟩
end CU2

