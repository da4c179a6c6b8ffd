/-! move and play as calls -/
section MPL
variable {h h1 a b : vH} {p P l x y mv : Int}
/-- move -/
def kMv (a : vH) (p mv : Int) : Int := if 0 ≤ p ∧ p < 4 then (if 0 ≤ mv ∧ mv ≤ 7 then (if a 2 289 p = 0 then 3 else 0) else 2) else 1
noncomputable def tMv (a : vH) (p mv : Int) : vH := if kMv a p mv = 0 then tMk (tLg (th 0 a) p mv) p mv else th (kMv a p mv) a
noncomputable def vMv (a : vH) (p mv : Int) : Int := mvd (tLg (th 0 a) p mv) p mv
theorem kMv_0 : kMv a p mv = 0 ↔ (0 ≤ p ∧ p < 4) ∧ (0 ≤ mv ∧ mv ≤ 7) ∧ ¬ a 2 289 p = 0 := by
  unfold kMv
  by_cases z1 : 0 ≤ p ∧ p < 4
  · by_cases z2 : 0 ≤ mv ∧ mv ≤ 7
    · by_cases z3 : a 2 289 p = 0
      · rw [if_pos z1, if_pos z2, if_pos z3]; exact ⟨fun w => absurd w (by decide), fun w => absurd z3 w.2.2⟩
      · rw [if_pos z1, if_pos z2, if_neg z3]; exact ⟨fun _ => ⟨z1, z2, z3⟩, fun _ => rfl⟩
    · rw [if_pos z1, if_neg z2]; exact ⟨fun w => absurd w (by decide), fun w => absurd w.2.1 z2⟩
  · rw [if_neg z1]; exact ⟨fun w => absurd w (by decide), fun w => absurd w.1 z1⟩
theorem lg_h {q : Int} : tLg a p mv 2 310 q = a 2 310 q := by
  unfold tLg
  split
  · rw [if_neg (by omega), if_neg (by omega), if_neg (by omega)]
  · rw [if_neg (by omega), if_neg (by omega), if_neg (by omega)]
theorem cRd_of (c : cAll h a) (hp : 0 ≤ p ∧ p < 4) (n : h 714 (138 + 36 * p) 0 = 1) : cRd h a p (138 + 36 * p) := by
  obtain ⟨k1, k2, k3⟩ := (c.2.2.1 p hp.1 hp.2).2.1
  exact ⟨c.2.1, k1, k2, k3, n⟩
theorem mvd_01 : mvd a p mv = 0 ∨ mvd a p mv = 1 := b2i_01
theorem Cq_move (c : cAll h a) (g : iG a) (i : iH a) : cOut h (tMv a p mv) (kMv a p mv) (vMv a p mv) e3 (vcl mX12_move [(1, 3), (0, p), (0, mv)] h) := by
  have c0 := cAll_th (k := 0) c
  have g0 : iG (th 0 a) := iG_tk g
  have op : th 0 a 2 289 p = a 2 289 p := vup_k (by decide)
  by_cases z1 : 0 ≤ p ∧ p < 4
  · obtain ⟨h1, d1, d2, d3, d4⟩ := C_laid c0 g0 z1
    have bad : ∀ {X : Option (vR × vH)} {s : String} (k : Int), ¬ k = 0 → kMv a p mv = k → s = e3 k → X = some (.inr s, vexc h1) → cOut h (tMv a p mv) (kMv a p mv) (vMv a p mv) e3 X := by
      intro X s k hk ek es eX
      unfold tMv
      rw [ek, if_neg hk]
      exact cO_eq eX (cO_x (cAll_tk d3) (kR_qC z1 d2) hk es)
    have e1 := (rX12_move_0 (x1 := p) (x2 := mv) c0.1).trans ((vret_v d1).trans (rX12_move_5 d3.1))
    by_cases z2 : 0 ≤ mv ∧ mv ≤ 7
    · have ex := e1.trans ((vret_n (C_chkRange.1 z2)).trans (rX12_move_14 d3.1 (cAll_sh d3).2 (by omega) (by omega)))
      rw [C_isOpen d3 z1, op] at ex
      by_cases z3 : a 2 289 p = 0
      · rw [if_pos z3] at ex
        exact bad 3 (by decide) (by unfold kMv; rw [if_pos z1, if_pos z2, if_pos z3]) rfl (ex.trans (vret_x (C_chkState.2 rfl) rfl))
      · rw [if_neg z3] at ex
        have k0 : kMv a p mv = 0 := kMv_0.mpr ⟨z1, z2, z3⟩
        unfold tMv
        rw [k0, if_pos rfl]
        obtain ⟨h2, u1, u2, u3⟩ := C_logMove (p := p) (mv := mv) d3 g0
        have gL : iG (tLg (th 0 a) p mv) := iG_L eqL_lg g0
        have hH : 1 ≤ tLg (th 0 a) p mv 2 310 p ∧ tLg (th 0 a) p mv 2 310 p ≤ 24 := by
          rw [lg_h]
          exact hO (iH_th i) z1 (by rw [op]; exact z3)
        have r2 := cRd_of u2 z1 ((u3 _ _ _ (by omega)).trans d4.2.2.2.2)
        have K2 : kR h h2 ∧ h2 4 0 0 = h 4 0 0 ∧ h2 5 0 0 = h 5 0 0 := by
          obtain ⟨k1, k2, k3⟩ := kR_qC z1 d2
          exact ⟨fun k r i w => (u3 k r i (by omega)).trans (k1 k r i w), (u3 _ _ _ (by omega)).trans k2, (u3 _ _ _ (by omega)).trans k3⟩
        have KK : ∀ {h3 : vH}, qC (138 + 36 * p) h2 h3 → kR h h3 ∧ h3 4 0 0 = h 4 0 0 ∧ h3 5 0 0 = h 5 0 0 := by
          intro h3 w
          obtain ⟨k1, k2, k3⟩ := kR_qC z1 w
          exact ⟨fun k r i v => (k1 k r i v).trans (K2.1 k r i v), k2.trans K2.2.1, k3.trans K2.2.2⟩
        obtain ⟨h3, v1, v2, v3, h4, w1, w2, w3⟩ := C_goFollow gL z1 (by omega) r2 (H := fX9_heightOf h2 p) (C_heightOf u2 z1) hH z2
        have e5 := ex.trans ((vret_n (C_chkState.1 (by decide))).trans ((rX12_move_26 d3.1).trans ((vret_n u1).trans ((rX12_move_32 u2.1 (cAll_sh u2).2 (by omega) (by omega) r2.2.1.1).trans ((vret_v v1).trans (rX12_move_49 (fun _ => b2i_01) v3.2.1.1))))))
        by_cases m : mvd (tLg (th 0 a) p mv) p mv = 0
        · rw [if_pos m] at e5
          have eT : tMk (tLg (th 0 a) p mv) p mv = tM2 (tLg (th 0 a) p mv) p mv := if_pos m
          rw [eT]
          exact cO_eq e5 (cO_v (cAll_qC z1 v2 eqB_M2 u2 (cRd_Pan v3) v3.1) (KK v2))
        · rw [if_neg m] at e5
          have eT : tMk (tLg (th 0 a) p mv) p mv = tLk (tM2 (tLg (th 0 a) p mv) p mv) p := if_neg m
          rw [eT]
          exact cO_eq (e5.trans ((vret_n w1).trans (rX12_move_62 b2i_01))) (cO_v (cAll_qC z1 w2 (eqB_tr eqB_M2 eqB_lk) u2 (cRd_Pan w3) w3.1) (KK w2))
    · exact bad 2 (by decide) (by unfold kMv; rw [if_pos z1, if_neg z2]) rfl (e1.trans (vret_x (C_chkRange.2 z2) rfl))
  · have k1 : kMv a p mv = 1 := by unfold kMv; rw [if_neg z1]
    unfold tMv
    rw [k1, if_neg (by decide)]
    exact cO_eq ((rX12_move_0 c.1).trans (vret_x (C_laidX c z1) rfl)) (cO_x (cAll_th c) cR_rf (by decide) rfl)
theorem iX_move (g : iG a) (i : iH a) : iG (tMv a p mv) ∧ iH (tMv a p mv) := by
  unfold tMv
  by_cases z : kMv a p mv = 0
  · obtain ⟨z1, z2, z3⟩ := kMv_0.mp z
    have hH : 1 ≤ tLg (th 0 a) p mv 2 310 p ∧ tLg (th 0 a) p mv 2 310 p ≤ 24 := by
      rw [lg_h]
      exact hO (iH_th i) z1 (by unfold th; rw [vup_k (by decide)]; exact z3)
    rw [if_pos z]
    exact ⟨iG_Mk (iG_L eqL_lg (iG_tk g)) z1 hH, iH_B eqB_Mk (iH_lg (iH_th i) z1 z2)⟩
  · rw [if_neg z]
    exact ⟨iG_tk g, iH_th i⟩
/-- play -/
noncomputable def plH (A : vH) (fr to : Int) : Nat → Int → vH → Int → vH × Int
  | 0, _, b, n => (b, n)
  | f + 1, k, b, n => if A 2 334 k = fr then plH A fr to f (k + 1) (tMk b to (A 2 335 k)) (n + mvd b to (A 2 335 k)) else plH A fr to f (k + 1) b n
def kPy (a : vH) (fr to : Int) : Int := if (0 ≤ fr ∧ fr < 4) ∧ (0 ≤ to ∧ to < 4) then (if a 2 289 to = 0 then 2 else 0) else 1
noncomputable def plA (a : vH) (fr to : Int) : vH × Int := plH (th 0 a) fr to (a 1559 282 0).toNat 0 (th 0 a) 0
noncomputable def tPy (a : vH) (fr to : Int) : vH := if kPy a fr to = 0 then (plA a fr to).1 else th (kPy a fr to) a
noncomputable def vPy (a : vH) (fr to : Int) : Int := (plA a fr to).2
theorem kPy_0 {fr to : Int} : kPy a fr to = 0 ↔ ((0 ≤ fr ∧ fr < 4) ∧ (0 ≤ to ∧ to < 4)) ∧ ¬ a 2 289 to = 0 := by
  unfold kPy
  by_cases z1 : (0 ≤ fr ∧ fr < 4) ∧ (0 ≤ to ∧ to < 4)
  · by_cases z3 : a 2 289 to = 0
    · rw [if_pos z1, if_pos z3]; exact ⟨fun w => absurd w (by decide), fun w => absurd z3 w.2⟩
    · rw [if_pos z1, if_neg z3]; exact ⟨fun _ => ⟨z1, z3⟩, fun _ => rfl⟩
  · rw [if_neg z1]; exact ⟨fun w => absurd w (by decide), fun w => absurd w.1 z1⟩
theorem plH_in {A : vH} {fr to : Int} (iA : iH A) (ht : 0 ≤ to ∧ to < 4) (ho : ¬ A 2 289 to = 0) : ∀ (f : Nat) (k : Int) (b : vH) (n : Int), k + f = A 1559 282 0 → 0 ≤ k → iG b → eqB to A b → iG (plH A fr to f k b n).1 ∧ eqB to A (plH A fr to f k b n).1
  | 0, _, _, _, _, _, g, y => ⟨g, y⟩
  | f + 1, k, b, n, hk, h0, g, y => by
    have e : plH A fr to (f + 1) k b n = if A 2 334 k = fr then plH A fr to f (k + 1) (tMk b to (A 2 335 k)) (n + mvd b to (A 2 335 k)) else plH A fr to f (k + 1) b n := rfl
    rw [e]
    split
    · have hH := hO (iH_B y iA) ht (by rw [y 2 289 to (by omega)]; exact ho)
      exact plH_in iA ht ho f (k + 1) _ _ (by omega) (by omega) (iG_Mk g ht hH) (eqB_tr y eqB_Mk)
    · exact plH_in iA ht ho f (k + 1) b n (by omega) (by omega) g y
theorem Cq_play {fr to : Int} (c : cAll h a) (g : iG a) (i : iH a) : cOut h (tPy a fr to) (kPy a fr to) (vPy a fr to) e2 (vcl mX12_play [(1, 3), (0, fr), (0, to)] h) := by
  have c0 := cAll_th (k := 0) c
  have g0 : iG (th 0 a) := iG_tk g
  have it : iH (th 0 a) := iH_th i
  have op : th 0 a 2 289 to = a 2 289 to := vup_k (by decide)
  by_cases z0 : 0 ≤ fr ∧ fr < 4
  · have e0 := (rX12_play_0 (x1 := fr) (x2 := to) c.1).trans ((vret_n (C_chkPane.1 z0)).trans (rX12_play_5 c.1))
    by_cases z1 : 0 ≤ to ∧ to < 4
    · obtain ⟨h1, d1, d2, d3, d4⟩ := C_laid c0 g0 z1
      have e1 := e0.trans ((vret_v d1).trans (rX12_play_10 d3.1 (cAll_sh d3).2 (by omega) (by omega)))
      rw [C_isOpen d3 z1, op] at e1
      by_cases z3 : a 2 289 to = 0
      · rw [if_pos z3] at e1
        have k2 : kPy a fr to = 2 := by unfold kPy; rw [if_pos ⟨z0, z1⟩, if_pos z3]
        unfold tPy
        rw [k2, if_neg (by decide)]
        exact cO_eq (e1.trans (vret_x (C_chkState.2 rfl) rfl)) (cO_x (cAll_tk d3) (kR_qC z1 d2) (by decide) rfl)
      · rw [if_neg z3] at e1
        have k0 : kPy a fr to = 0 := kPy_0.mpr ⟨⟨z0, z1⟩, z3⟩
        have ho : ¬ th 0 a 2 289 to = 0 := by rw [op]; exact z3
        have ln := it.2.2.2.2.1
        unfold tPy
        rw [k0, if_pos rfl]
        obtain ⟨l1, l2, l3, l4⟩ := d3.2.2.2.2.1
        have l1 : h1 1405 3 0 = th 0 a 1559 282 0 := l1
        have l3 : 0 ≤ h1 1406 3 0 ∧ h1 1406 3 0 < 50 := l3
        have l4 : ∀ j, 0 ≤ j → j < th 0 a 1559 282 0 → h1 2 134 ((h1 1406 3 0 + 50 - th 0 a 1559 282 0 + j) % 50) = th 0 a 2 334 j ∧ h1 2 135 ((h1 1406 3 0 + 50 - th 0 a 1559 282 0 + j) % 50) = th 0 a 2 335 j := l4
        have hg := C_heightOf d3 z1
        have loop : ∀ (f : Nat) (j : Int) (b : vH) (n : Int) (H : vH) (v8 : vv), j + f = th 0 a 1559 282 0 → 0 ≤ j → iG b → eqB to (th 0 a) b → cAll H b → cRd H b to (138 + 36 * to) → qC (138 + 36 * to) h1 H → 0 ≤ n → n ≤ j → ∃ h2, vrun mX12_play 53 [(1, 3), (0, fr), (0, to), (1, 138 + 36 * to), (0, th 0 a 2 310 to), (0, n), (0, h1 1406 3 0 + 50 - th 0 a 1559 282 0), (0, j), v8] [] H = some (.inl (some (0, (plH (th 0 a) fr to f j b n).2)), h2) ∧ cAll h2 (plH (th 0 a) fr to f j b n).1 ∧ qC (138 + 36 * to) h1 h2 := by
          intro f
          induction f with
          | zero =>
            intro j b n H v8 hj h0 gb y cH rH x n0 n1
            have en : H 1405 3 0 = th 0 a 1559 282 0 := (x _ _ _ (by omega)).trans l1
            refine ⟨H, (rX12_play_53 cH.1 (by omega) (by omega) (by omega) (by omega) (by omega) (by omega) (by omega) rH.2.1.1 (by omega) (by omega)).trans ?_, cH, x⟩
            rw [if_pos (by omega)]
            rfl
          | succ f ih =>
            intro j b n H v8 hj h0 gb y cH rH x n0 n1
            have en : H 1405 3 0 = th 0 a 1559 282 0 := (x _ _ _ (by omega)).trans l1
            obtain ⟨o1, o2⟩ := l4 j h0 (by omega)
            have lk := ln.2 j h0 (by omega)
            have p1 : H 2 134 ((h1 1406 3 0 + 50 - th 0 a 1559 282 0 + j) % 50) = th 0 a 2 334 j := (x _ _ _ (by omega)).trans o1
            have p2 : H 2 135 ((h1 1406 3 0 + 50 - th 0 a 1559 282 0 + j) % 50) = th 0 a 2 335 j := (x _ _ _ (by omega)).trans o2
            have e : plH (th 0 a) fr to (f + 1) j b n = if th 0 a 2 334 j = fr then plH (th 0 a) fr to f (j + 1) (tMk b to (th 0 a 2 335 j)) (n + mvd b to (th 0 a 2 335 j)) else plH (th 0 a) fr to f (j + 1) b n := rfl
            have base := rX12_play_53 (x1 := fr) (x2 := to) (x3 := 138 + 36 * to) (x4 := th 0 a 2 310 to) (x5 := n) (x6 := h1 1406 3 0 + 50 - th 0 a 1559 282 0) (x7 := j) (v8 := v8) (h := H) cH.1 (by omega) (by omega) (by omega) (by omega) (by omega) (by omega) (by omega) rH.2.1.1 (by omega) (by omega)
            rw [if_neg (by omega), if_neg (by omega), if_neg (by omega), p1, p2] at base
            rw [e]
            by_cases q : th 0 a 2 334 j = fr
            · rw [if_pos q]
              rw [if_pos q] at base
              have eH : b 2 310 to = th 0 a 2 310 to := y 2 310 to (by omega)
              have hH := hO (iH_B y it) z1 (by rw [y 2 289 to (by omega)]; exact ho)
              obtain ⟨h3, v1, v2, v3, h4, w1, w2, w3⟩ := C_goFollow gb z1 (by omega) rH (H := th 0 a 2 310 to) eH.symm hH lk.2
              have st := base.trans ((vret_v v1).trans (rX12_play_108 (by omega) (by omega) v3.2.1.1))
              have m01 := mvd_01 (a := b) (p := to) (mv := th 0 a 2 335 j)
              by_cases m : mvd b to (th 0 a 2 335 j) = 0
              · rw [if_pos m] at st
                have eT : tMk b to (th 0 a 2 335 j) = tM2 b to (th 0 a 2 335 j) := if_pos m
                obtain ⟨h5, k1, k2, k3⟩ := ih (j + 1) (tM2 b to (th 0 a 2 335 j)) n h3 (0, (h1 1406 3 0 + 50 - th 0 a 1559 282 0 + j) % 50) (by omega) (by omega) (iG_M2 gb z1) (eqB_tr y eqB_M2) (cAll_qC z1 v2 eqB_M2 cH (cRd_Pan v3) v3.1) v3 (qC_tr x v2) n0 (by omega)
                rw [eT, m, Int.add_zero]
                exact ⟨h5, st.trans k1, k2, k3⟩
              · rw [if_neg m] at st
                have eT : tMk b to (th 0 a 2 335 j) = tLk (tM2 b to (th 0 a 2 335 j)) to := if_neg m
                have m1 : mvd b to (th 0 a 2 335 j) = 1 := m01.resolve_left m
                obtain ⟨h5, k1, k2, k3⟩ := ih (j + 1) (tLk (tM2 b to (th 0 a 2 335 j)) to) (n + 1) h4 (0, (h1 1406 3 0 + 50 - th 0 a 1559 282 0 + j) % 50) (by omega) (by omega) (by rw [← eT]; exact iG_Mk gb z1 hH) (eqB_tr y (eqB_tr eqB_M2 eqB_lk)) (cAll_qC z1 w2 (eqB_tr eqB_M2 eqB_lk) cH (cRd_Pan w3) w3.1) w3 (qC_tr x w2) (by omega) (by omega)
                rw [eT, m1]
                exact ⟨h5, st.trans ((vret_n w1).trans ((rX12_play_117 (by omega) (by omega) (by omega) (by omega)).trans k1)), k2, k3⟩
            · rw [if_neg q]
              rw [if_neg q] at base
              obtain ⟨h5, k1, k2, k3⟩ := ih (j + 1) b n H (0, (h1 1406 3 0 + 50 - th 0 a 1559 282 0 + j) % 50) (by omega) (by omega) gb y cH rH x n0 (by omega)
              exact ⟨h5, base.trans k1, k2, k3⟩
        have lt : th 0 a 1559 282 0 = a 1559 282 0 := vup_k (by decide)
        obtain ⟨h2, k1, k2, k3⟩ := loop (a 1559 282 0).toNat 0 (th 0 a) 0 h1 (9, 0) (by omega) (Int.le_refl _) g0 eqB_rf d3 d4 qC_rf (Int.le_refl _) (Int.le_refl _)
        have st := rX12_play_23 (x1 := fr) (x2 := to) (x3 := 138 + 36 * to) (h := h1) d3.1 (cAll_sh d3).2 (by omega) (by omega) (by omega) (by omega) (by omega) (by omega)
        rw [hg, l1] at st
        exact cO_eq (e1.trans ((vret_n (C_chkState.1 (by decide))).trans (st.trans k1))) (cO_v k2 (kR_qC z1 (qC_tr d2 k3)))
    · have k1 : kPy a fr to = 1 := by unfold kPy; rw [if_neg (fun w => z1 w.2)]
      unfold tPy
      rw [k1, if_neg (by decide)]
      exact cO_eq (e0.trans (vret_x (C_laidX c z1) rfl)) (cO_x (cAll_th c) cR_rf (by decide) rfl)
  · have k1 : kPy a fr to = 1 := by unfold kPy; rw [if_neg (fun w => z0 w.1)]
    unfold tPy
    rw [k1, if_neg (by decide)]
    exact cO_eq ((rX12_play_0 c.1).trans (vret_x (C_chkPane.2 z0) rfl)) (cO_x (cAll_th c) cR_rf (by decide) rfl)
theorem iX_play {fr to : Int} (g : iG a) (i : iH a) : iG (tPy a fr to) ∧ iH (tPy a fr to) := by
  unfold tPy
  by_cases z : kPy a fr to = 0
  · obtain ⟨⟨z1, z2⟩, z3⟩ := kPy_0.mp z
    have it : iH (th 0 a) := iH_th i
    have ho : ¬ th 0 a 2 289 to = 0 := by unfold th; rw [vup_k (by decide)]; exact z3
    have lt : th 0 a 1559 282 0 = a 1559 282 0 := vup_k (by decide)
    have ln := it.2.2.2.2.1.1
    rw [if_pos z]
    obtain ⟨q1, q2⟩ := plH_in (fr := fr) it z2 ho (a 1559 282 0).toNat 0 (th 0 a) 0 (by omega) (Int.le_refl _) (iG_tk g) eqB_rf
    exact ⟨q1, iH_B q2 it⟩
  · rw [if_neg z]
    exact ⟨iG_tk g, iH_th i⟩
end MPL

