/-! cell -/
section CEL
variable {h h1 a b : vH} {p r i w : Int}
noncomputable def ceI (a : vH) (p r i : Int) : Int := lS (sg (mCL a p (mLn a p r))) (mCL a p (mLn a p r)).length (a 2 286 p) (a 2 287 p) (rS a p (mLn a p r) (rwJ a p r) + i)
noncomputable def ceV (L : List Clu) (W d z w : Int) : Int := if w = 0 then sg L z else (if w = 1 then mn L z else (if w = 2 then lC (sg L) L.length W d z else (if w = 3 then lW (sg L) L.length W d z else (if w = 4 then lV (sg L) L.length W d z else bg L z))))
noncomputable def vCe (a : vH) (p r i w : Int) : Int := ceV (mCL a p (mLn a p r)) (a 2 286 p) (a 2 287 p) (ceI a p r i) w
noncomputable def kCe (a : vH) (p r i w : Int) : Int := @ite _ ((0 ≤ p ∧ p < 4) ∧ isRw a p r) (Classical.propDecidable _) (if 0 ≤ i ∧ i < vCt a p r then (if 0 ≤ w ∧ w ≤ 5 then 0 else 2) else 1) 1
theorem vCe_eq (y : pR a b) : vCe b p r i w = vCe a p r i w := by
  unfold vCe ceI
  rw [mLn_eq y, rwJ_eq y, rS_eq y, mCL_eq y, y 286 _ (by decide) (by decide), y 287 _ (by decide) (by decide)]
theorem kCe_eq (y : eqA a b) : kCe b p r i w = kCe a p r i w := by
  unfold kCe
  rw [vCt_eq y.1]
  by_cases z : (0 ≤ p ∧ p < 4) ∧ isRw a p r
  · rw [if_pos z, if_pos ⟨z.1, (isRw_eq y).mpr z.2⟩]
  · rw [if_neg z, if_neg (fun w => z ⟨w.1, (isRw_eq y).mp w.2⟩)]
theorem Mq_cell (g : iG h) : mOut h (kCe h p r i w) (vCe h p r i w) (vcl mX13_cell [(1, 282), (0, p), (0, r), (0, i), (0, w)] h) := by
  obtain ⟨h1, i1, i2⟩ := M_isRow g.1 (p := p) (r := r)
  have g1 := iG_sc i2 g
  have e0 := (rX13_cell_0 (x1 := p) (x2 := r) (x3 := i) (x4 := w) g.1.1).trans ((vret_v i1).trans (rX13_cell_6 g1.1.1 (fun a b => absurd a b) (fun a b => absurd a b) (fun a b => absurd a b)))
  by_cases z : (0 ≤ p ∧ p < 4) ∧ isRw h p r
  · rw [b2i_t z, if_neg (show ¬ ((1 : Int) = 0) by decide)] at e0
    have y := eqA_sc i2
    have z2 := (isRw_eq y).mpr z.2
    obtain ⟨l1, j1, j2, v, r7⟩ := rw_in g1.1 z.1 z2
    obtain ⟨h2, R, d1, d2, d3, d4, d5⟩ := M_laysRow g1.1 z.1 z2 (by omega)
    rw [← vCe_eq y.1, ← kCe_eq y]
    rw [← j1] at d1 d4 d5
    have f2 := mF_tr i2 d2
    have g2 := iG_sc d2 g1
    have hL : mCL h1 p (mLn h1 p r) = mCL h1 p (mLn h1 p r) := rfl
    generalize eL : mCL h1 p (mLn h1 p r) = L at d3 hL
    generalize eW : h1 2 286 p = W at d3
    generalize eD : h1 2 287 p = d at d3
    have eR : ∀ j : Nat, rS h1 p (mLn h1 p r) j = rSt (sg L) L.length W d j := fun j => by unfold rS; rw [eL, eW, eD]
    have eC : vCt h1 p r = rSt (sg L) L.length W d (rwJ h1 p r + 1) - rSt (sg L) L.length W d (rwJ h1 p r) := by unfold vCt; rw [eR, eR]
    have eI : ceI h1 p r i = lS (sg L) L.length W d (rSt (sg L) L.length W d (rwJ h1 p r) + i) := by unfold ceI; rw [eR, eL, eW, eD]
    have q0 := mQ_in d3 (rwJ h1 p r)
    obtain ⟨c1, ⟨c2, c2b⟩, c3, c4, c5, c6, c7, c8, c9⟩ := d3
    have s0 := c4 (rwJ h1 p r) (by omega)
    have s1 := c4 (rwJ h1 p r + 1) (by omega)
    rw [show ((rwJ h1 p r + 1 : Nat) : Int) = (rwJ h1 p r : Int) + 1 by omega] at s1
    have e1 := e0.trans ((vret_v d1).trans (rX13_cell_19 (x5 := 1) g2.1.1 (by omega) (by omega) (by omega) (by omega) (by omega) (by omega) (by omega) (by omega) (by omega)))
    have ek : (if ¬ ((1 : Int) = 0) ∧ ¬ (i < 0) ∧ ¬ (h2 2 320 ((rwJ h1 p r : Int) + 1) - h2 2 320 (rwJ h1 p r : Int) - 1 < i) then (if ¬ (w < 0) ∧ ¬ (5 < w) then (0 : Int) else 2) else 1) = kCe h1 p r i w := by
      unfold kCe
      rw [if_pos (⟨z.1, z2⟩ : (0 ≤ p ∧ p < 4) ∧ isRw h1 p r), eC, s0, s1]
      by_cases u : 0 ≤ i ∧ i < rSt (sg L) L.length W d (rwJ h1 p r + 1) - rSt (sg L) L.length W d (rwJ h1 p r)
      · rw [if_pos u, if_pos (by omega)]
        split <;> split <;> omega
      · rw [if_neg u, if_neg (by omega)]
    rw [ek] at e1
    by_cases k : kCe h1 p r i w = 0
    · have u : 0 ≤ i ∧ i < rSt (sg L) L.length W d (rwJ h1 p r + 1) - rSt (sg L) L.length W d (rwJ h1 p r) := by
        unfold kCe at k
        rw [if_pos (⟨z.1, z2⟩ : (0 ≤ p ∧ p < 4) ∧ isRw h1 p r), eC] at k
        exact Classical.byContradiction (fun n => by rw [if_neg n] at k; omega)
      have f3 : mF sA sT h (vup h2 1500 282 0 0) := mF_tr (sT_of f2) fine_F
      have eH : ∀ q : Int, vup h2 1500 282 0 0 2 q = h2 2 q := fun q => th_e (k := 0) q
      have pf := (row_f c6 c7.1 c2 c2b (rwJ h1 p r)).1 (rSt (sg L) L.length W d (rwJ h1 p r) + i) (by omega) (by omega)
      have cs := (c5 (rSt (sg L) L.length W d (rwJ h1 p r) + i) (by omega) (by omega)).2.2.1
      generalize lS (sg L) L.length W d (rSt (sg L) L.length W d (rwJ h1 p r) + i) = Z at *
      have sh : vup h2 1500 282 0 0 2 320 (rwJ h1 p r : Int) = rSt (sg L) L.length W d (rwJ h1 p r) := by rw [eH, s0]
      have sc : vup h2 1500 282 0 0 2 319 (vup h2 1500 282 0 0 2 320 (rwJ h1 p r : Int) + i) = Z := by rw [sh, eH, cs]
      have last := rX13_cell_92 (x1 := p) (x2 := r) (x3 := i) (x4 := w) (x5 := (if ¬ ((1 : Int) = 0) ∧ ¬ (i < 0) ∧ ¬ (h2 2 320 ((rwJ h1 p r : Int) + 1) - h2 2 320 (rwJ h1 p r : Int) - 1 < i) then 1 else 0)) (x6 := (rwJ h1 p r : Int)) (y0 := 1) (h := vup h2 1500 282 0 0) (iG_th (k := 0) g2).1.1 (by omega) (by omega) (by omega) (by omega) (by omega) (by omega) (by omega) (by omega) (by omega) (by omega) (by omega) (by omega) (by omega) (by omega) (by omega) (by omega) (by omega) (by omega)
      rw [if_neg (show ¬ ((1 : Int) = 0) by decide)] at last
      rw [k] at e1 ⊢
      refine mO_eq (e1.trans ((fine1 g2.1.1).trans last)) (mO_g f3 vup_s (fun _ => ?_))
      obtain ⟨t1, t2, t3, -⟩ := mCl_g c1 (k := Z) (by omega) (by omega)
      obtain ⟨w1, w2, w3, w4, w5⟩ := c5 Z (by omega) (by omega)
      unfold vCe ceV
      rw [sc, eL, eW, eD, eI, eH, eH, eH, eH, eH, eH, t1, t2, t3, w1, w2, w4]
    · have f3 : mF sA sT h (vup h2 1500 282 0 (kCe h1 p r i w)) := mF_tr (sT_of f2) fine_F
      exact mO_eq (e1.trans ((fine0 g2.1.1 k).trans ((rX13_cell_92 (iG_th g2).1.1 (by omega) (by omega) (by omega) (by omega) (by omega) (by omega) (by omega) (by omega) (by omega) (by omega) (by omega) (by omega) (by omega) (by omega) (by omega) (by omega) (by omega) (by omega)).trans (if_pos rfl)))) (mO_g f3 vup_s (fun w => absurd w k))
  · have k1 : kCe h p r i w = 1 := if_neg z
    rw [b2i_f z, if_pos (show (0 : Int) = 0 from rfl), if_neg (show ¬ (¬ ((0 : Int) = 0) ∧ ¬ (i < 0) ∧ ¬ (h1 2 320 1 - h1 2 320 0 - 1 < i)) by omega), if_neg (show ¬ (¬ ((0 : Int) = 0) ∧ ¬ (i < 0) ∧ ¬ (h1 2 320 1 - h1 2 320 0 - 1 < i)) by omega)] at e0
    have f3 : mF sA sT h (vup h1 1500 282 0 1) := mF_tr (sT_of i2) fine_F
    rw [k1]
    exact mO_eq (e0.trans ((fine0 g1.1.1 (by decide)).trans ((rX13_cell_92 (iG_th g1).1.1 (by omega) (by omega) (by omega) (by omega) (by omega) (by omega) (by omega) (by omega) (by omega) (by omega) (by omega) (by omega) (by omega) (by omega) (by omega) (by omega) (by omega) (by omega)).trans (if_pos rfl)))) (mO_g f3 vup_s (fun w => absurd w (by decide)))
end CEL
