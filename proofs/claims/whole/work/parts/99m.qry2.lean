/-! more calls that only ask -/
section QR2
variable {h h1 a b : vH} {p P l r x s : Int}
theorem mO_g {k v w : Int} (f : mF sA sT h h1) (t : h1 1500 282 0 = k) (e : k = 0 → w = v) : mOut h k v (some (.inl (some (0, w)), h1)) := ⟨h1, w, rfl, sT2_of f, t, e⟩
theorem th_K {k : Int} (t : h 1500 282 0 = k) (f : mF sA sK h h1) : h1 1500 282 0 = k := (f _ _ _ (by simp) (by simp)).trans t
/-- rowsOf -/
def kPL (a : vH) (p l : Int) : Int := if (0 ≤ p ∧ p < 4) ∧ (0 ≤ l ∧ l < a 1504 282 0) then 0 else 1
theorem isL_0 : fX13_isLine h l = 0 ↔ ¬ (0 ≤ l ∧ l < h 1504 282 0) := by
  by_cases z : 0 ≤ l ∧ l < h 1504 282 0
  · rw [isL_t z]; exact ⟨fun y => absurd y (by decide), fun y => absurd z y⟩
  · rw [isL_f z]; exact ⟨fun _ => z, fun _ => rfl⟩
theorem Mq_rowsOf (g : iG h) : mOut h (kPL h p l) (mRC h p l) (vcl mX13_rowsOf [(1, 282), (0, p), (0, l)] h) := by
  have gl := g.1.2.1
  have e0 := rX13_rowsOf_0 (x1 := p) (x2 := l) (h := h) g.1.1 (by omega) (by omega)
  have ek : (if ¬ (¬ (p < 0) ∧ ¬ (3 < p)) ∨ fX13_isLine h l = 0 then (1 : Int) else 0) = kPL h p l := by
    have i0 := isL_0 (h := h) (l := l)
    unfold kPL
    split <;> split <;> omega
  rw [ek] at e0
  by_cases z : (0 ≤ p ∧ p < 4) ∧ (0 ≤ l ∧ l < h 1504 282 0)
  · have k0 : kPL h p l = 0 := if_pos z
    rw [k0] at e0 ⊢
    obtain ⟨h2, d1, d2⟩ := M_rowsIn (iG_th (k := 0) g).1 z.1 (l := l) ⟨z.2.1, by omega⟩
    rw [mRC_eq eqA_th.1] at d1
    refine mO_eq (e0.trans ((fine1 g.1.1).trans ((rX13_rowsOf_24 (iG_th g).1.1).trans ?_))) (mO_v d2)
    rw [if_neg (by decide)]
    exact (vret_v d1).trans rX13_rowsOf_33
  · have k1 : kPL h p l = 1 := if_neg z
    rw [k1] at e0 ⊢
    exact mO_eq (e0.trans ((fine0 g.1.1 (by decide)).trans ((rX13_rowsOf_24 (iG_th g).1.1).trans (if_pos rfl)))) (mO_x (by decide))
theorem Cq_rowsOf (c : cAll h a) (g : iG a) : cOut h a (kPL a p l) (mRC a p l) e3 (vcl mX12_rowsOf [(1, 3), (0, p), (0, l)] h) := by
  unfold kPL
  by_cases z : 0 ≤ p ∧ p < 4
  · obtain ⟨h1, d1, d2, d3, d4⟩ := C_laid c g z
    by_cases y : 0 ≤ l ∧ l < a 1504 282 0
    · rw [if_pos ⟨z, y⟩]
      refine cO_eq ((rX12_rowsOf_0 c.1).trans ((vret_v d1).trans ((rX12_rowsOf_5 d3.1).trans ((vret_n ((C_chkLine d3).1 y)).trans ((rX12_rowsOf_11 d4.2.1.1).trans ?_))))) (cO_v d3 (kR_qC z d2))
      rw [(cRd_F g.1 d4 y).1]
    · rw [if_neg (fun w => y w.2)]
      exact cO_eq ((rX12_rowsOf_0 c.1).trans ((vret_v d1).trans ((rX12_rowsOf_5 d3.1).trans (vret_x ((C_chkLine d3).2 y) rfl)))) (cO_x d3 (kR_qC z d2) (by decide) rfl)
  · rw [if_neg (fun w => z w.1)]
    exact cO_eq ((rX12_rowsOf_0 c.1).trans (vret_x (C_laidX c z) rfl)) (cO_x c cR_rf (by decide) rfl)
/-- lineAt -/
noncomputable def kRw (a : vH) (p r : Int) : Int := @ite _ ((0 ≤ p ∧ p < 4) ∧ isRw a p r) (Classical.propDecidable _) 0 1
theorem kRw_x : (if b2i ((0 ≤ p ∧ p < 4) ∧ isRw a p r) = 0 then (1 : Int) else 0) = kRw a p r := by
  unfold kRw
  by_cases z : (0 ≤ p ∧ p < 4) ∧ isRw a p r
  · rw [if_pos z, b2i_t z, if_neg (by decide)]
  · rw [if_neg z, b2i_f z, if_pos rfl]
theorem Mq_lineAt (g : iG h) : mOut h (kRw h p r) (mLn h p r) (vcl mX13_lineAt [(1, 282), (0, p), (0, r)] h) := by
  obtain ⟨h1, i1, i2⟩ := M_isRow g.1 (p := p) (r := r)
  have g1 := iG_sc i2 g
  have f1 : mF sA sT h (vup h1 1500 282 0 (kRw h p r)) := mF_tr (sT_of i2) fine_F
  have g2 := iG_sT f1 g
  have e0 := (rX13_lineAt_0 (x1 := p) (x2 := r) g.1.1).trans ((vret_v i1).trans (rX13_lineAt_7 g1.1.1))
  rw [kRw_x] at e0
  by_cases z : (0 ≤ p ∧ p < 4) ∧ isRw h p r
  · have k0 : kRw h p r = 0 := if_pos z
    rw [k0] at e0 f1 g2 ⊢
    have y := eqA_sT f1
    have r7 := (rw_in g.1 z.1 z.2).2.2.2.2
    obtain ⟨h2, d1, d2⟩ := M_lineOf g2.1 z.1 ((isRw_eq y).mpr z.2) (by omega)
    rw [mLn_eq y.1] at d1
    refine mO_eq (e0.trans ((fine1 g1.1.1).trans ((rX13_lineAt_18 g2.1.1).trans ?_))) (mO_g (mF_tr f1 (sT_of d2)) (th_K vup_s d2) (fun _ => rfl))
    rw [if_neg (by decide)]
    exact (vret_v d1).trans rX13_lineAt_27
  · have k1 : kRw h p r = 1 := if_neg z
    rw [k1] at e0 f1 g2 ⊢
    exact mO_eq (e0.trans ((fine0 g1.1.1 (by decide)).trans ((rX13_lineAt_18 g2.1.1).trans (if_pos rfl)))) (mO_g f1 vup_s (fun w => absurd w (by decide)))
theorem Cq_lineAt (c : cAll h a) (g : iG a) : cOut h a (kRw a p r) (mLn a p r) e3 (vcl mX12_lineAt [(1, 3), (0, p), (0, r)] h) := by
  unfold kRw
  by_cases z : 0 ≤ p ∧ p < 4
  · obtain ⟨h1, d1, d2, d3, d4⟩ := C_laid c g z
    by_cases y : isRw a p r
    · rw [if_pos ⟨z, y⟩]
      exact cO_eq ((rX12_lineAt_0 c.1).trans ((vret_v d1).trans ((rX12_lineAt_5 d3.1).trans ((vret_n ((C_chkRow d4).1 y)).trans ((rX12_lineAt_12 d4.2.1.1).trans ((vret_v (C_lineOfRow g.1 z d4 y)).trans rX12_lineAt_17)))))) (cO_v d3 (kR_qC z d2))
    · rw [if_neg (fun w => y w.2)]
      exact cO_eq ((rX12_lineAt_0 c.1).trans ((vret_v d1).trans ((rX12_lineAt_5 d3.1).trans (vret_x ((C_chkRow d4).2 y) rfl)))) (cO_x d3 (kR_qC z d2) (by decide) rfl)
  · rw [if_neg (fun w => z w.1)]
    exact cO_eq ((rX12_lineAt_0 c.1).trans (vret_x (C_laidX c z) rfl)) (cO_x c cR_rf (by decide) rfl)
/-- marksAt -/
theorem Mq_marksAt (g : iG h) : mOut h (kRw h p r) (mkV h p r) (vcl mX13_marksAt [(1, 282), (0, p), (0, r)] h) := by
  obtain ⟨h1, i1, i2⟩ := M_isRow g.1 (p := p) (r := r)
  have g1 := iG_sc i2 g
  have f1 : mF sA sT h (vup h1 1500 282 0 (kRw h p r)) := mF_tr (sT_of i2) fine_F
  have g2 := iG_sT f1 g
  have e0 := (rX13_marksAt_0 (x1 := p) (x2 := r) g.1.1).trans ((vret_v i1).trans (rX13_marksAt_7 g1.1.1))
  rw [kRw_x] at e0
  by_cases z : (0 ≤ p ∧ p < 4) ∧ isRw h p r
  · have k0 : kRw h p r = 0 := if_pos z
    rw [k0] at e0 f1 g2 ⊢
    have y := eqA_sT f1
    obtain ⟨h2, d1, d2⟩ := M_marks g2.1 z.1 ((isRw_eq y).mpr z.2)
    rw [mkV_eq y] at d1
    refine mO_eq (e0.trans ((fine1 g1.1.1).trans ((rX13_marksAt_18 g2.1.1).trans ?_))) (mO_g (mF_tr f1 (sT_of d2)) (th_K vup_s d2) (fun _ => rfl))
    rw [if_neg (by decide)]
    exact (vret_v d1).trans rX13_marksAt_27
  · have k1 : kRw h p r = 1 := if_neg z
    rw [k1] at e0 f1 g2 ⊢
    exact mO_eq (e0.trans ((fine0 g1.1.1 (by decide)).trans ((rX13_marksAt_18 g2.1.1).trans (if_pos rfl)))) (mO_g f1 vup_s (fun w => absurd w (by decide)))
theorem Cq_marksAt (c : cAll h a) (g : iG a) : cOut h a (kRw a p r) (mkV a p r) e3 (vcl mX12_marksAt [(1, 3), (0, p), (0, r)] h) := by
  unfold kRw
  by_cases z : 0 ≤ p ∧ p < 4
  · obtain ⟨h1, d1, d2, d3, d4⟩ := C_laid c g z
    by_cases y : isRw a p r
    · rw [if_pos ⟨z, y⟩]
      exact cO_eq ((rX12_marksAt_0 c.1).trans ((vret_v d1).trans ((rX12_marksAt_5 d3.1).trans ((vret_n ((C_chkRow d4).1 y)).trans ((rX12_marksAt_12 d4.2.1.1).trans ((vret_v (C_marksOfRow g z d4 y)).trans rX12_marksAt_17)))))) (cO_v d3 (kR_qC z d2))
    · rw [if_neg (fun w => y w.2)]
      exact cO_eq ((rX12_marksAt_0 c.1).trans ((vret_v d1).trans ((rX12_marksAt_5 d3.1).trans (vret_x ((C_chkRow d4).2 y) rfl)))) (cO_x d3 (kR_qC z d2) (by decide) rfl)
  · rw [if_neg (fun w => z w.1)]
    exact cO_eq ((rX12_marksAt_0 c.1).trans (vret_x (C_laidX c z) rfl)) (cO_x c cR_rf (by decide) rfl)
/-- placeAt -/
noncomputable def kPa (a : vH) (p r x : Int) : Int := @ite _ ((0 ≤ p ∧ p < 4) ∧ isRw a p r) (Classical.propDecidable _) (if 0 ≤ x ∧ x ≤ 39 then 0 else 2) 1
theorem Mq_placeAt (g : iG h) : mOut h (kPa h p r x) (upR h p r x) (vcl mX13_placeAt [(1, 282), (0, p), (0, r), (0, x)] h) := by
  obtain ⟨h1, i1, i2⟩ := M_isRow g.1 (p := p) (r := r)
  have g1 := iG_sc i2 g
  have f1 : mF sA sT h (vup h1 1500 282 0 (kPa h p r x)) := mF_tr (sT_of i2) fine_F
  have g2 := iG_sT f1 g
  have e0 := (rX13_placeAt_0 (x1 := p) (x2 := r) (x3 := x) g.1.1).trans ((vret_v i1).trans (rX13_placeAt_6 g1.1.1))
  have ek : (if b2i ((0 ≤ p ∧ p < 4) ∧ isRw h p r) = 0 then (1 : Int) else (if ¬ (x < 0) ∧ ¬ (39 < x) then 0 else 2)) = kPa h p r x := by
    unfold kPa
    by_cases z : (0 ≤ p ∧ p < 4) ∧ isRw h p r
    · rw [if_pos z, b2i_t z, if_neg (by decide)]
      split <;> split <;> omega
    · rw [if_neg z, b2i_f z, if_pos rfl]
  rw [ek] at e0
  by_cases z : ((0 ≤ p ∧ p < 4) ∧ isRw h p r) ∧ 0 ≤ x ∧ x ≤ 39
  · have k0 : kPa h p r x = 0 := by unfold kPa; rw [if_pos z.1, if_pos z.2]
    rw [k0] at e0 f1 g2 ⊢
    have y := eqA_sT f1
    obtain ⟨h2, d1, d2⟩ := M_upR g2.1 z.1.1 ((isRw_eq y).mpr z.1.2) (x := x)
    rw [upR_eq y.1] at d1
    refine mO_eq (e0.trans ((fine1 g1.1.1).trans ((rX13_placeAt_36 g2.1.1).trans ?_))) (mO_g (mF_tr f1 (sT_of d2)) (th_K vup_s d2) (fun _ => rfl))
    rw [if_neg (by decide)]
    exact (vret_v d1).trans rX13_placeAt_46
  · have k1 : ¬ kPa h p r x = 0 := by
      unfold kPa
      by_cases y : (0 ≤ p ∧ p < 4) ∧ isRw h p r
      · rw [if_pos y, if_neg (fun w => z ⟨y, w⟩)]; decide
      · rw [if_neg y]; decide
    exact mO_eq (e0.trans ((fine0 g1.1.1 k1).trans ((rX13_placeAt_36 g2.1.1).trans (if_pos rfl)))) (mO_g f1 vup_s (fun w => absurd w k1))
theorem Cq_placeAt (c : cAll h a) (g : iG a) : cOut h a (kPa a p r x) (upR a p r x) e3 (vcl mX12_placeAt [(1, 3), (0, p), (0, r), (0, x)] h) := by
  unfold kPa
  by_cases z : 0 ≤ p ∧ p < 4
  · obtain ⟨h1, d1, d2, d3, d4⟩ := C_laid c g z
    by_cases y : isRw a p r
    · rw [if_pos ⟨z, y⟩]
      have e1 := (rX12_placeAt_0 (x1 := p) (x2 := r) (x3 := x) c.1).trans ((vret_v d1).trans ((rX12_placeAt_5 d3.1).trans ((vret_n ((C_chkRow d4).1 y)).trans (rX12_placeAt_14 d3.1))))
      by_cases w : 0 ≤ x ∧ x ≤ 39
      · rw [if_pos w]
        obtain ⟨h2, u1, u2, u3⟩ := C_placeUp g z (by omega) d4 y (x := x)
        exact cO_eq (e1.trans ((vret_n (C_chkRange.1 w)).trans ((rX12_placeAt_22 d4.2.1.1).trans ((vret_v u1).trans rX12_placeAt_29)))) (cO_v (cAll_qM z u2 d3 u3) (kR_qC z (qC_tr d2 (qM_C u2))))
      · rw [if_neg w]
        exact cO_eq (e1.trans (vret_x (C_chkRange.2 w) rfl)) (cO_x d3 (kR_qC z d2) (by decide) rfl)
    · rw [if_neg (fun w => y w.2)]
      exact cO_eq ((rX12_placeAt_0 c.1).trans ((vret_v d1).trans ((rX12_placeAt_5 d3.1).trans (vret_x ((C_chkRow d4).2 y) rfl)))) (cO_x d3 (kR_qC z d2) (by decide) rfl)
  · rw [if_neg (fun w => z w.1)]
    exact cO_eq ((rX12_placeAt_0 c.1).trans (vret_x (C_laidX c z) rfl)) (cO_x c cR_rf (by decide) rfl)
/-- minimap -/
def kMm (p x : Int) : Int := if 0 ≤ p ∧ p < 4 then (if 0 ≤ x ∧ x ≤ 7 then 0 else 2) else 1
theorem mmS_eq (y : pR a b) : ∀ (f : Nat) (r n : Int), mmS b p f r n = mmS a p f r n
  | 0, _, _ => rfl
  | f + 1, r, n => by
    have e : ∀ a : vH, mmS a p (f + 1) r n = mmS a p f (r + 1) (n + wcL a p r) := fun _ => rfl
    rw [e, e, wcL_eq y, mmS_eq y f]
theorem mmV_eq (y : eqA a b) : mmV b p x = mmV a p x := by
  unfold mmV
  rw [mAll_eq y, mmS_eq y.1]
theorem Mq_minimap (g : iG h) : mOut h (kMm p x) (mmV h p x) (vcl mX13_minimap [(1, 282), (0, p), (0, x)] h) := by
  have e0 := rX13_minimap_0 (x1 := p) (x2 := x) (h := h) g.1.1
  have ek : (if ¬ (p < 0) ∧ ¬ (3 < p) then (if ¬ (x < 0) ∧ ¬ (7 < x) then (0 : Int) else 2) else 1) = kMm p x := by
    unfold kMm
    by_cases z : 0 ≤ p ∧ p < 4
    · rw [if_pos z, if_pos (by omega)]
      split <;> split <;> omega
    · rw [if_neg z, if_neg (by omega)]
  rw [ek] at e0
  by_cases z : (0 ≤ p ∧ p < 4) ∧ 0 ≤ x ∧ x ≤ 7
  · have k0 : kMm p x = 0 := by unfold kMm; rw [if_pos z.1, if_pos z.2]
    rw [k0] at e0 ⊢
    obtain ⟨h2, d1, d2⟩ := M_minimapC (iG_th (k := 0) g) z.1 z.2
    rw [mmV_eq eqA_th] at d1
    refine mO_eq (e0.trans ((fine1 g.1.1).trans ((rX13_minimap_30 (iG_th g).1.1).trans ?_))) (mO_v d2)
    rw [if_neg (by decide)]
    exact d1
  · have k1 : ¬ kMm p x = 0 := by
      unfold kMm
      by_cases y : 0 ≤ p ∧ p < 4
      · rw [if_pos y, if_neg (fun w => z ⟨y, w⟩)]; decide
      · rw [if_neg y]; decide
    exact mO_eq (e0.trans ((fine0 g.1.1 k1).trans ((rX13_minimap_30 (iG_th g).1.1).trans (if_pos rfl)))) (mO_x k1)
theorem Cq_minimap (c : cAll h a) (g : iG a) : cOut h a (kMm p x) (mmV a p x) e3 (vcl mX12_minimap [(1, 3), (0, p), (0, x)] h) := by
  unfold kMm
  by_cases z : 0 ≤ p ∧ p < 4
  · obtain ⟨h1, d1, d2, d3, d4⟩ := C_laid c g z
    rw [if_pos z]
    have e1 := (rX12_minimap_0 (x1 := p) (x2 := x) c.1).trans ((vret_v d1).trans (rX12_minimap_5 d3.1))
    by_cases w : 0 ≤ x ∧ x ≤ 7
    · rw [if_pos w]
      have al := mAll_in g.1 z
      have mm := mm_in g.1 z w
      have n := (cRd_n d4).1
      obtain ⟨h2, u1, u2, u3⟩ := C_wideCellsP g z (by omega) d4 (x := x * mAll a p / 8) (y := (x + 1) * mAll a p / 8) (by omega)
      have st := rX12_minimap_14 (x1 := p) (x2 := x) (x3 := 138 + 36 * p) (h := h1) d4.2.1.1 (by rw [n]; omega) (by rw [n]; omega) (by rw [n]; exact mm.1) (by omega) (by omega) (by rw [n]; omega) (by rw [n]; omega) (by rw [n]; omega)
      rw [n] at st
      exact cO_eq (e1.trans ((vret_n (C_chkRange.1 w)).trans (st.trans ((vret_v u1).trans rX12_minimap_38)))) (cO_v (cAll_qM z u2 d3 u3) (kR_qC z (qC_tr d2 (qM_C u2))))
    · rw [if_neg w]
      exact cO_eq (e1.trans (vret_x (C_chkRange.2 w) rfl)) (cO_x d3 (kR_qC z d2) (by decide) rfl)
  · rw [if_neg z]
    exact cO_eq ((rX12_minimap_0 c.1).trans (vret_x (C_laidX c z) rfl)) (cO_x c cR_rf (by decide) rfl)
/-- rowAt, columnAt -/
def kRA (a : vH) (p l x s : Int) : Int := if (0 ≤ p ∧ p < 4) ∧ (0 ≤ l ∧ l < a 1504 282 0) then (if (0 ≤ x ∧ x ≤ a 2 284 l) ∧ 0 ≤ s ∧ s ≤ 1 then 0 else 2) else 1
noncomputable def vRA (a : vH) (p l x s : Int) : Int := @ite _ (mInv a p l) (Classical.propDecidable _) (-1) (dnR a p l x s)
noncomputable def vCA (a : vH) (p l x s : Int) : Int := @ite _ (mInv a p l) (Classical.propDecidable _) (-1) (dnC a p l x s)
theorem kRA_x : (if (¬ (p < 0) ∧ ¬ (3 < p)) ∧ ¬ (fX13_isLine h l = 0) then (if fX13_isPlace h l x s = 0 then (2 : Int) else 0) else 1) = kRA h p l x s := by
  have i0 := isL_0 (h := h) (l := l)
  unfold kRA
  by_cases z : (0 ≤ p ∧ p < 4) ∧ (0 ≤ l ∧ l < h 1504 282 0)
  · rw [if_pos z, if_pos (by omega)]
    unfold fX13_isPlace
    by_cases y : (0 ≤ x ∧ x ≤ h 2 284 l) ∧ 0 ≤ s ∧ s ≤ 1
    · rw [if_pos y, if_pos (show (¬ (x < 0) ∧ ¬ (h 2 284 l < x)) ∧ ¬ (s < 0) ∧ ¬ (1 < s) by omega), if_neg (by decide)]
    · rw [if_neg y, if_neg (show ¬ ((¬ (x < 0) ∧ ¬ (h 2 284 l < x)) ∧ ¬ (s < 0) ∧ ¬ (1 < s)) by omega), if_pos rfl]
  · rw [if_neg z, if_neg (by omega)]
theorem kRA_0 (z : ¬ (((0 ≤ p ∧ p < 4) ∧ (0 ≤ l ∧ l < a 1504 282 0)) ∧ (0 ≤ x ∧ x ≤ a 2 284 l) ∧ 0 ≤ s ∧ s ≤ 1)) : ¬ kRA a p l x s = 0 := by
  unfold kRA
  by_cases y : (0 ≤ p ∧ p < 4) ∧ (0 ≤ l ∧ l < a 1504 282 0)
  · rw [if_pos y, if_neg (fun w => z ⟨y, w⟩)]; decide
  · rw [if_neg y]; decide
theorem Mq_rowAt (g : iG h) : mOut h (kRA h p l x s) (vRA h p l x s) (vcl mX13_rowAt [(1, 282), (0, p), (0, l), (0, x), (0, s)] h) := by
  have gl := g.1.2.1
  have e0 := rX13_rowAt_0 (x1 := p) (x2 := l) (x3 := x) (x4 := s) (h := h) g.1.1 (by omega) (by omega) (by rw [isL_0]; omega) (by rw [isL_0]; omega)
  rw [kRA_x] at e0
  by_cases z : ((0 ≤ p ∧ p < 4) ∧ (0 ≤ l ∧ l < h 1504 282 0)) ∧ (0 ≤ x ∧ x ≤ h 2 284 l) ∧ 0 ≤ s ∧ s ≤ 1
  · have k0 : kRA h p l x s = 0 := by unfold kRA; rw [if_pos z.1, if_pos z.2]
    rw [k0] at e0 ⊢
    have gt := iG_th (k := 0) g
    have iv := M_invis gt.1 z.1.1 (l := l)
    rw [mInv_eq eqA_th.1] at iv
    have e1 := e0.trans ((fine1 g.1.1).trans (rX13_rowAt_51 gt.1.1))
    rw [if_neg (by decide)] at e1
    have e2 := e1.trans ((vret_v iv).trans (rX13_rowAt_62 gt.1.1))
    unfold vRA
    by_cases y : mInv h p l
    · rw [if_pos y]
      rw [b2i_t y, if_neg (by decide)] at e2
      exact mO_eq e2 (mO_v mF_rf)
    · rw [if_neg y]
      rw [b2i_f y, if_pos rfl] at e2
      obtain ⟨h2, d1, d2⟩ := M_dnR gt.1 z.1.1 (l := l) ⟨z.1.2.1, by omega⟩ (x := x) (s := s)
      rw [dnR_eq eqA_th.1] at d1
      exact mO_eq (e2.trans ((vret_v d1).trans rX13_rowAt_78)) (mO_v d2)
  · have k1 := kRA_0 z
    exact mO_eq (e0.trans ((fine0 g.1.1 k1).trans ((rX13_rowAt_51 (iG_th g).1.1).trans (if_pos rfl)))) (mO_x k1)
theorem Mq_columnAt (g : iG h) : mOut h (kRA h p l x s) (vCA h p l x s) (vcl mX13_columnAt [(1, 282), (0, p), (0, l), (0, x), (0, s)] h) := by
  have gl := g.1.2.1
  have e0 := rX13_columnAt_0 (x1 := p) (x2 := l) (x3 := x) (x4 := s) (h := h) g.1.1 (by omega) (by omega) (by rw [isL_0]; omega) (by rw [isL_0]; omega)
  rw [kRA_x] at e0
  by_cases z : ((0 ≤ p ∧ p < 4) ∧ (0 ≤ l ∧ l < h 1504 282 0)) ∧ (0 ≤ x ∧ x ≤ h 2 284 l) ∧ 0 ≤ s ∧ s ≤ 1
  · have k0 : kRA h p l x s = 0 := by unfold kRA; rw [if_pos z.1, if_pos z.2]
    rw [k0] at e0 ⊢
    have gt := iG_th (k := 0) g
    have iv := M_invis gt.1 z.1.1 (l := l)
    rw [mInv_eq eqA_th.1] at iv
    have e1 := e0.trans ((fine1 g.1.1).trans (rX13_columnAt_51 gt.1.1))
    rw [if_neg (by decide)] at e1
    have e2 := e1.trans ((vret_v iv).trans (rX13_columnAt_62 gt.1.1))
    unfold vCA
    by_cases y : mInv h p l
    · rw [if_pos y]
      rw [b2i_t y, if_neg (by decide)] at e2
      exact mO_eq e2 (mO_v mF_rf)
    · rw [if_neg y]
      rw [b2i_f y, if_pos rfl] at e2
      obtain ⟨h2, d1, d2⟩ := M_downColumn gt.1 z.1.1 (l := l) ⟨z.1.2.1, by omega⟩ (x := x) (sd := s)
      have ed : dCol (mCL (vup h 1500 282 0 0) p l) ((vup h 1500 282 0 0) 2 286 p) ((vup h 1500 282 0 0) 2 287 p) x s = dnC h p l x s := dnC_eq eqA_th.1
      rw [ed] at d1
      exact mO_eq (e2.trans ((vret_v d1).trans rX13_columnAt_78)) (mO_v d2)
  · have k1 := kRA_0 z
    exact mO_eq (e0.trans ((fine0 g.1.1 k1).trans ((rX13_columnAt_51 (iG_th g).1.1).trans (if_pos rfl)))) (mO_x k1)
theorem mRC_0 (g : mG a) (hp : 0 ≤ p ∧ p < 4) (hl : 0 ≤ l ∧ l < 60) : mRC a p l = 0 ↔ mInv a p l := ⟨fun z => (mRC_pos g hp hl).mp (by omega), fun z => if_pos z⟩
theorem Cq_rowAt (c : cAll h a) (g : iG a) : cOut h a (kRA a p l x s) (vRA a p l x s) e3 (vcl mX12_rowAt [(1, 3), (0, p), (0, l), (0, x), (0, s)] h) := by
  have gl := g.1.2.1
  unfold kRA
  by_cases z : 0 ≤ p ∧ p < 4
  · obtain ⟨h1, d1, d2, d3, d4⟩ := C_laid c g z
    have e1 := (rX12_rowAt_0 (x1 := p) (x2 := l) (x3 := x) (x4 := s) c.1).trans ((vret_v d1).trans (rX12_rowAt_5 d3.1))
    by_cases y : 0 ≤ l ∧ l < a 1504 282 0
    · rw [if_pos ⟨z, y⟩]
      obtain ⟨o1, o2, o3⟩ := C_lineOf d3 y
      have e2 := e1.trans ((vret_v o1).trans (rX12_rowAt_15 o2 d3.1))
      rw [o3] at e2
      by_cases w1 : 0 ≤ x ∧ x ≤ a 2 284 l
      · have e3' := e2.trans ((vret_n (C_chkRange.1 w1)).trans (rX12_rowAt_21 d3.1))
        by_cases w2 : 0 ≤ s ∧ s ≤ 1
        · rw [if_pos ⟨w1, w2⟩]
          have e4 := e3'.trans ((vret_n (C_chkRange.1 w2)).trans (rX12_rowAt_29 d4.2.1.1))
          rw [(cRd_F g.1 d4 y).1] at e4
          unfold vRA
          by_cases v : mInv a p l
          · rw [if_pos v]
            rw [if_pos ((mRC_0 g.1 z ⟨y.1, by omega⟩).mpr v)] at e4
            exact cO_eq e4 (cO_v d3 (kR_qC z d2))
          · rw [if_neg v]
            rw [if_neg (fun q => v ((mRC_0 g.1 z ⟨y.1, by omega⟩).mp q))] at e4
            obtain ⟨h2, u1, u2, u3, -⟩ := C_rowDown g z (by omega) d4 y (x := x) (s := s) (by omega)
            exact cO_eq (e4.trans ((vret_v u1).trans rX12_rowAt_51)) (cO_v (cAll_qM z u2 d3 u3) (kR_qC z (qC_tr d2 (qM_C u2))))
        · rw [if_neg (fun q => w2 q.2)]
          exact cO_eq (e3'.trans (vret_x (C_chkRange.2 w2) rfl)) (cO_x d3 (kR_qC z d2) (by decide) rfl)
      · rw [if_neg (fun q => w1 q.1)]
        exact cO_eq (e2.trans (vret_x (C_chkRange.2 w1) rfl)) (cO_x d3 (kR_qC z d2) (by decide) rfl)
    · rw [if_neg (fun w => y w.2)]
      exact cO_eq (e1.trans (vret_x (C_lineOfX d3 y) rfl)) (cO_x d3 (kR_qC z d2) (by decide) rfl)
  · rw [if_neg (fun w => z w.1)]
    exact cO_eq ((rX12_rowAt_0 c.1).trans (vret_x (C_laidX c z) rfl)) (cO_x c cR_rf (by decide) rfl)
theorem Cq_columnAt (c : cAll h a) (g : iG a) : cOut h a (kRA a p l x s) (vCA a p l x s) e3 (vcl mX12_columnAt [(1, 3), (0, p), (0, l), (0, x), (0, s)] h) := by
  have gl := g.1.2.1
  unfold kRA
  by_cases z : 0 ≤ p ∧ p < 4
  · obtain ⟨h1, d1, d2, d3, d4⟩ := C_laid c g z
    have e1 := (rX12_columnAt_0 (x1 := p) (x2 := l) (x3 := x) (x4 := s) c.1).trans ((vret_v d1).trans (rX12_columnAt_5 d3.1))
    by_cases y : 0 ≤ l ∧ l < a 1504 282 0
    · rw [if_pos ⟨z, y⟩]
      obtain ⟨o1, o2, o3⟩ := C_lineOf d3 y
      have e2 := e1.trans ((vret_v o1).trans (rX12_columnAt_15 o2 d3.1))
      rw [o3] at e2
      by_cases w1 : 0 ≤ x ∧ x ≤ a 2 284 l
      · have e3' := e2.trans ((vret_n (C_chkRange.1 w1)).trans (rX12_columnAt_21 d3.1))
        by_cases w2 : 0 ≤ s ∧ s ≤ 1
        · rw [if_pos ⟨w1, w2⟩]
          have e4 := e3'.trans ((vret_n (C_chkRange.1 w2)).trans (rX12_columnAt_29 d4.2.1.1))
          rw [(cRd_F g.1 d4 y).1] at e4
          unfold vCA
          by_cases v : mInv a p l
          · rw [if_pos v]
            rw [if_pos ((mRC_0 g.1 z ⟨y.1, by omega⟩).mpr v)] at e4
            exact cO_eq e4 (cO_v d3 (kR_qC z d2))
          · rw [if_neg v]
            rw [if_neg (fun q => v ((mRC_0 g.1 z ⟨y.1, by omega⟩).mp q))] at e4
            obtain ⟨h2, u1, u2, u3⟩ := C_columnDown g z (by omega) d4 y (x := x) (s := s) (by omega)
            exact cO_eq (e4.trans ((vret_v u1).trans rX12_columnAt_51)) (cO_v (cAll_qM z u2 d3 u3) (kR_qC z (qC_tr d2 (qM_C u2))))
        · rw [if_neg (fun q => w2 q.2)]
          exact cO_eq (e3'.trans (vret_x (C_chkRange.2 w2) rfl)) (cO_x d3 (kR_qC z d2) (by decide) rfl)
      · rw [if_neg (fun q => w1 q.1)]
        exact cO_eq (e2.trans (vret_x (C_chkRange.2 w1) rfl)) (cO_x d3 (kR_qC z d2) (by decide) rfl)
    · rw [if_neg (fun w => y w.2)]
      exact cO_eq (e1.trans (vret_x (C_lineOfX d3 y) rfl)) (cO_x d3 (kR_qC z d2) (by decide) rfl)
  · rw [if_neg (fun w => z w.1)]
    exact cO_eq ((rX12_columnAt_0 c.1).trans (vret_x (C_laidX c z) rfl)) (cO_x c cR_rf (by decide) rfl)
/-- cursor -/
def kCu (p x : Int) : Int := if 0 ≤ p ∧ p < 4 then (if 0 ≤ x ∧ x ≤ 5 then 0 else 2) else 1
noncomputable def vCu (a : vH) (p x : Int) : Int := if x = 0 then cuL a p else if x = 1 then cuX a p else if x = 2 then cuR a p else if x = 3 then cuC a p else if x = 4 then a 2 307 p else toR a p
theorem kCu_0 (z : ¬ ((0 ≤ p ∧ p < 4) ∧ 0 ≤ x ∧ x ≤ 5)) : ¬ kCu p x = 0 := by
  unfold kCu
  by_cases y : 0 ≤ p ∧ p < 4
  · rw [if_pos y, if_neg (fun w => z ⟨y, w⟩)]; decide
  · rw [if_neg y]; decide
theorem Mq_cursor (g : iG h) : mOut h (kCu p x) (vCu h p x) (vcl mX13_cursor [(1, 282), (0, p), (0, x)] h) := by
  have e0 := rX13_cursor_0 (x1 := p) (x2 := x) (h := h) g.1.1
  have ek : (if ¬ (p < 0) ∧ ¬ (3 < p) then (if ¬ (x < 0) ∧ ¬ (5 < x) then (0 : Int) else 2) else 1) = kCu p x := by
    unfold kCu
    by_cases z : 0 ≤ p ∧ p < 4
    · rw [if_pos z, if_pos (by omega)]
      split <;> split <;> omega
    · rw [if_neg z, if_neg (by omega)]
  rw [ek] at e0
  by_cases z : (0 ≤ p ∧ p < 4) ∧ 0 ≤ x ∧ x ≤ 5
  · have k0 : kCu p x = 0 := by unfold kCu; rw [if_pos z.1, if_pos z.2]
    rw [k0] at e0 ⊢
    have gt := iG_th (k := 0) g
    have y : eqA h (vup h 1500 282 0 0) := eqA_th
    have yc : eqC h (vup h 1500 282 0 0) p := eqC_sT fine_F
    have yt : eqT h (vup h 1500 282 0 0) p := eqT_sT fine_F
    have e1 := e0.trans ((fine1 g.1.1).trans (rX13_cursor_29 gt.1.1 (fun _ _ _ _ _ _ => z.1.1) (fun _ _ _ _ _ _ => z.1.2)))
    rw [if_neg (by decide)] at e1
    unfold vCu
    by_cases x0 : x = 0
    · rw [if_pos x0]
      rw [if_pos x0] at e1
      have d := M_lineNow gt z.1
      rw [cuL_eq y.1 yc] at d
      exact mO_eq (e1.trans ((vret_v d).trans rX13_cursor_43)) (mO_v mF_rf)
    rw [if_neg x0]
    rw [if_neg x0] at e1
    by_cases x1 : x = 1
    · rw [if_pos x1]
      rw [if_pos x1] at e1
      have d := M_placeNow gt z.1
      rw [cuX_eq y.1 yc] at d
      exact mO_eq (e1.trans ((vret_v d).trans rX13_cursor_56)) (mO_v mF_rf)
    rw [if_neg x1]
    rw [if_neg x1] at e1
    by_cases x2 : x = 2
    · rw [if_pos x2]
      rw [if_pos x2] at e1
      obtain ⟨h2, d1, d2⟩ := M_rowNow gt z.1
      rw [cuR_eq y.1 yc] at d1
      exact mO_eq (e1.trans ((vret_v d1).trans rX13_cursor_69)) (mO_v d2)
    rw [if_neg x2]
    rw [if_neg x2] at e1
    by_cases x3 : x = 3
    · rw [if_pos x3]
      rw [if_pos x3] at e1
      obtain ⟨h2, d1, d2⟩ := M_columnNow gt z.1
      rw [cuC_eq y.1 yc] at d1
      exact mO_eq (e1.trans ((vret_v d1).trans rX13_cursor_82)) (mO_v d2)
    rw [if_neg x3]
    rw [if_neg x3] at e1
    by_cases x4 : x = 4
    · rw [if_pos x4]
      rw [if_pos x4, vup_k (by decide)] at e1
      exact mO_eq e1 (mO_v mF_rf)
    rw [if_neg x4]
    rw [if_neg x4] at e1
    obtain ⟨h2, d1, d2⟩ := M_topRow gt z.1
    rw [toR_eq y.1 yt] at d1
    exact mO_eq (e1.trans ((vret_v d1).trans rX13_cursor_104)) (mO_v d2)
  · have k1 := kCu_0 z
    exact mO_eq (e0.trans ((fine0 g.1.1 k1).trans ((rX13_cursor_29 (iG_th g).1.1 (by omega) (by omega)).trans (if_pos rfl)))) (mO_x k1)
theorem Cq_cursor (c : cAll h a) (g : iG a) : cOut h a (kCu p x) (vCu a p x) e3 (vcl mX12_cursor [(1, 3), (0, p), (0, x)] h) := by
  unfold kCu
  by_cases z : 0 ≤ p ∧ p < 4
  · obtain ⟨h1, d1, d2, d3, d4⟩ := C_laid c g z
    rw [if_pos z]
    have e1 := (rX12_cursor_0 (x1 := p) (x2 := x) c.1).trans ((vret_v d1).trans (rX12_cursor_5 d3.1))
    by_cases w : 0 ≤ x ∧ x ≤ 5
    · rw [if_pos w]
      have e2 := e1.trans ((vret_n (C_chkRange.1 w)).trans (rX12_cursor_13 d4.2.1.1))
      have K := kR_qC z d2
      unfold vCu
      by_cases x0 : x = 0
      · rw [if_pos x0]
        rw [if_pos x0] at e2
        exact cO_eq (e2.trans ((vret_v (C_cuL g z d4)).trans rX12_cursor_56)) (cO_v d3 K)
      rw [if_neg x0]
      rw [if_neg x0] at e2
      by_cases x1 : x = 1
      · rw [if_pos x1]
        rw [if_pos x1] at e2
        exact cO_eq (e2.trans ((vret_v (C_cuX g z d4)).trans rX12_cursor_65)) (cO_v d3 K)
      rw [if_neg x1]
      rw [if_neg x1] at e2
      by_cases x2 : x = 2
      · rw [if_pos x2]
        rw [if_pos x2] at e2
        obtain ⟨h2, u1, u2, u3⟩ := C_cursorRow g z (by omega) d4
        exact cO_eq (e2.trans ((vret_v u1).trans rX12_cursor_70)) (cO_v (cAll_qM z u2 d3 u3) (kR_qC z (qC_tr d2 (qM_C u2))))
      rw [if_neg x2]
      rw [if_neg x2] at e2
      by_cases x3 : x = 3
      · rw [if_pos x3]
        rw [if_pos x3] at e2
        obtain ⟨h2, u1, u2, u3⟩ := C_cursorColumn g z (by omega) d4
        exact cO_eq (e2.trans ((vret_v u1).trans rX12_cursor_75)) (cO_v (cAll_qM z u2 d3 u3) (kR_qC z (qC_tr d2 (qM_C u2))))
      rw [if_neg x3]
      rw [if_neg x3] at e2
      by_cases x4 : x = 4
      · rw [if_pos x4]
        rw [if_pos x4, d4.2.1.2.2.2.2.1] at e2
        exact cO_eq e2 (cO_v d3 K)
      rw [if_neg x4]
      rw [if_neg x4] at e2
      obtain ⟨h2, u1, u2, u3⟩ := C_topRow g z (by omega) d4
      exact cO_eq (e2.trans ((vret_v u1).trans rX12_cursor_85)) (cO_v (cAll_qM z u2 d3 u3) (kR_qC z (qC_tr d2 (qM_C u2))))
    · rw [if_neg w]
      exact cO_eq (e1.trans (vret_x (C_chkRange.2 w) rfl)) (cO_x d3 (kR_qC z d2) (by decide) rfl)
  · rw [if_neg z]
    exact cO_eq ((rX12_cursor_0 c.1).trans (vret_x (C_laidX c z) rfl)) (cO_x c cR_rf (by decide) rfl)
/-- height, shift -/
theorem Mq_height (g : iG h) : mOut h (kPn p) (h 2 310 p) (vcl mX13_height [(1, 282), (0, p)] h) := by
  have e0 := rX13_height_0 (x1 := p) (h := h) g.1.1
  rw [kPn_x] at e0
  by_cases z : 0 ≤ p ∧ p < 4
  · have k0 : kPn p = 0 := if_pos z
    rw [k0] at e0 ⊢
    refine mO_eq (e0.trans ((fine1 g.1.1).trans (rX13_height_16 (iG_th g).1.1 (by omega) (by omega)))) ?_
    rw [if_neg (by decide), vup_k (by decide)]
    exact mO_v mF_rf
  · have k1 : kPn p = 1 := if_neg z
    rw [k1] at e0 ⊢
    refine mO_eq (e0.trans ((fine0 g.1.1 (by decide)).trans (rX13_height_16 (iG_th g).1.1 (by omega) (by omega)))) ?_
    rw [if_pos rfl]
    exact mO_x (by decide)
theorem Mq_shift (g : iG h) : mOut h (kPn p) (h 2 330 p) (vcl mX13_shift [(1, 282), (0, p)] h) := by
  have e0 := rX13_shift_0 (x1 := p) (h := h) g.1.1
  rw [kPn_x] at e0
  by_cases z : 0 ≤ p ∧ p < 4
  · have k0 : kPn p = 0 := if_pos z
    rw [k0] at e0 ⊢
    refine mO_eq (e0.trans ((fine1 g.1.1).trans (rX13_shift_16 (iG_th g).1.1 (by omega) (by omega)))) ?_
    rw [if_neg (by decide), vup_k (by decide)]
    exact mO_v mF_rf
  · have k1 : kPn p = 1 := if_neg z
    rw [k1] at e0 ⊢
    refine mO_eq (e0.trans ((fine0 g.1.1 (by decide)).trans (rX13_shift_16 (iG_th g).1.1 (by omega) (by omega)))) ?_
    rw [if_pos rfl]
    exact mO_x (by decide)
theorem C_chkPane : ((0 ≤ p ∧ p < 4) → vcl mX12_checkPane [(1, 3), (0, p)] h = some (.inl none, h)) ∧ (¬ (0 ≤ p ∧ p < 4) → vcl mX12_checkPane [(1, 3), (0, p)] h = some (.inr "java/lang/IndexOutOfBoundsException", vexc h)) := by
  constructor
  · intro z
    refine (show _ = _ from rX12_checkPane_0).trans ?_
    rw [if_neg (by omega), if_pos z.2]
  · intro z
    refine (show _ = _ from rX12_checkPane_0).trans ?_
    by_cases y : p < 0
    · rw [if_pos y]
    · rw [if_neg y, if_neg (by omega)]
theorem C_heightOf (c : cAll h a) (hp : 0 ≤ p ∧ p < 4) : fX9_heightOf h p = a 2 310 p := by
  unfold fX9_heightOf
  rw [if_pos (by omega)]
  exact (c.2.2.2.1 p hp.1 hp.2).2
theorem Cq_height (c : cAll h a) : cOut h a (kPn p) (a 2 310 p) e3 (vcl mX12_height [(1, 3), (0, p)] h) := by
  unfold kPn
  by_cases z : 0 ≤ p ∧ p < 4
  · rw [if_pos z]
    refine cO_eq ((rX12_height_0 c.1).trans ((vret_n (C_chkPane.1 z)).trans ((rX12_height_5 c.1 (cAll_sh c).2 (by omega) (by omega)).trans ?_))) (cO_v c cR_rf)
    rw [C_heightOf c z]
  · rw [if_neg z]
    exact cO_eq ((rX12_height_0 c.1).trans (vret_x (C_chkPane.2 z) rfl)) (cO_x c cR_rf (by decide) rfl)
theorem Cq_shift (c : cAll h a) : cOut h a (kPn p) (a 2 330 p) e3 (vcl mX12_shift [(1, 3), (0, p)] h) := by
  unfold kPn
  by_cases z : 0 ≤ p ∧ p < 4
  · rw [if_pos z]
    obtain ⟨d1, d2, d3⟩ := c.2.2.1 p z.1 z.2
    refine cO_eq ((rX12_shift_0 c.1).trans ((vret_v (C_paneOf c z)).trans ((rX12_shift_5 d2.1.1).trans ?_))) (cO_v c cR_rf)
    rw [d3.2.2.2.1]
  · rw [if_neg z]
    exact cO_eq ((rX12_shift_0 c.1).trans (vret_x (C_paneOfX c z) rfl)) (cO_x c cR_rf (by decide) rfl)
end QR2
