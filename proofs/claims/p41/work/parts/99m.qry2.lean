/-! more calls that only ask -/
section QR2
variable {h h1 a b : vH} {p P l r x s : Int}
/-- rowsOf -/
def kPL (a : vH) (p l : Int) : Int := if (0 ≤ p ∧ p < 4) ∧ (0 ≤ l ∧ l < a 1504 282 0) then 0 else 1
theorem Cq_rowsOf (c : cAll h a) (g : iG a) : cOut h a (kPL a p l) (mRC a p l) e3 (vcl mX12_rowsOf [(1, 3), (0, p), (0, l)] h) := by
  unfold kPL
  by_cases z : 0 ≤ p ∧ p < 4
  · obtain ⟨h1, d1, d2, d3, d4⟩ := C_laid c g z
    by_cases y : 0 ≤ l ∧ l < a 1504 282 0
    · rw [if_pos ⟨z, y⟩]
      refine cO_eq ((rX12_rowsOf_0 c.1).trans ((vret_v d1).trans ((rX12_rowsOf_5 d3.1).trans ((vret_n ((C_chkLine d3).1 y)).trans ((rX12_rowsOf_11 d4.2.1.1).trans ?_))))) (cO_v d3 (kR_qC z d2))
      rw [(cRd_F g.1 d4 y).1]
    · rw [if_neg (fun w => y w.2)]
      exact cO_eq ((rX12_rowsOf_0 c.1).trans ((vret_v d1).trans ((rX12_rowsOf_5 d3.1).trans (vret_x ((C_chkLine d3).2 y) rfl)))) (cO_x d3 (kR_qC z d2) (by decide) rfl)
  · rw [if_neg (fun w => z w.1)]
    exact cO_eq ((rX12_rowsOf_0 c.1).trans (vret_x (C_laidX c z) rfl)) (cO_x c cR_rf (by decide) rfl)
/-- lineAt -/
noncomputable def kRw (a : vH) (p r : Int) : Int := @ite _ ((0 ≤ p ∧ p < 4) ∧ isRw a p r) (Classical.propDecidable _) 0 1
theorem Cq_lineAt (c : cAll h a) (g : iG a) : cOut h a (kRw a p r) (mLn a p r) e3 (vcl mX12_lineAt [(1, 3), (0, p), (0, r)] h) := by
  unfold kRw
  by_cases z : 0 ≤ p ∧ p < 4
  · obtain ⟨h1, d1, d2, d3, d4⟩ := C_laid c g z
    by_cases y : isRw a p r
    · rw [if_pos ⟨z, y⟩]
      exact cO_eq ((rX12_lineAt_0 c.1).trans ((vret_v d1).trans ((rX12_lineAt_5 d3.1).trans ((vret_n ((C_chkRow d4).1 y)).trans ((rX12_lineAt_12 d4.2.1.1).trans ((vret_v (C_lineOfRow g.1 z d4 y)).trans rX12_lineAt_17)))))) (cO_v d3 (kR_qC z d2))
    · rw [if_neg (fun w => y w.2)]
      exact cO_eq ((rX12_lineAt_0 c.1).trans ((vret_v d1).trans ((rX12_lineAt_5 d3.1).trans (vret_x ((C_chkRow d4).2 y) rfl)))) (cO_x d3 (kR_qC z d2) (by decide) rfl)
  · rw [if_neg (fun w => z w.1)]
    exact cO_eq ((rX12_lineAt_0 c.1).trans (vret_x (C_laidX c z) rfl)) (cO_x c cR_rf (by decide) rfl)
/-- rowAt, columnAt -/
def kRA (a : vH) (p l x s : Int) : Int := if (0 ≤ p ∧ p < 4) ∧ (0 ≤ l ∧ l < a 1504 282 0) then (if (0 ≤ x ∧ x ≤ a 2 284 l) ∧ 0 ≤ s ∧ s ≤ 1 then 0 else 2) else 1
noncomputable def vRA (a : vH) (p l x s : Int) : Int := @ite _ (mInv a p l) (Classical.propDecidable _) (-1) (dnR a p l x s)
theorem mRC_0 (g : mG a) (hp : 0 ≤ p ∧ p < 4) (hl : 0 ≤ l ∧ l < 60) : mRC a p l = 0 ↔ mInv a p l := ⟨fun z => (mRC_pos g hp hl).mp (by omega), fun z => if_pos z⟩
theorem Cq_rowAt (c : cAll h a) (g : iG a) : cOut h a (kRA a p l x s) (vRA a p l x s) e3 (vcl mX12_rowAt [(1, 3), (0, p), (0, l), (0, x), (0, s)] h) := by
  have gl := g.1.2.1
  unfold kRA
  by_cases z : 0 ≤ p ∧ p < 4
  · obtain ⟨h1, d1, d2, d3, d4⟩ := C_laid c g z
    have e1 := (rX12_rowAt_0 (x1 := p) (x2 := l) (x3 := x) (x4 := s) c.1).trans ((vret_v d1).trans (rX12_rowAt_5 d3.1))
    by_cases y : 0 ≤ l ∧ l < a 1504 282 0
    · rw [if_pos ⟨z, y⟩]
      obtain ⟨o1, o2, o3⟩ := C_lineOf d3 y
      have e2 := e1.trans ((vret_v o1).trans (rX12_rowAt_15 o2 d3.1))
      rw [o3] at e2
      by_cases w1 : 0 ≤ x ∧ x ≤ a 2 284 l
      · have e3' := e2.trans ((vret_n (C_chkRange.1 w1)).trans (rX12_rowAt_21 d3.1))
        by_cases w2 : 0 ≤ s ∧ s ≤ 1
        · rw [if_pos ⟨w1, w2⟩]
          have e4 := e3'.trans ((vret_n (C_chkRange.1 w2)).trans (rX12_rowAt_29 d4.2.1.1))
          rw [(cRd_F g.1 d4 y).1] at e4
          unfold vRA
          by_cases v : mInv a p l
          · rw [if_pos v]
            rw [if_pos ((mRC_0 g.1 z ⟨y.1, by omega⟩).mpr v)] at e4
            exact cO_eq e4 (cO_v d3 (kR_qC z d2))
          · rw [if_neg v]
            rw [if_neg (fun q => v ((mRC_0 g.1 z ⟨y.1, by omega⟩).mp q))] at e4
            obtain ⟨h2, u1, u2, u3, -⟩ := C_rowDown g z (by omega) d4 y (x := x) (s := s) (by omega)
            exact cO_eq (e4.trans ((vret_v u1).trans rX12_rowAt_51)) (cO_v (cAll_qM z u2 d3 u3) (kR_qC z (qC_tr d2 (qM_C u2))))
        · rw [if_neg (fun q => w2 q.2)]
          exact cO_eq (e3'.trans (vret_x (C_chkRange.2 w2) rfl)) (cO_x d3 (kR_qC z d2) (by decide) rfl)
      · rw [if_neg (fun q => w1 q.1)]
        exact cO_eq (e2.trans (vret_x (C_chkRange.2 w1) rfl)) (cO_x d3 (kR_qC z d2) (by decide) rfl)
    · rw [if_neg (fun w => y w.2)]
      exact cO_eq (e1.trans (vret_x (C_lineOfX d3 y) rfl)) (cO_x d3 (kR_qC z d2) (by decide) rfl)
  · rw [if_neg (fun w => z w.1)]
    exact cO_eq ((rX12_rowAt_0 c.1).trans (vret_x (C_laidX c z) rfl)) (cO_x c cR_rf (by decide) rfl)
/-- cursor -/
def kCu (p x : Int) : Int := if 0 ≤ p ∧ p < 4 then (if 0 ≤ x ∧ x ≤ 5 then 0 else 2) else 1
noncomputable def vCu (a : vH) (p x : Int) : Int := if x = 0 then cuL a p else if x = 1 then cuX a p else if x = 2 then cuR a p else if x = 3 then cuC a p else if x = 4 then a 2 307 p else toR a p
theorem Cq_cursor (c : cAll h a) (g : iG a) : cOut h a (kCu p x) (vCu a p x) e3 (vcl mX12_cursor [(1, 3), (0, p), (0, x)] h) := by
  unfold kCu
  by_cases z : 0 ≤ p ∧ p < 4
  · obtain ⟨h1, d1, d2, d3, d4⟩ := C_laid c g z
    rw [if_pos z]
    have e1 := (rX12_cursor_0 (x1 := p) (x2 := x) c.1).trans ((vret_v d1).trans (rX12_cursor_5 d3.1))
    by_cases w : 0 ≤ x ∧ x ≤ 5
    · rw [if_pos w]
      have e2 := e1.trans ((vret_n (C_chkRange.1 w)).trans (rX12_cursor_13 d4.2.1.1))
      have K := kR_qC z d2
      unfold vCu
      by_cases x0 : x = 0
      · rw [if_pos x0]
        rw [if_pos x0] at e2
        exact cO_eq (e2.trans ((vret_v (C_cuL g z d4)).trans rX12_cursor_56)) (cO_v d3 K)
      rw [if_neg x0]
      rw [if_neg x0] at e2
      by_cases x1 : x = 1
      · rw [if_pos x1]
        rw [if_pos x1] at e2
        exact cO_eq (e2.trans ((vret_v (C_cuX g z d4)).trans rX12_cursor_65)) (cO_v d3 K)
      rw [if_neg x1]
      rw [if_neg x1] at e2
      by_cases x2 : x = 2
      · rw [if_pos x2]
        rw [if_pos x2] at e2
        obtain ⟨h2, u1, u2, u3⟩ := C_cursorRow g z (by omega) d4
        exact cO_eq (e2.trans ((vret_v u1).trans rX12_cursor_70)) (cO_v (cAll_qM z u2 d3 u3) (kR_qC z (qC_tr d2 (qM_C u2))))
      rw [if_neg x2]
      rw [if_neg x2] at e2
      by_cases x3 : x = 3
      · rw [if_pos x3]
        rw [if_pos x3] at e2
        obtain ⟨h2, u1, u2, u3⟩ := C_cursorColumn g z (by omega) d4
        exact cO_eq (e2.trans ((vret_v u1).trans rX12_cursor_75)) (cO_v (cAll_qM z u2 d3 u3) (kR_qC z (qC_tr d2 (qM_C u2))))
      rw [if_neg x3]
      rw [if_neg x3] at e2
      by_cases x4 : x = 4
      · rw [if_pos x4]
        rw [if_pos x4, d4.2.1.2.2.2.2.1] at e2
        exact cO_eq e2 (cO_v d3 K)
      rw [if_neg x4]
      rw [if_neg x4] at e2
      obtain ⟨h2, u1, u2, u3⟩ := C_topRow g z (by omega) d4
      exact cO_eq (e2.trans ((vret_v u1).trans rX12_cursor_85)) (cO_v (cAll_qM z u2 d3 u3) (kR_qC z (qC_tr d2 (qM_C u2))))
    · rw [if_neg w]
      exact cO_eq (e1.trans (vret_x (C_chkRange.2 w) rfl)) (cO_x d3 (kR_qC z d2) (by decide) rfl)
  · rw [if_neg z]
    exact cO_eq ((rX12_cursor_0 c.1).trans (vret_x (C_laidX c z) rfl)) (cO_x c cR_rf (by decide) rfl)
theorem C_chkPane : ((0 ≤ p ∧ p < 4) → vcl mX12_checkPane [(1, 3), (0, p)] h = some (.inl none, h)) ∧ (¬ (0 ≤ p ∧ p < 4) → vcl mX12_checkPane [(1, 3), (0, p)] h = some (.inr "java/lang/IndexOutOfBoundsException", vexc h)) := by
  constructor
  · intro z
    refine (show _ = _ from rX12_checkPane_0).trans ?_
    rw [if_neg (by omega), if_pos z.2]
  · intro z
    refine (show _ = _ from rX12_checkPane_0).trans ?_
    by_cases y : p < 0
    · rw [if_pos y]
    · rw [if_neg y, if_neg (by omega)]
theorem C_heightOf (c : cAll h a) (hp : 0 ≤ p ∧ p < 4) : fX9_heightOf h p = a 2 310 p := by
  unfold fX9_heightOf
  rw [if_pos (by omega)]
  exact (c.2.2.2.1 p hp.1 hp.2).2
theorem Cq_height (c : cAll h a) : cOut h a (kPn p) (a 2 310 p) e3 (vcl mX12_height [(1, 3), (0, p)] h) := by
  unfold kPn
  by_cases z : 0 ≤ p ∧ p < 4
  · rw [if_pos z]
    refine cO_eq ((rX12_height_0 c.1).trans ((vret_n (C_chkPane.1 z)).trans ((rX12_height_5 c.1 (cAll_sh c).2 (by omega) (by omega)).trans ?_))) (cO_v c cR_rf)
    rw [C_heightOf c z]
  · rw [if_neg z]
    exact cO_eq ((rX12_height_0 c.1).trans (vret_x (C_chkPane.2 z) rfl)) (cO_x c cR_rf (by decide) rfl)
theorem Cq_shift (c : cAll h a) : cOut h a (kPn p) (a 2 330 p) e3 (vcl mX12_shift [(1, 3), (0, p)] h) := by
  unfold kPn
  by_cases z : 0 ≤ p ∧ p < 4
  · rw [if_pos z]
    obtain ⟨d1, d2, d3⟩ := c.2.2.1 p z.1 z.2
    refine cO_eq ((rX12_shift_0 c.1).trans ((vret_v (C_paneOf c z)).trans ((rX12_shift_5 d2.1.1).trans ?_))) (cO_v c cR_rf)
    rw [d3.2.2.2.1]
  · rw [if_neg z]
    exact cO_eq ((rX12_shift_0 c.1).trans (vret_x (C_paneOfX c z) rfl)) (cO_x c cR_rf (by decide) rfl)
end QR2

