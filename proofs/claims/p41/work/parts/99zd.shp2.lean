/-! shape as a call -/
def cOutV (h b : vH) (k : Int) (E : Int → String) (X : Option (vR × vH)) : Prop := ∃ h1 : vH, X = some (if k = 0 then .inl none else .inr (E k), h1) ∧ cAll h1 b ∧ kR h h1 ∧ ct h h1
section SH2
variable {h h1 a b : vH} {p P n l w d m : Int}
theorem cV_eq {b : vH} {k : Int} {E : Int → String} {X Y : Option (vR × vH)} (e : X = Y) (m : cOutV h b k E Y) : cOutV h b k E X := by rw [e]; exact m
theorem cV_x {k : Int} {E : Int → String} (c : cAll h1 a) (r : kR h h1 ∧ h1 4 0 0 = h 4 0 0 ∧ h1 5 0 0 = h 5 0 0) (hk : ¬ k = 0) {s : String} (es : s = E k) : cOutV h a k E (some (.inr s, vexc h1)) := by
  obtain ⟨h2, e, x⟩ := cO_x (v := 0) c r hk es
  rw [if_neg hk] at e
  exact ⟨h2, by rw [if_neg hk]; exact e, x⟩
theorem cV_v {E : Int → String} (c : cAll h1 b) (r : kR h h1 ∧ h1 4 0 0 = h 4 0 0 ∧ h1 5 0 0 = h 5 0 0) : cOutV h b 0 E (some (.inl none, h1)) := ⟨h1, by rw [if_pos rfl], c, r.1, by omega, by omega⟩
def kSp (p w d m : Int) : Int := if 0 ≤ p ∧ p < 4 then (if (¬ (w < 10) ∧ ¬ (40 < w)) ∧ (¬ (d < 0) ∧ ¬ (4 < d)) ∧ ¬ (m < 0) ∧ ¬ (3 < m) then 0 else 2) else 1
theorem kSp_0 : kSp p w d m = 0 ↔ (0 ≤ p ∧ p < 4) ∧ (10 ≤ w ∧ w ≤ 40) ∧ (0 ≤ d ∧ d ≤ 4) ∧ 0 ≤ m ∧ m ≤ 3 := by
  unfold kSp
  split
  · split
    · exact ⟨fun _ => by omega, fun _ => rfl⟩
    · exact ⟨fun w => absurd w (by decide), fun w => by omega⟩
  · exact ⟨fun w => absurd w (by decide), fun w => by omega⟩
noncomputable def tSp (a : vH) (p w d m : Int) : vH := if kSp p w d m = 0 then shM p w d m (th 0 a) else th (kSp p w d m) a
theorem Cq_shape (c : cAll h a) : cOutV h (tSp a p w d m) (kSp p w d m) e3 (vcl mX12_shape [(1, 3), (0, p), (0, w), (0, d), (0, m)] h) := by
  unfold tSp
  by_cases z : 0 ≤ p ∧ p < 4
  · have e1 := (rX12_shape_0 (x1 := p) (x2 := w) (x3 := d) (x4 := m) c.1).trans ((vret_v (C_paneOf c z)).trans (rX12_shape_5 c.1))
    by_cases k : kSp p w d m = 0
    · have y := kSp_0.mp k
      rw [k, if_pos rfl]
      have c0 := cAll_th (k := 0) c
      have sP := (c0.2.2.1 p z.1 z.2).2.1.1.1
      have s1 : shPane (shC (138 + 36 * p) w d m h) (138 + 36 * p) := shPane_sx (sx_up rfl (sx_up rfl (sx_up rfl sx_rf))) sP
      have f := C_fgt s1 (n := 0) (by omega)
      rw [shC_fgt] at f
      obtain ⟨r1, r2, r3⟩ := fgt_r (P := 138 + 36 * p) (n := 0) (h := h)
      have cA := cAll_sh3 (w := w) (d := d) (m := m) (cAll_fgt (n := 0) c0 z) z r1 r2 (fun i u v => by rw [r3, if_pos ⟨u, v⟩])
      have re : vcl mX5_reshape [(1, 138 + 36 * p), (0, w), (0, d), (0, m)] h = some (.inl none, shC (138 + 36 * p) w d m (fgt (138 + 36 * p) 0 h)) := (rX5_reshape_0 sP).trans ((vret_n f).trans rX5_reshape_20)
      refine cV_eq (e1.trans ((vret_n (C_chkRange.1 y.2.1)).trans ((rX12_shape_16 c.1).trans ((vret_n (C_chkRange.1 y.2.2.1)).trans ((rX12_shape_23 c.1).trans ((vret_n (C_chkRange.1 y.2.2.2)).trans ((rX12_shape_31 sP).trans ((vret_n re).trans rX12_shape_40)))))))) (cV_v cA ⟨fun k r i u => ?_, ?_, ?_⟩)
      · unfold shC fgt vup frT
        rw [if_neg (by omega), if_neg (by omega), if_neg (by omega), if_neg (by omega), if_neg (by omega), if_neg (by omega)]
      · unfold shC fgt vup frT
        rw [if_neg (by omega), if_neg (by omega), if_neg (by omega), if_neg (by omega), if_neg (by omega), if_neg (by omega)]
      · unfold shC fgt vup frT
        rw [if_neg (by omega), if_neg (by omega), if_neg (by omega), if_neg (by omega), if_neg (by omega), if_neg (by omega)]
    · have k2 : kSp p w d m = 2 := by
        unfold kSp at k ⊢
        rw [if_pos z] at k ⊢
        split at k
        · exact absurd rfl k
        · rename_i n
          rw [if_neg n]
      have bad : ∀ {X : Option (vR × vH)}, X = some (.inr "java/lang/IllegalArgumentException", vexc h) → cOutV h (if kSp p w d m = 0 then shM p w d m (th 0 a) else th (kSp p w d m) a) (kSp p w d m) e3 X := fun eX => by
        rw [k2, if_neg (by decide)]
        exact cV_eq eX (cV_x (cAll_th c) cR_rf (by decide) rfl)
      refine bad (e1.trans ?_)
      by_cases y1 : 10 ≤ w ∧ w ≤ 40
      · refine (vret_n (C_chkRange.1 y1)).trans ((rX12_shape_16 c.1).trans ?_)
        by_cases y2 : 0 ≤ d ∧ d ≤ 4
        · refine (vret_n (C_chkRange.1 y2)).trans ((rX12_shape_23 c.1).trans ?_)
          exact vret_x (C_chkRange.2 (fun y3 => k (kSp_0.mpr ⟨z, y1, y2, y3⟩))) rfl
        · exact vret_x (C_chkRange.2 y2) rfl
      · exact vret_x (C_chkRange.2 y1) rfl
  · have k1 : kSp p w d m = 1 := if_neg z
    rw [k1, if_neg (by decide)]
    exact cV_eq ((rX12_shape_0 c.1).trans (vret_x (C_paneOfX c z) rfl)) (cV_x (cAll_th c) cR_rf (by decide) rfl)
end SH2

