/-! setClosed, the class -/
section CCL
variable {h h1 a b : vH} {p x v : Int}
theorem clC_fgt {P n E : Int} : fgt P n (vup h 302 E 0 v) = vup (fgt P n h) 302 E 0 v := by
  funext k r i
  unfold fgt vup frT
  dsimp only
  by_cases z : k = 302
  · have n1 : ¬ (k = 715 ∧ r = P ∧ i = 0) := by omega
    have n2 : ¬ (k = 714 ∧ r = P ∧ i = 0) := by omega
    have n3 : ¬ (k = 2 ∧ r = P + 26 ∧ n ≤ i ∧ i < 60) := by omega
    simp only [if_neg n1, if_neg n2, if_neg n3]
  · have n1 : ¬ (k = 302 ∧ r = E ∧ i = 0) := by omega
    simp only [if_neg n1]
theorem Cq_setClosed (c : cAll h a) (g : iG a) (m : iC a) (hv : v = 0 ∨ v = 1) : cOut h (tSl a p x v) (kSl a p x) (a 2 304 (6 * p + x)) e3 (vcl mX12_setClosed [(1, 3), (0, p), (0, x), (0, v)] h) := by
  unfold tSl
  by_cases z : 0 ≤ p ∧ p < 4
  · have c0 := cAll_th (k := 0) c
    have F := (c0.2.2.1 p z.1 z.2).2.1.1
    have sP := F.1
    obtain ⟨l1, l2, l3, ⟨l4, l4b, l4c⟩, l5, l6, l7⟩ := F.2.1
    have o := (g.1.2.2.2 p z.1 z.2).1
    obtain ⟨-, -, -, -, o5, o6, -⟩ := o
    have ef : th 0 a 2 301 p = a 2 301 p := congrFun (th_e (k := 0) 301) p
    rw [ef] at l4b l4c l7
    by_cases k : 0 ≤ x ∧ x < a 2 301 p
    · have k0 : kSl a p x = 0 := kSl_0.mpr ⟨z, k⟩
      rw [k0, if_pos rfl]
      obtain ⟨m1, m2, m3, m4⟩ := l7 x k.1 k.2
      have sz := l4c (by omega)
      have m4 : h 302 (lE h (138 + 36 * p + 1 + 3) x) 0 = a 2 304 (6 * p + x) := m4.trans (congrFun (th_e (k := 0) 304) (6 * p + x))
      have ml := m (6 * p + x) (by omega) (by omega)
      have s1 : shPane (vup h 302 (lE h (138 + 36 * p + 1 + 3) x) 0 v) (138 + 36 * p) := shPane_sx (sx_up rfl sx_rf) sP
      have f := C_fgt s1 (n := 0) (by omega)
      rw [clC_fgt] at f
      obtain ⟨r1, r2, r3⟩ := fgt_r (P := 138 + 36 * p) (n := 0) (h := h)
      have cF := cAll_fgt (n := 0) c0 z
      have eE : lE (fgt (138 + 36 * p) 0 h) (138 + 36 * p + 1 + 3) x = lE h (138 + 36 * p + 1 + 3) x := by
        have q : qF (138 + 36 * p) h (fgt (138 + 36 * p) 0 h) := fgt_qF
        exact lE_qC (qF_C q) sP ⟨l4, l4b, l4c⟩ (by omega)
      have cA := cAll_cl (v := v) cF (fun q u w => (iG_tk (k := 0) g).1.2.2.2 q u w |>.1) z (x := x) (by rw [ef]; exact k) r1 r2 (fun i u v => by rw [r3, if_pos ⟨u, v⟩])
      rw [eE] at cA
      have u1 := c.2.2.2.2.2.2.2.2.1 p 2 x z.1 z.2 (by decide) (by decide) k.1 (by unfold nL; rw [if_neg (by decide), if_neg (by decide)]; exact k.2)
      unfold eL at u1
      rw [show 140 + 36 * p + 2 = 138 + 36 * p + 1 + 3 by omega] at u1
      have e1 := (rX12_setClosed_0 (x1 := p) (x2 := x) (x3 := v) c.1).trans ((vret_v (C_paneOf c z)).trans (rX12_setClosed_5 sP (fun _ => l4) (fun _ _ => by omega) (fun _ _ => sz.1) (fun _ _ => by omega) (fun _ _ => m1) (fun _ _ => hv)))
      rw [if_neg (by omega), if_pos (show x < h 102 (138 + 36 * p + 1 + 3) 0 by rw [show h 102 (138 + 36 * p + 1 + 3) 0 = a 2 301 p from l4b]; exact k.2)] at e1
      have e2 := e1.trans ((vret_n f).trans (rX12_setClosed_70 (by rw [show h 302 (h 2 (h 101 (138 + 36 * p + 1 + 3) 0) x) 0 = a 2 304 (6 * p + x) from m4]; exact ml)))
      rw [show h 302 (h 2 (h 101 (138 + 36 * p + 1 + 3) 0) x) 0 = a 2 304 (6 * p + x) from m4] at e2
      refine cO_eq e2 (cO_v cA ⟨fun k r i u => ?_, ?_, ?_⟩)
      · unfold fgt vup frT
        rw [if_neg (by omega), if_neg (by omega), if_neg (by omega), if_neg (by omega)]
      · unfold fgt vup frT
        rw [if_neg (by omega), if_neg (by omega), if_neg (by omega), if_neg (by omega)]
      · unfold fgt vup frT
        rw [if_neg (by omega), if_neg (by omega), if_neg (by omega), if_neg (by omega)]
    · have k2 : kSl a p x = 2 := by unfold kSl; rw [if_pos z, if_neg k]
      rw [k2, if_neg (by decide)]
      have e1 := (rX12_setClosed_0 (x1 := p) (x2 := x) (x3 := v) c.1).trans ((vret_v (C_paneOf c z)).trans (rX12_setClosed_5 sP (fun _ => l4) (fun _ _ => by omega) (fun u w => by have : h 102 (138 + 36 * p + 1 + 3) 0 = a 2 301 p := l4b; omega) (fun u w => by have : h 102 (138 + 36 * p + 1 + 3) 0 = a 2 301 p := l4b; omega) (fun u w => by have : h 102 (138 + 36 * p + 1 + 3) 0 = a 2 301 p := l4b; exact absurd ⟨by omega, by omega⟩ k) (fun _ _ => hv)))
      have eq : vcl mX12_setClosed [(1, 3), (0, p), (0, x), (0, v)] h = some (.inr "java/lang/IllegalArgumentException", vexc h) := by
        refine e1.trans ?_
        by_cases y : x < 0
        · rw [if_pos y]
        · rw [if_neg y, if_neg (show ¬ x < h 102 (138 + 36 * p + 1 + 3) 0 by rw [show h 102 (138 + 36 * p + 1 + 3) 0 = a 2 301 p from l4b]; omega)]
      exact cO_eq eq (cO_x (cAll_th c) cR_rf (by decide) rfl)
  · have k1 : kSl a p x = 1 := if_neg z
    rw [k1, if_neg (by decide)]
    exact cO_eq ((rX12_setClosed_0 c.1).trans (vret_x (C_paneOfX c z) rfl)) (cO_x (cAll_th c) cR_rf (by decide) rfl)
theorem iX_setClosed (g : iG a) (i : iH a) : iG (tSl a p x v) ∧ iH (tSl a p x v) := by
  unfold tSl
  split
  · have g0 : iG (th 0 a) := iG_tk g
    have i0 : iH (th 0 a) := iH_th i
    have g1 : iG (vup (th 0 a) 2 304 (6 * p + x) v) := g0
    have i1 : iH (vup (th 0 a) 2 304 (6 * p + x) v) := i0
    exact ⟨g1, i1⟩
  · exact ⟨iG_tk g, iH_th i⟩
theorem iC_setClosed (m : iC a) (hv : v = 0 ∨ v = 1) : iC (tSl a p x v) := by
  unfold tSl
  split
  · intro q u w
    by_cases z : q = 6 * p + x
    · rw [z, vup_s]; exact hv
    · have e2 : vup (th 0 a) 2 304 (6 * p + x) v 2 304 q = a 2 304 q := (if_neg (fun w => z w.2.2)).trans (congrFun (th_e (k := 0) 304) q)
      rw [e2]; exact m q u w
  · exact m
end CCL

