/-! a move, as its caller sees it -/
section MVQ
variable {a b : vH} {p l x mv v r i : Int} {q : Int × Int}
theorem lk_q (h : ¬ r = 308) (h2 : ¬ r = 309) : tLk a p 2 r i = a 2 r i := by
  have t : ∀ w, tTop a p w 2 r i = a 2 r i := fun w => (vup_r (by omega)).trans (vup_r (by omega))
  unfold tLk
  split
  · split
    · rfl
    · exact t _
  · exact t _
theorem eqC_lk : eqC a (tLk a p) p := ⟨lk_q (by decide) (by decide), lk_q (by decide) (by decide)⟩
theorem eqC_wn : eqC a (tWn a p v) p := ⟨vup_r (by decide), vup_r (by decide)⟩
theorem cu_set (g : iG a) (hp : 0 ≤ p ∧ p < 4) (z : isQ a p (l, x)) (e1 : b 2 305 p = l) (e2 : b 2 306 p = x) (y : eqA a b) : cuL b p = l ∧ cuX b p = x := by
  obtain ⟨z1, z2, z3⟩ := z
  have z1 : 0 ≤ l ∧ l < a 1504 282 0 := z1
  have z2 : 0 ≤ x ∧ x ≤ a 2 284 l := z2
  have z3 : ¬ mInv a p l := z3
  have vi := (vs_in g hp z1 z2).2.2.2 z3
  unfold cuL cuX
  rw [e1, e2, vsL_eq y.1, vsX_eq y.1]
  exact ⟨vi, if_neg z3⟩
theorem cu_q (g : iG a) (hp : 0 ≤ p ∧ p < 4) : isQ a p (cuL a p, cuX a p) := by
  have c := cu_in g hp
  exact ⟨c.1, c.2.1, c.2.2.1⟩
theorem go_qe : eqA a (tGo a p l x) := eqA_go
theorem ch_cu (g : iG a) (hp : 0 ≤ p ∧ p < 4) (z : isQ a p (l, x)) : cuL (tCh a p l x) p = l ∧ cuX (tCh a p l x) p = x := by
  unfold tCh
  by_cases c : l = cuL a p ∧ x = cuX a p
  · rw [if_pos c]; exact ⟨c.1.symm, c.2.symm⟩
  · rw [if_neg c]
    exact cu_set g hp z ((vup_r (by decide)).trans vup_s) vup_s eqA_go
theorem ch_w : tCh a p l x 2 307 i = a 2 307 i := by
  unfold tCh
  split
  · rfl
  · exact (vup_r (by decide)).trans (vup_r (by decide))
theorem vis_D {k : Nat} (h : ¬ bsD a p k = -1) : ¬ mInv a p (bsD a p k) := by
  rcases bsD_s (a := a) (p := p) k with ⟨s, -⟩ | ⟨-, s, -⟩
  · exact absurd s h
  · exact s
theorem isQ_Ah (g : iG a) (hp : 0 ≤ p ∧ p < 4) : isQ a p (gAh a p) := by
  have P := isP_Ah g hp
  refine ⟨P.1, P.2, ?_⟩
  have c := (cu_in g hp).2.2.1
  unfold gAh
  split
  · split
    · exact c
    · rename_i h; exact vis_D h
  · exact c
theorem isQ_Be (g : iG a) (hp : 0 ≤ p ∧ p < 4) : isQ a p (gBe a p) := by
  have P := isP_Be g hp
  refine ⟨P.1, P.2, ?_⟩
  have c := (cu_in g hp).2.2.1
  have c0 := (cu_in g hp).1
  unfold gBe
  split
  · split
    · exact c
    · rename_i h
      rcases bsO_s (p := p) g c0 with ⟨s, -⟩ | ⟨-, s, -⟩
      · exact absurd s h
      · exact s
  · exact c
theorem isQ_Rw {y : Int} (g : iG a) (hp : 0 ≤ p ∧ p < 4) : isQ a p (gRw a p y) := by
  have P := isP_Rw (y := y) g hp
  refine ⟨P.1, P.2, ?_⟩
  have c := (cu_in g hp).2.2.1
  unfold gRw
  split
  · exact c
  · exact (rw_in g.1 hp (rTo_in g hp)).2.2.2.1
theorem isQ_Ho (g : iG a) (hp : 0 ≤ p ∧ p < 4) : isQ a p (gHo a p) := by
  have P := isP_Ho g hp
  exact ⟨P.1, P.2, (rw_in g.1 hp (cu_in g hp).2.2.2.1).2.2.2.1⟩
theorem isQ_En (g : iG a) (hp : 0 ≤ p ∧ p < 4) : isQ a p (gEn a p) := by
  have P := isP_En g hp
  refine ⟨P.1, P.2, ?_⟩
  unfold gEn
  split
  · exact (cu_in g hp).2.2.1
  · exact (rw_in g.1 hp (cu_in g hp).2.2.2.1).2.2.2.1
theorem isQ_Mv (g : iG a) (hp : 0 ≤ p ∧ p < 4) : isQ a p (gMv a p mv) := by
  unfold gMv
  split
  · exact isQ_Ah g hp
  · split
    · exact isQ_Be g hp
    · split
      · exact isQ_Rw g hp
      · split
        · exact isQ_Rw g hp
        · split
          · exact isQ_Ho g hp
          · split
            · exact isQ_En g hp
            · split
              · exact isQ_Rw g hp
              · exact isQ_Rw g hp
/-- two heaps with the same text, layers, cursor, wanted column and heights -/
def eqM (p : Int) (a b : vH) : Prop := eqA a b ∧ eqC a b p ∧ b 2 307 p = a 2 307 p ∧ b 2 310 p = a 2 310 p
theorem rTo_qe {y : Int} (m : eqM p a b) : rTo b p y = rTo a p y := by
  unfold rTo
  rw [mAll_eq m.1, cuR_eq m.1.1 m.2.1]
theorem gRw_qe {y : Int} (m : eqM p a b) : gRw b p y = gRw a p y := by
  unfold gRw
  rw [rTo_qe m, cuR_eq m.1.1 m.2.1, cuL_eq m.1.1 m.2.1, cuX_eq m.1.1 m.2.1, mLn_eq m.1.1, upR_eq m.1.1, m.2.2.1]
theorem gMv_qe (m : eqM p a b) : gMv b p mv = gMv a p mv := by
  have eL := cuL_eq m.1.1 m.2.1
  have eX := cuX_eq m.1.1 m.2.1
  have eR := cuR_eq m.1.1 m.2.1
  have e1 : gAh b p = gAh a p := by rw [gAh_F, gAh_F, eL, eX, AhF_qe m.1]
  have e2 : gBe b p = gBe a p := by rw [gBe_F, gBe_F, eL, eX, BeF_qe m.1]
  have e3 : gHo b p = gHo a p := by unfold gHo; rw [eR, mLn_eq m.1.1, plR_eq m.1.1]
  have e4 : gEn b p = gEn a p := by unfold gEn; rw [eR, eL, eX, lpR_eq m.1.1, mLn_eq m.1.1]
  unfold gMv
  rw [e1, e2, e3, e4, gRw_qe m, gRw_qe m, gRw_qe m, gRw_qe m, m.2.2.2]
theorem mvd_qe (m : eqM p a b) : mvd b p mv = mvd a p mv := by
  unfold mvd
  rw [gMv_qe m, cuL_eq m.1.1 m.2.1, cuX_eq m.1.1 m.2.1]
theorem eqM_lg : eqM p a (tLg (th 0 a) p mv) := by
  have y : eqL (th 0 a) (tLg (th 0 a) p mv) := eqL_lg
  have y0 : eqA a (th 0 a) := ⟨fun r i _ _ => vup_k (by decide), vup_k (by decide), fun k r i hk => by
    unfold th
    exact vup_k (fun z => by rw [z] at hk; cases hk)⟩
  exact ⟨eqA_tr y0 (eqL_A y), ⟨y _ _ _ (by omega) (by omega), y _ _ _ (by omega) (by omega)⟩, y _ _ _ (by omega) (by omega), lg_h⟩
end MVQ
