/-! setMark -/
def iM (a : vH) : Prop := ∀ l, 0 ≤ l → l < a 1504 282 0 → a 2 285 l = 0 ∨ a 2 285 l = 1
section SMK
variable {h h1 a b : vH} {p P l v : Int}
theorem lnE_mk {q : Int} : lnE a (vup a 2 285 l v) p q := ⟨rfl, fun _ _ _ => rfl, rfl, fun _ => rfl, rfl, fun lo hi => by
  have e : ∀ (n : Nat) (k : Int), mVt (vup a 2 285 l v) q lo hi n k = mVt a q lo hi n k := fun n k => mVt_loc n k (fun r i u _ _ => vup_r (by unfold lyr at u; omega))
  exact e _ _, rfl, rfl⟩
theorem cFix_mk {X : Int} (c : cFix h a p P) : cFix (vup h 602 X 0 v) (vup a 2 285 l v) p P := c
theorem cCnt_mk {X : Int} (c : cCnt h a p P) : cCnt (vup h 602 X 0 v) (vup a 2 285 l v) p P := by
  have c2 : cCnt (vup h 602 X 0 v) a p P := c
  exact cCnt_loc (a := a) rfl (fun _ _ _ => lnE_mk) c2
theorem cLd_mk {X : Int} (c : cLd h a p P) : cLd (vup h 602 X 0 v) (vup a 2 285 l v) p P := by
  have c2 : cLd (vup h 602 X 0 v) a p P := c
  exact cLd_loc (a := a) rfl (fun _ _ _ => lnE_mk) c2
theorem cPic_mk {X : Int} (c : cPic h a p P) : cPic (vup h 602 X 0 v) (vup a 2 285 l v) p P := c
theorem cStk_mk {X : Int} (c : cStk h a) : cStk (vup h 602 X 0 v) (vup a 2 285 l v) := c
theorem cLog_mk {X : Int} (c : cLog h a) : cLog (vup h 602 X 0 v) (vup a 2 285 l v) := c
theorem cUq_mk {X : Int} (c : cUq h a) : cUq (vup h 602 X 0 v) (vup a 2 285 l v) := c
theorem cTx_mk (c : cTx h a) (hl : 0 ≤ l ∧ l < a 1504 282 0) : cTx (vup h 602 (h 2 5 l) 0 v) (vup a 2 285 l v) := by
  obtain ⟨c1, c2, c3, c4, c5⟩ := c
  refine ⟨c1, c2, c3, c4, fun i u w => ?_⟩
  have w : i < a 1504 282 0 := w
  obtain ⟨d1, d2⟩ := c5 i u w
  refine ⟨d1, ?_⟩
  show vup h 602 (h 2 5 l) 0 v 602 (h 2 5 i) 0 = vup a 2 285 l v 2 285 i
  by_cases z : i = l
  · rw [z, vup_s, vup_s]
  · have n : ¬ h 2 5 i = h 2 5 l := by
      by_cases y : i < l
      · exact c4 i l u y (by omega)
      · exact fun e => c4 l i hl.1 (by omega) (by omega) e.symm
    have e1 : vup h 602 (h 2 5 l) 0 v 602 (h 2 5 i) 0 = h 602 (h 2 5 i) 0 := vup_r n
    have e2 : vup a 2 285 l v 2 285 i = a 2 285 i := if_neg (fun w => z w.2.2)
    rw [e1, e2, d2]
theorem cAll_mk (c : cAll h a) (hl : 0 ≤ l ∧ l < a 1504 282 0) : cAll (vup h 602 (h 2 5 l) 0 v) (vup a 2 285 l v) := by
  obtain ⟨c1, c2, c3, c4, c5, c6⟩ := c
  refine ⟨shPL_sx (sx_up rfl sx_rf) c1, cTx_mk c2 hl, fun p u w => ?_, cStk_mk c4, cLog_mk c5, cUq_mk c6⟩
  obtain ⟨d1, ⟨d2, d3, d4⟩, d5⟩ := c3 p u w
  exact ⟨d1, ⟨cFix_mk d2, cCnt_mk d3, cLd_mk d4⟩, cPic_mk d5⟩
noncomputable def tSm (a : vH) (l v : Int) : vH := if kLn a l = 0 then vup (th 0 a) 2 285 l v else th (kLn a l) a
theorem Mq_setMark (g : iG h) (m : iM h) (hv : v = 0 ∨ v = 1) : mOut (tSm h l v) (kLn h l) (h 2 285 l) (vcl mX13_setMark [(1, 282), (0, l), (0, v)] h) := by
  have gl := g.1.2.1
  have e0 := rX13_setMark_0 (x1 := l) (x2 := v) (h := h) g.1.1 (by omega) (by omega)
  rw [kLn_x g.1] at e0
  by_cases z : 0 ≤ l ∧ l < h 1504 282 0
  · have k0 : kLn h l = 0 := if_pos z
    have ml : th 0 h 2 285 l = 0 ∨ th 0 h 2 285 l = 1 := by rw [th_e]; exact m l z.1 z.2
    unfold tSm
    rw [k0] at e0 ⊢
    rw [if_pos rfl]
    refine mO_eq (e0.trans ((fine1 g.1.1).trans ((rX13_setMark_17 (iG_th g).1.1 (by omega) (by omega) (fun _ => hv) (fun _ => ml)).trans (if_neg (by decide))))) ?_
    exact mO_t mF_rf ((vup_k (by decide)).trans vup_s) (fun _ => congrFun (th_e (k := 0) 285) l)
  · have k1 : kLn h l = 1 := if_neg z
    unfold tSm
    rw [k1] at e0 ⊢
    rw [if_neg (by decide)]
    exact mO_eq (e0.trans ((fine0 g.1.1 (by decide)).trans ((rX13_setMark_17 (iG_th g).1.1 (fun w => absurd rfl w) (fun w => absurd rfl w) (fun w => absurd rfl w) (fun w => absurd rfl w)).trans (if_pos rfl)))) (mO_t mF_rf vup_s (fun w => absurd w (by decide)))
theorem Cq_setMark (c : cAll h a) (m : iM a) (hv : v = 0 ∨ v = 1) : cOut h (tSm a l v) (kLn a l) (a 2 285 l) e3 (vcl mX12_setMark [(1, 3), (0, l), (0, v)] h) := by
  unfold tSm
  by_cases z : 0 ≤ l ∧ l < a 1504 282 0
  · obtain ⟨d1, d2, d3⟩ := C_lineOf c z
    have k0 : kLn a l = 0 := if_pos z
    have em := (c.2.1.2.2.2.2 l z.1 z.2).2
    have rl := c.2.1.2.2.1 l z.1 (by have := c.2.1.2.1.2; omega)
    have ml := m l z.1 z.2
    have z0 : 0 ≤ l ∧ l < th 0 a 1504 282 0 := z
    rw [k0, if_pos rfl]
    refine cO_eq ((rX12_setMark_0 c.1).trans ((vret_v d1).trans (rX12_setMark_5 d2 hv (by rw [show h 602 (h 2 5 l) 0 = a 2 285 l from em]; exact ml)))) ?_
    rw [show h 602 (h 2 5 l) 0 = a 2 285 l from em]
    exact cO_v (cAll_mk (cAll_th c) z0) ⟨fun k r i u => if_neg (by omega), rfl, rfl⟩
  · have k1 : kLn a l = 1 := if_neg z
    rw [k1, if_neg (by decide)]
    exact cO_eq ((rX12_setMark_0 c.1).trans (vret_x (C_lineOfX c z) rfl)) (cO_x (cAll_th c) cR_rf (by decide) rfl)
theorem iX_setMark (g : iG a) (i : iH a) : iG (tSm a l v) ∧ iH (tSm a l v) := by
  unfold tSm
  by_cases z : kLn a l = 0
  · rw [if_pos z]
    have g0 : iG (th 0 a) := iG_tk g
    have i0 : iH (th 0 a) := iH_th i
    have g1 : iG (vup (th 0 a) 2 285 l v) := g0
    have i1 : iH (vup (th 0 a) 2 285 l v) := i0
    exact ⟨g1, i1⟩
  · rw [if_neg z]
    exact ⟨iG_tk g, iH_th i⟩
theorem iM_setMark (m : iM a) (hv : v = 0 ∨ v = 1) : iM (tSm a l v) := by
  unfold tSm
  split
  · intro q u w
    have w : q < a 1504 282 0 := w
    by_cases z : q = l
    · rw [z, vup_s]; exact hv
    · have e2 : vup (th 0 a) 2 285 l v 2 285 q = a 2 285 q := (if_neg (fun w => z w.2.2)).trans (congrFun (th_e (k := 0) 285) q)
      rw [e2]; exact m q u w
  · intro q u w
    rw [th_e]
    exact m q u w
end SMK
