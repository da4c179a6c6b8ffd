section MVS
variable {h a b a1 : vH} {n m p l x mv v r i : Int}
def mvP (a a1 : vH) (p mv : Int) : Prop := eqA a a1 ∧ (∀ i, a1 2 289 i = a 2 289 i) ∧ (cuL a1 p = (gMv a p mv).1 ∧ cuX a1 p = (gMv a p mv).2) ∧ a1 2 307 p = (if mv = 2 ∨ mv = 3 ∨ ¬ (mv < 6) then a 2 307 p else cuC a1 p) ∧ isQ a p (gMv a p mv)
theorem Mk_sp (g : iG b) (hp : 0 ≤ p ∧ p < 4) : (cuL (tMk b p mv) p = (gMv b p mv).1 ∧ cuX (tMk b p mv) p = (gMv b p mv).2) ∧ tMk b p mv 2 307 p = (if mv = 2 ∨ mv = 3 ∨ ¬ (mv < 6) then b 2 307 p else cuC (tMk b p mv) p) := by
  have z := isQ_Mv (mv := mv) g hp
  have c1 := ch_cu g hp (l := (gMv b p mv).1) (x := (gMv b p mv).2) z
  have y1 : eqA b (tM1 b p mv) := eqA_ch
  have c2 : eqC (tM1 b p mv) (tM2 b p mv) p := by
    unfold tM2
    split
    · exact eqC_wn
    · exact eqC_wn
  have y2 : eqA (tM1 b p mv) (tM2 b p mv) := by
    unfold tM2
    split
    · exact eqA_wn
    · exact eqA_wn
  have c3 : eqC (tM2 b p mv) (tMk b p mv) p := by
    unfold tMk
    split
    · exact ⟨rfl, rfl⟩
    · exact eqC_lk
  have y3 : eqA (tM2 b p mv) (tMk b p mv) := by
    unfold tMk
    split
    · exact eqA_rf
    · exact eqA_lk
  have w3 : tMk b p mv 2 307 p = tM2 b p mv 2 307 p := by
    unfold tMk
    split
    · rfl
    · exact lk_q (by decide) (by decide)
  have eC : cuC (tMk b p mv) p = cuC (tM1 b p mv) p := (cuC_eq y3.1 c3).trans (cuC_eq y2.1 c2)
  refine ⟨⟨?_, ?_⟩, ?_⟩
  · rw [cuL_eq y3.1 c3, cuL_eq y2.1 c2]; exact c1.1
  · rw [cuX_eq y3.1 c3, cuX_eq y2.1 c2]; exact c1.2
  · rw [w3, eC]
    unfold tM2
    by_cases c : mv = 2 ∨ mv = 3 ∨ ¬ (mv < 6)
    · rw [if_pos c, if_pos c]
      exact vup_s.trans ch_w
    · rw [if_neg c, if_neg c]
      exact vup_s
theorem mv_sp (g : iG a) (i : iH a) (hp : 0 ≤ p ∧ p < 4) (hm : 0 ≤ mv ∧ mv ≤ 7) (ho : ¬ a 2 289 p = 0) : kMv a p mv = 0 ∧ vMv a p mv = mvd a p mv ∧ mvP a (tMv a p mv) p mv := by
  have k : kMv a p mv = 0 := by unfold kMv; rw [if_pos hp, if_pos hm, if_neg ho]
  have e : tMv a p mv = tMk (tLg (th 0 a) p mv) p mv := if_pos k
  have M : eqM p a (tLg (th 0 a) p mv) := eqM_lg
  have gb : iG (tLg (th 0 a) p mv) := iG_L eqL_lg (iG_tk g)
  have s := Mk_sp (mv := mv) gb hp
  have y : eqL (th 0 a) (tLg (th 0 a) p mv) := eqL_lg
  have B : eqB p (tLg (th 0 a) p mv) (tMk (tLg (th 0 a) p mv) p mv) := eqB_Mk
  refine ⟨k, mvd_qe M, ?_⟩
  rw [e]
  refine ⟨eqA_tr M.1 (eqB_A B), fun i => ?_, ?_, ?_, isQ_Mv g hp⟩
  · rw [B _ _ _ (by omega)]
    unfold tLg
    split <;> (repeat' split) <;> (first | rfl | omega)
  · rw [← gMv_qe M]; exact s.1
  · rw [s.2, M.2.2.1]
theorem S_move (j : JG n m h a) (hp : 0 ≤ p ∧ p < 4) (hm : 0 ≤ mv ∧ mv ≤ 7) (ho : ¬ a 2 289 p = 0) : ∃ h1 a1, vcl mX12_move [(1, 3), (0, p), (0, mv)] h = some (.inl (some (0, mvd a p mv)), h1) ∧ JG (n + 1) (m + 1) h1 a1 ∧ mvP a a1 p mv := by
  have x := j.2.1.1.1
  obtain ⟨k, e, s⟩ := mv_sp x.1 x.2.1 hp hm ho
  obtain ⟨h1, c1, c2⟩ := S_e j (cN_of j.2.2.1 (Cq_move (p := p) (mv := mv) j.1 x.1 x.2.1)) (iP_move (p := p) (v := mv) j.2.1)
  rw [if_pos k, e] at c1
  exact ⟨h1, _, c1, c2, s⟩
theorem ln_mono (g : iG a) (hp : 0 ≤ p ∧ p < 4) {r s : Int} (hr : isRw a p r) (hs : isRw a p s) (h : r ≤ s) : (mLn a p r : Int) ≤ mLn a p s := by
  have i1 := mLn_in g.1 hr
  have i2 := mLn_in g.1 hs
  have gl := g.1.2.1
  by_cases c : (mLn a p s : Int) < mLn a p r
  · have le := mRA_le g.1 hp (mLn a p r) (mLn a p s + 1) (by omega) (by omega)
    have e : mRA a p (mLn a p s + 1) = mRA a p (mLn a p s) + mRC a p (mLn a p s) := rfl
    omega
  · omega
theorem Rw_up (g : iG a) (hp : 0 ≤ p ∧ p < 4) {y : Int} : (y ≤ 0 → (gRw a p y).1 ≤ cuL a p) ∧ (0 ≤ y → cuL a p ≤ (gRw a p y).1) := by
  have c := cu_in g hp
  have t := rTo_in (y := y) g hp
  obtain ⟨A1, A2, A3⟩ := rw_all g hp
  have e : rTo a p y = if mAll a p - 1 ≤ (if cuR a p + y ≤ 0 then 0 else cuR a p + y) then mAll a p - 1 else (if cuR a p + y ≤ 0 then 0 else cuR a p + y) := rfl
  unfold gRw
  split
  · exact ⟨fun _ => Int.le_refl _, fun _ => Int.le_refl _⟩
  · refine ⟨fun z => ?_, fun z => ?_⟩
    · have := ln_mono g hp t c.2.2.2.1 (by rw [e]; repeat' split <;> omega)
      show (mLn a p (rTo a p y) : Int) ≤ _
      omega
    · have := ln_mono g hp c.2.2.2.1 t (by rw [e]; repeat' split <;> omega)
      show _ ≤ (mLn a p (rTo a p y) : Int)
      omega
end MVS
