/-! the reference shares the screen -/
theorem wr_nx {A j : Int} {H : vH} {F : Int → Int} {v : Int} (e : v = F j) (h : ∀ p, 0 ≤ p → p < j → H 2 A p = F p) : ∀ p, 0 ≤ p → p < j + 1 → vup H 2 A j v 2 A p = F p := by
  intro p u w
  rw [vup_2]
  by_cases z : p = j
  · rw [if_pos z, z]; exact e
  · rw [if_neg z]; exact h p u (by omega)
section MSH
variable {h H : vH} {op wt ls lk f : Int → Int}
theorem M_sh1 (sM : shModel h) (s : mSt h op wt ls lk) (b : stB op wt ls lk) : ∀ (n j : Nat) (H : vH), j + n = 4 → hF 310 h H → (∀ p : Int, 0 ≤ p → p < j → H 2 310 p = sF1 op lk p) → ∃ H', vrun mX13_shares 7 [(1, 282), (0, 24 - sSm (sF1 op lk) j), (0, sSm (sWt op wt lk) j), (0, (j : Int)), (9, 0), (9, 0)] [] H = vrun mX13_shares 101 [(1, 282), (0, sRe op lk), (0, sSm (sWt op wt lk) 4), (0, sRe op lk), (0, 0), (9, 0)] [] H' ∧ hF 310 h H' ∧ ∀ p, 0 ≤ p → p < 4 → H' 2 310 p = sF1 op lk p := by
  intro n
  induction n with
  | zero =>
    intro j H hj hX hP
    have e : j = 4 := by omega
    subst e
    have sM1 := shModel_sx (hF_sx hX) sM
    refine ⟨H, (rX13_shares_7 sM1 (by omega) (by omega) (by omega) (by omega) (by omega)).trans ?_, hX, hP⟩
    rw [if_pos (by omega)]
    rfl
  | succ n ih =>
    intro j H hj hX hP
    have sM1 := shModel_sx (hF_sx hX) sM
    have s1 := mSt_F hX s
    have sj := s1 j (by omega) (by omega)
    have f1 := sF1_in b (p := (j : Int)) (by omega) (by omega)
    have w1 := sWt_in b (p := (j : Int)) (by omega) (by omega)
    have q1 := sSm_in (g := sF1 op lk) (m := 16) (fun p u v => sF1_in b u v) j (by omega)
    have q2 := sSm_in (g := sWt op wt lk) (m := 9) (fun p u v => ⟨(sWt_in b u v).1, (sWt_in b u v).2.1⟩) j (by omega)
    have eF : sSm (sF1 op lk) (j + 1) = sSm (sF1 op lk) j + sF1 op lk j := rfl
    have eW : sSm (sWt op wt lk) (j + 1) = sSm (sWt op wt lk) j + sWt op wt lk j := rfl
    have bj := b j (by omega) (by omega)
    by_cases c : op j = 0
    · have z1 : sF1 op lk j = 0 := if_pos c
      have z2 : sWt op wt lk j = 0 := if_pos c
      have rd : (vup H 2 310 (j : Int) 0) 2 310 (j : Int) = 0 := vup_s
      have base := rX13_shares_7 (x1 := 24 - sSm (sF1 op lk) j) (x2 := sSm (sWt op wt lk) j) (x3 := (j : Int)) (h := H) sM1 (by omega) (by omega) (by omega) (by omega) (by omega)
      rw [if_neg (by omega), sj.1, if_pos c, if_pos c, rd] at base
      obtain ⟨H', i1, i2⟩ := ih (j + 1) (vup H 2 310 (j : Int) 0) (by omega) (hF_up hX (by omega)) (by
        rw [show ((j + 1 : Nat) : Int) = (j : Int) + 1 by omega]
        exact wr_nx z1.symm hP)
      refine ⟨H', base.trans ?_, i2⟩
      rw [show 24 - sSm (sF1 op lk) j - 0 = 24 - sSm (sF1 op lk) (j + 1) by omega, show sSm (sWt op wt lk) j + 0 = sSm (sWt op wt lk) (j + 1) by omega, show (j : Int) + 1 = ((j + 1 : Nat) : Int) by omega]
      exact i1
    · have base := rX13_shares_7 (x1 := 24 - sSm (sF1 op lk) j) (x2 := sSm (sWt op wt lk) j) (x3 := (j : Int)) (h := H) sM1 (by omega) (fun _ z => absurd (sj.1.symm.trans z) c) (fun _ z => absurd (sj.1.symm.trans z) c) (fun _ z => absurd (sj.1.symm.trans z) c) (fun _ z => absurd (sj.1.symm.trans z) c)
      rw [if_neg (by omega), sj.1, if_neg c] at base
      have l1 := M_isLocked sM1 s1 (p := (j : Int)) (by omega)
      have ev : (if sLk op lk j = 0 then 0 else H 2 292 (j : Int)) = sF1 op lk j := by
        unfold sF1
        rw [sj.2.2.2, if_neg c]
      have rd : (vup H 2 310 (j : Int) (sF1 op lk j)) 2 310 (j : Int) = sF1 op lk j := vup_s
      have ro : (vup H 2 310 (j : Int) (sF1 op lk j)) 2 289 (j : Int) = op j := (vup_r (by decide)).trans sj.1
      have sh := shM_310 sM1
      have st2 := rX13_shares_31 (x1 := 24 - sSm (sF1 op lk) j) (x2 := sSm (sWt op wt lk) j) (x3 := (j : Int)) (y0 := sLk op lk j) (y1 := (j : Int)) (y2 := 310) (h := H) sM1 (by omega) (by omega) sh.1 (by omega) (by omega) (by omega) (by omega) (by rw [ev, rd]; omega) (by rw [ev, rd]; omega) (by rw [ev, ro]; omega) (by rw [ev, ro]; omega)
      rw [ev, ro, if_neg c, rd] at st2
      have hX2 : hF 310 h (vup H 2 310 (j : Int) (sF1 op lk j)) := hF_up hX (by omega)
      have sM2 := shModel_sx (hF_sx hX2) sM
      have s2 := mSt_F hX2 s
      have sj2 := s2 j (by omega) (by omega)
      have l2 := M_isLocked sM2 s2 (p := (j : Int)) (by omega)
      have ew : (if sLk op lk j = 0 then (vup H 2 310 (j : Int) (sF1 op lk j)) 2 290 (j : Int) else 0) = sWt op wt lk j := by
        unfold sWt
        rw [sj2.2.1, if_neg c]
      have st3 := rX13_shares_69 (x1 := 24 - sSm (sF1 op lk) j - sF1 op lk j) (x2 := sSm (sWt op wt lk) j) (x3 := (j : Int)) (y0 := sLk op lk j) (y1 := sSm (sWt op wt lk) j) (h := vup H 2 310 (j : Int) (sF1 op lk j)) sM2 (by omega) (by omega) (by rw [ew]; omega) (by rw [ew]; omega) (by omega) (by omega)
      rw [ew] at st3
      obtain ⟨H', i1, i2⟩ := ih (j + 1) (vup H 2 310 (j : Int) (sF1 op lk j)) (by omega) hX2 (by
        rw [show ((j + 1 : Nat) : Int) = (j : Int) + 1 by omega]
        exact wr_nx rfl hP)
      refine ⟨H', base.trans ((vret_v l1).trans (st2.trans ((vret_v l2).trans (st3.trans ?_)))), i2⟩
      rw [show 24 - sSm (sF1 op lk) j - sF1 op lk j = 24 - sSm (sF1 op lk) (j + 1) by omega, ← eW, show (j : Int) + 1 = ((j + 1 : Nat) : Int) by omega]
      exact i1
theorem M_sh2 (sM : shModel h) (s : mSt h op wt ls lk) (b : stB op wt ls lk) : ∀ (n j : Nat) (H : vH), j + n = 4 → hF 310 h H → (∀ p : Int, 0 ≤ p → p < j → H 2 310 p = sF2 op wt lk p) → (∀ p : Int, j ≤ p → p < 4 → H 2 310 p = sF1 op lk p) → ∃ H', vrun mX13_shares 101 [(1, 282), (0, sRe op lk), (0, sSm (sWt op wt lk) 4), (0, sRe op lk - sSm (sQ op wt lk) j), (0, (j : Int)), (9, 0)] [] H = vrun mX13_shares 163 [(1, 282), (0, sRe op lk), (0, sSm (sWt op wt lk) 4), (0, sLf op wt lk 0), (0, 0), (9, 0)] [] H' ∧ hF 310 h H' ∧ ∀ p, 0 ≤ p → p < 4 → H' 2 310 p = sF2 op wt lk p := by
  intro n
  induction n with
  | zero =>
    intro j H hj hX hP hQ
    have e : j = 4 := by omega
    subst e
    have sM1 := shModel_sx (hF_sx hX) sM
    refine ⟨H, (rX13_shares_101 sM1 (by omega)).trans ?_, hX, hP⟩
    rw [if_pos (by omega)]
    rfl
  | succ n ih =>
    intro j H hj hX hP hQ
    have sM1 := shModel_sx (hF_sx hX) sM
    have s1 := mSt_F hX s
    have sj := s1 j (by omega) (by omega)
    have q := sQ_in b (p := (j : Int)) (by omega) (by omega)
    have eQ : sSm (sQ op wt lk) (j + 1) = sSm (sQ op wt lk) j + sQ op wt lk j := rfl
    have qs := sSm_in (g := sQ op wt lk) (m := 216) (fun p u v => (sQ_in b u v).2.2) j (by omega)
    have re := sRe_in b
    have base := rX13_shares_101 (x1 := sRe op lk) (x2 := sSm (sWt op wt lk) 4) (x3 := sRe op lk - sSm (sQ op wt lk) j) (x4 := (j : Int)) (h := H) sM1 (by omega)
    rw [if_neg (by omega), sj.1] at base
    have skip : sF2 op wt lk j = sF1 op lk j → ∀ p, 0 ≤ p → p < ((j + 1 : Nat) : Int) → H 2 310 p = sF2 op wt lk p := by
      intro z p u v
      by_cases y : p = j
      · rw [y, z]; exact hQ j (Int.le_refl _) (by omega)
      · exact hP p u (by omega)
    by_cases c : op j = 0
    · have z1 : sF2 op wt lk j = sF1 op lk j := if_pos c
      have z2 : sQ op wt lk j = 0 := if_pos c
      rw [if_pos c] at base
      obtain ⟨H', i1, i2⟩ := ih (j + 1) H (by omega) hX (skip z1) (fun p u v => hQ p (by omega) v)
      refine ⟨H', base.trans ?_, i2⟩
      rw [show sRe op lk - sSm (sQ op wt lk) j = sRe op lk - sSm (sQ op wt lk) (j + 1) by omega, show (j : Int) + 1 = ((j + 1 : Nat) : Int) by omega]
      exact i1
    · rw [if_neg c] at base
      have l1 := M_isLocked sM1 s1 (p := (j : Int)) (by omega)
      rcases sLk_01 (op := op) (lk := lk) (p := (j : Int)) with d | d
      · have z1 : sF2 op wt lk j = sRe op lk * wt j / sSm (sWt op wt lk) 4 := by unfold sF2; rw [if_neg c, if_pos d]
        have z2 : sQ op wt lk j = sRe op lk * wt j / sSm (sWt op wt lk) 4 := by unfold sQ; rw [if_neg c, if_pos d]
        have rd : (vup H 2 310 (j : Int) (sRe op lk * wt j / sSm (sWt op wt lk) 4)) 2 310 (j : Int) = sQ op wt lk j := vup_s.trans z2.symm
        have st := rX13_shares_123 (x1 := sRe op lk) (x2 := sSm (sWt op wt lk) 4) (x3 := sRe op lk - sSm (sQ op wt lk) j) (x4 := (j : Int)) (y0 := sLk op lk j) (h := H) sM1 (by omega) (by omega) (by rw [sj.2.1]; omega) (by rw [sj.2.1]; omega) (fun _ => q.2.1 c d) (by rw [sj.2.1]; exact fun _ => q.1.1) (by rw [sj.2.1, rd]; omega) (by rw [sj.2.1, rd]; omega) (by omega) (by omega)
        rw [sj.2.1, rd, if_pos d, if_pos d] at st
        obtain ⟨H', i1, i2⟩ := ih (j + 1) (vup H 2 310 (j : Int) (sRe op lk * wt j / sSm (sWt op wt lk) 4)) (by omega) (hF_up hX (by omega)) (by
          rw [show ((j + 1 : Nat) : Int) = (j : Int) + 1 by omega]
          exact wr_nx z1.symm hP) (fun p u v => by
          rw [vup_i (by omega)]; exact hQ p (by omega) v)
        refine ⟨H', base.trans ((vret_v l1).trans (st.trans ?_)), i2⟩
        rw [show sRe op lk - sSm (sQ op wt lk) j - sQ op wt lk j = sRe op lk - sSm (sQ op wt lk) (j + 1) by omega, show (j : Int) + 1 = ((j + 1 : Nat) : Int) by omega]
        exact i1
      · have z1 : sF2 op wt lk j = sF1 op lk j := by unfold sF2; rw [if_neg c, if_neg (by omega)]
        have z2 : sQ op wt lk j = 0 := by unfold sQ; rw [if_neg c, if_neg (by omega)]
        have st := rX13_shares_123 (x1 := sRe op lk) (x2 := sSm (sWt op wt lk) 4) (x3 := sRe op lk - sSm (sQ op wt lk) j) (x4 := (j : Int)) (y0 := sLk op lk j) (h := H) sM1 (by omega) (by omega) (by omega) (by omega) (by omega) (by omega) (by omega) (by omega) (by omega) (by omega)
        rw [if_neg (by omega), if_neg (by omega)] at st
        obtain ⟨H', i1, i2⟩ := ih (j + 1) H (by omega) hX (skip z1) (fun p u v => hQ p (by omega) v)
        refine ⟨H', base.trans ((vret_v l1).trans (st.trans ?_)), i2⟩
        rw [show sRe op lk - sSm (sQ op wt lk) j = sRe op lk - sSm (sQ op wt lk) (j + 1) by omega, show (j : Int) + 1 = ((j + 1 : Nat) : Int) by omega]
        exact i1
theorem M_sh3 (sM : shModel h) (s : mSt h op wt ls lk) (b : stB op wt ls lk) : ∀ (n j : Nat) (v : vv) (H : vH), j + n = 4 → hF 310 h H → (∀ p : Int, 0 ≤ p → p < j → H 2 310 p = sF3 op wt lk p) → (∀ p : Int, j ≤ p → p < 4 → H 2 310 p = sF2 op wt lk p) → ∃ H' x3 x4 v2, vrun mX13_shares 163 [(1, 282), (0, sRe op lk), (0, sSm (sWt op wt lk) 4), (0, sLf op wt lk j), (0, (j : Int)), v] [] H = vrun mX13_shares 238 [(1, 282), (0, sRe op lk), (0, sSm (sWt op wt lk) 4), (0, x3), (0, x4), v2] [] H' ∧ hF 310 h H' ∧ ∀ p, 0 ≤ p → p < 4 → H' 2 310 p = sF3 op wt lk p := by
  intro n
  induction n with
  | zero =>
    intro j v H hj hX hP hQ
    have e : j = 4 := by omega
    subst e
    have sM1 := shModel_sx (hF_sx hX) sM
    refine ⟨H, sLf op wt lk 4, 4, v, (rX13_shares_163 sM1 (by omega) (by omega) (by omega) (by omega) (by omega)).trans ?_, hX, hP⟩
    rw [if_pos (by omega)]
    rfl
  | succ n ih =>
    intro j v H hj hX hP hQ
    have sM1 := shModel_sx (hF_sx hX) sM
    have s1 := mSt_F hX s
    have sj := s1 j (by omega) (by omega)
    have f2 := sF2_in b (p := (j : Int)) (by omega) (by omega)
    have hj2 := hQ j (Int.le_refl _) (by omega)
    have lf := sLf_in b j (by omega)
    have eL : sLf op wt lk (j + 1) = sLf op wt lk j - (if op j = 0 then 0 else if sLk op lk j = 0 ∧ ¬ (sLf op wt lk j ≤ 0) then 1 else 0) := rfl
    have eG : sG op wt lk j = if op j = 0 then 0 else if sLk op lk j = 0 ∧ ¬ (sLf op wt lk j ≤ 0) then 1 else 0 := by
      unfold sG
      rw [Int.toNat_natCast]
    have e3 : sF3 op wt lk j = sF2 op wt lk j + sG op wt lk j := rfl
    have base := rX13_shares_163 (x1 := sRe op lk) (x2 := sSm (sWt op wt lk) 4) (x3 := sLf op wt lk j) (x4 := (j : Int)) (v5 := v) (h := H) sM1 (by omega) (by omega) (by omega) (by omega) (by omega)
    rw [if_neg (by omega), sj.1, hj2] at base
    rw [← eG] at eL
    by_cases c : op j = 0
    · rw [if_pos c] at base
      rw [if_pos c] at eG
      obtain ⟨H', x3, x4, v2, i1, i2⟩ := ih (j + 1) (0, 0) (vup H 2 310 (j : Int) (sF2 op wt lk j + 0)) (by omega) (hF_up hX (by omega)) (by
        rw [show ((j + 1 : Nat) : Int) = (j : Int) + 1 by omega]
        exact wr_nx (by omega) hP) (fun p u v => by
        rw [vup_i (by omega)]; exact hQ p (by omega) v)
      refine ⟨H', x3, x4, v2, base.trans ?_, i2⟩
      rw [show sLf op wt lk j - 0 = sLf op wt lk (j + 1) by omega, show (j : Int) + 1 = ((j + 1 : Nat) : Int) by omega]
      exact i1
    · rw [if_neg c] at base
      rw [if_neg c] at eG
      have l1 := M_isLocked sM1 s1 (p := (j : Int)) (by omega)
      have g01 := sG_01 (op := op) (wt := wt) (lk := lk) (p := (j : Int))
      have st := rX13_shares_185 (x1 := sRe op lk) (x2 := sSm (sWt op wt lk) 4) (x3 := sLf op wt lk j) (x4 := (j : Int)) (v5 := v) (y0 := sLk op lk j) (h := H) sM1 (by omega) (by omega) (by rw [← eG, hj2]; omega) (by rw [← eG, hj2]; omega) (by rw [← eG]; omega) (by rw [← eG]; omega)
      rw [← eG, hj2] at st
      obtain ⟨H', x3, x4, v2, i1, i2⟩ := ih (j + 1) (0, sG op wt lk j) (vup H 2 310 (j : Int) (sF2 op wt lk j + sG op wt lk j)) (by omega) (hF_up hX (by omega)) (by
        rw [show ((j + 1 : Nat) : Int) = (j : Int) + 1 by omega]
        exact wr_nx e3.symm hP) (fun p u v => by
        rw [vup_i (by omega)]; exact hQ p (by omega) v)
      refine ⟨H', x3, x4, v2, base.trans ((vret_v l1).trans (st.trans ?_)), i2⟩
      rw [← eL, show (j : Int) + 1 = ((j + 1 : Nat) : Int) by omega]
      exact i1
/-- what is given out -/
theorem sQ_sm (b : stB op wt ls lk) : sSm (sQ op wt lk) 4 ≤ sRe op lk := by
  have re := sRe_in b
  have w0 := sWt_in b (p := 0) (by omega) (by omega)
  have w1 := sWt_in b (p := 1) (by omega) (by omega)
  have w2 := sWt_in b (p := 2) (by omega) (by omega)
  have w3 := sWt_in b (p := 3) (by omega) (by omega)
  have e4 : sSm (sWt op wt lk) 4 = sWt op wt lk 0 + sWt op wt lk 1 + sWt op wt lk 2 + sWt op wt lk 3 := sSm_4
  by_cases z : sSm (sWt op wt lk) 4 = 0
  · have q0 : ∀ p, 0 ≤ p → p < 4 → sQ op wt lk p = 0 := by
      intro p u v
      have q := (sQ_in b u v).2.1
      unfold sQ
      split
      · rfl
      · split
        · rename_i c d
          have := q c d
          omega
        · rfl
    rw [sSm_4, q0 0 (by omega) (by omega), q0 1 (by omega) (by omega), q0 2 (by omega) (by omega), q0 3 (by omega) (by omega)]
    omega
  · have wp : 0 < sSm (sWt op wt lk) 4 := by omega
    have each : ∀ p, 0 ≤ p → p < 4 → sSm (sWt op wt lk) 4 * sQ op wt lk p ≤ sRe op lk * sWt op wt lk p := by
      intro p u v
      have m0 := (sQ_in b u v).1.1
      unfold sQ
      by_cases c : op p = 0
      · have : sWt op wt lk p = 0 := if_pos c
        rw [if_pos c, this, Int.mul_zero, Int.mul_zero]
        exact Int.le_refl _
      · rw [if_neg c]
        by_cases d : sLk op lk p = 0
        · have : sWt op wt lk p = wt p := (sWt_in b u v).2.2 c d
          rw [if_pos d, this]
          exact Int.mul_ediv_self_le (by omega)
        · have : sWt op wt lk p = 0 := by unfold sWt; rw [if_neg c, if_neg d]
          rw [if_neg d, this, Int.mul_zero, Int.mul_zero]
          exact Int.le_refl _
    have a0 := each 0 (by omega) (by omega)
    have a1 := each 1 (by omega) (by omega)
    have a2 := each 2 (by omega) (by omega)
    have a3 := each 3 (by omega) (by omega)
    have tot : sSm (sWt op wt lk) 4 * sSm (sQ op wt lk) 4 ≤ sSm (sWt op wt lk) 4 * sRe op lk := by
      have l : sSm (sWt op wt lk) 4 * sSm (sQ op wt lk) 4 = sSm (sWt op wt lk) 4 * sQ op wt lk 0 + sSm (sWt op wt lk) 4 * sQ op wt lk 1 + sSm (sWt op wt lk) 4 * sQ op wt lk 2 + sSm (sWt op wt lk) 4 * sQ op wt lk 3 := by
        rw [sSm_4 (g := sQ op wt lk), Int.mul_add, Int.mul_add, Int.mul_add]
      have r : sSm (sWt op wt lk) 4 * sRe op lk = sRe op lk * sWt op wt lk 0 + sRe op lk * sWt op wt lk 1 + sRe op lk * sWt op wt lk 2 + sRe op lk * sWt op wt lk 3 := by
        rw [e4, Int.mul_comm, Int.mul_add, Int.mul_add, Int.mul_add]
      rw [l, r]
      omega
    exact Int.le_of_mul_le_mul_left tot wp
theorem sG_sm (b : stB op wt ls lk) : ∀ j : Nat, j ≤ 4 → sSm (sG op wt lk) j = sLf op wt lk 0 - sLf op wt lk j ∧ 0 ≤ sLf op wt lk j
  | 0, _ => by
    have := sQ_sm b
    have e : sLf op wt lk 0 = sRe op lk - sSm (sQ op wt lk) 4 := rfl
    have e2 : sSm (sG op wt lk) 0 = 0 := rfl
    omega
  | j + 1, hj => by
    have ih := sG_sm b j (by omega)
    have e1 : sSm (sG op wt lk) (j + 1) = sSm (sG op wt lk) j + sG op wt lk j := rfl
    have eL : sLf op wt lk (j + 1) = sLf op wt lk j - (if op j = 0 then 0 else if sLk op lk j = 0 ∧ ¬ (sLf op wt lk j ≤ 0) then 1 else 0) := rfl
    have eG : sG op wt lk j = if op j = 0 then 0 else if sLk op lk j = 0 ∧ ¬ (sLf op wt lk j ≤ 0) then 1 else 0 := by
      unfold sG
      rw [Int.toNat_natCast]
    rw [← eG] at eL
    have : sG op wt lk j = 0 ∨ (sG op wt lk j = 1 ∧ 0 < sLf op wt lk j) := by
      rw [eG]
      split
      · exact Or.inl rfl
      · split
        · rename_i c d
          exact Or.inr ⟨rfl, by omega⟩
        · exact Or.inl rfl
    omega
theorem sF3_in (b : stB op wt ls lk) {p : Int} (h0 : 0 ≤ p) (h4 : p < 4) : 0 ≤ sF3 op wt lk p ∧ sF3 op wt lk p ≤ 217 := by
  have f2 := sF2_in b h0 h4
  have g01 := sG_01 (op := op) (wt := wt) (lk := lk) (p := p)
  have e3 : sF3 op wt lk p = sF2 op wt lk p + sG op wt lk p := rfl
  omega
theorem sF3_ex (b : stB op wt ls lk) : sSm (sEx op ls lk (sF3 op wt lk)) 4 ≤ 24 := by
  have re := sRe_in b
  have qs := sQ_sm b
  have gs := sG_sm b 4 (Nat.le_refl _)
  have e0 : sLf op wt lk 0 = sRe op lk - sSm (sQ op wt lk) 4 := rfl
  have each : ∀ p, 0 ≤ p → p < 4 → sEx op ls lk (sF3 op wt lk) p ≤ sQ op wt lk p + sG op wt lk p := by
    intro p u v
    have f2 := sF2_in b u v
    have q := (sQ_in b u v).2.2
    have g01 := sG_01 (op := op) (wt := wt) (lk := lk) (p := p)
    have e3 : sF3 op wt lk p = sF2 op wt lk p + sG op wt lk p := rfl
    have bp := b p u v
    unfold sEx
    by_cases c : sSh op lk p = 0
    · rw [if_pos c]; omega
    · rw [if_neg c]
      have : sF1 op lk p = 0 := by
        unfold sSh at c
        unfold sF1
        by_cases y : op p = 0
        · rw [if_pos y]
        · rw [if_neg y] at c
          rw [if_neg y]
          rcases sLk_01 (op := op) (lk := lk) (p := p) with z | z
          · rw [if_pos z]
          · omega
      split <;> omega
  have a0 := each 0 (by omega) (by omega)
  have a1 := each 1 (by omega) (by omega)
  have a2 := each 2 (by omega) (by omega)
  have a3 := each 3 (by omega) (by omega)
  have s1 := sSm_4 (g := sEx op ls lk (sF3 op wt lk))
  have s2 := sSm_4 (g := sQ op wt lk)
  have s3 := sSm_4 (g := sG op wt lk)
  omega
theorem M_shares (sM : shModel h) (s : mSt h op wt ls lk) (b : stB op wt ls lk) : ∃ h2, vcl mX13_shares [(1, 282)] h = some (.inl none, h2) ∧ hF 310 h h2 ∧ ∀ p, 0 ≤ p → p < 4 → h2 2 310 p = sHt op wt ls lk p := by
  obtain ⟨H1, a1, a2, a3⟩ := M_sh1 sM s b 4 0 h (by omega) hF_rf (fun p u v => by omega)
  obtain ⟨H2, b1, b2, b3⟩ := M_sh2 sM s b 4 0 H1 (by omega) a2 (fun p u v => by omega) (fun p u v => a3 p (by omega) v)
  obtain ⟨H3, x3, x4, v2, c1, c2, c3⟩ := M_sh3 sM s b 4 0 (9, 0) H2 (by omega) b2 (fun p u v => by omega) (fun p u v => b3 p (by omega) v)
  obtain ⟨H4, d1, d2, d3⟩ := M_sharesT sM s b (x1 := sRe op lk) (x2 := sSm (sWt op wt lk) 4) (x3 := x3) 24 (sF3 op wt lk) x4 v2 H3 (sF3_ex b) c2 c3 (fun p u v => by have := sF3_in b u v; omega)
  refine ⟨H4, rX13_shares_0.trans (a1.trans (Eq.trans ?_ (b1.trans (c1.trans d1)))), d2, d3⟩
  show vrun mX13_shares 101 [(1, 282), (0, sRe op lk), (0, sSm (sWt op wt lk) 4), (0, sRe op lk), (0, 0), (9, 0)] [] H1 = vrun mX13_shares 101 [(1, 282), (0, sRe op lk), (0, sSm (sWt op wt lk) 4), (0, sRe op lk - 0), (0, 0), (9, 0)] [] H1
  rw [Int.sub_zero]
end MSH
