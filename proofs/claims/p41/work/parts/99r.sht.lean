/-! heights of open panes are at least 1 -/
section SHT
variable {op wt ls lk : Int → Int}
noncomputable def sN (op ls lk : Int → Int) (p : Int) : Int := if op p = 0 then 0 else if lk p = -1 then ls p else lk p
theorem sSh_01 {p : Int} : sSh op lk p = 0 ∨ sSh op lk p = 1 := by
  have := sLk_01 (op := op) (lk := lk) (p := p)
  unfold sSh
  split <;> omega
theorem sSh_some (ho : ∃ p, 0 ≤ p ∧ p < 4 ∧ ¬ op p = 0) : ∃ p, 0 ≤ p ∧ p < 4 ∧ sSh op lk p = 1 := by
  by_cases fr : anyI (fun k => ¬ op k = 0 ∧ lk k = -1) 0 4
  · obtain ⟨q, q0, q4, q1, q2⟩ := fr
    refine ⟨q, q0, q4, ?_⟩
    rw [sSh_fr ⟨q, q0, q4, q1, q2⟩]
    exact if_pos ⟨q1, q2⟩
  · obtain ⟨q, q0, q4, qc⟩ := ho
    have lo := sLo_ge (op := op) 4 q q0 (by omega) qc
    obtain ⟨l1, l2, l3⟩ := (sLo_in (op := op) 4).resolve_left (by omega)
    refine ⟨sLo op 4, l1, by omega, ?_⟩
    rw [(sSh_nf fr ⟨l1, by omega⟩).1, if_neg l3, if_pos rfl]
theorem sSm_le {g g2 : Int → Int} (h : ∀ p, 0 ≤ p → p < 4 → g p ≤ g2 p) : sSm g 4 ≤ sSm g2 4 := by
  rw [sSm_4, sSm_4]
  have a0 := h 0 (by omega) (by omega)
  have a1 := h 1 (by omega) (by omega)
  have a2 := h 2 (by omega) (by omega)
  have a3 := h 3 (by omega) (by omega)
  omega
theorem sF1_N (b : stB op wt ls lk) {p : Int} (h0 : 0 ≤ p) (h4 : p < 4) : sF1 op lk p ≤ sN op ls lk p ∧ (sSh op lk p = 0 → sF1 op lk p = sN op ls lk p) ∧ (sSh op lk p = 1 → sF1 op lk p = 0 ∧ 1 ≤ sN op ls lk p) := by
  have bp := b p h0 h4
  have sh := sSh_s (op := op) (lk := lk) p
  have l1 : sLk op lk p = 1 → ¬ lk p = -1 := fun z w => by
    have : sLk op lk p = 0 := b2i_f (fun y => y.1 w)
    omega
  unfold sF1 sN
  by_cases c : op p = 0
  · have := sh.2 c
    rw [if_pos c, if_pos c]
    omega
  · have := sh.1 c
    rw [if_neg c, if_neg c]
    rcases sLk_01 (op := op) (lk := lk) (p := p) with z | z
    · rw [if_pos z]
      split <;> omega
    · rw [if_neg (by omega), if_neg (l1 z)]
      omega
theorem sLf_4 (b : stB op wt ls lk) (ho : ∃ p, 0 ≤ p ∧ p < 4 ∧ ¬ op p = 0) : sLf op wt lk 4 = 0 := by
  have re := sRe_in b
  have ge := sG_sm b 4 (Nat.le_refl _)
  have low : ∀ j : Nat, j ≤ 4 → sLf op wt lk j ≤ max 0 (sLf op wt lk 0 - sSm (sSh op lk) j) := by
    intro j
    induction j with
    | zero =>
      intro _
      show sLf op wt lk 0 ≤ max 0 (sLf op wt lk 0 - 0)
      omega
    | succ j ih =>
      intro hj
      have ih := ih (by omega)
      have ge2 := (sG_sm b j (by omega)).2
      have eL : sLf op wt lk (j + 1) = sLf op wt lk j - (if op j = 0 then 0 else if sLk op lk j = 0 ∧ ¬ (sLf op wt lk j ≤ 0) then 1 else 0) := rfl
      have eS : sSm (sSh op lk) (j + 1) = sSm (sSh op lk) j + sSh op lk j := rfl
      have sh := sSh_s (op := op) (lk := lk) (j : Int)
      have l01 := sLk_01 (op := op) (lk := lk) (p := (j : Int))
      rw [eL, eS]
      by_cases c : op j = 0
      · have := sh.2 c
        rw [if_pos c]
        omega
      · have := sh.1 c
        rw [if_neg c]
        split <;> omega
  have e0 : sLf op wt lk 0 = sRe op lk - sSm (sQ op wt lk) 4 := rfl
  obtain ⟨q, q0, q4, q1⟩ := sSh_some (lk := lk) ho
  -- fewer are left than share
  have each : ∀ p, 0 ≤ p → p < 4 → sRe op lk * sWt op wt lk p + sSh op lk p ≤ sSm (sWt op wt lk) 4 * sQ op wt lk p + sSm (sWt op wt lk) 4 * sSh op lk p := by
    intro p u v
    have sh := sSh_s (op := op) (lk := lk) p
    have l01 := sLk_01 (op := op) (lk := lk) (p := p)
    by_cases c : op p = 0
    · have w0 : sWt op wt lk p = 0 := if_pos c
      have z0 : sQ op wt lk p = 0 := if_pos c
      rw [w0, z0, sh.2 c, Int.mul_zero, Int.mul_zero]
      omega
    · by_cases d : sLk op lk p = 0
      · have w1 : sWt op wt lk p = wt p := (sWt_in b u v).2.2 c d
        have wp := (sQ_in b u v).2.1 c d
        have z1 : sQ op wt lk p = sRe op lk * wt p / sSm (sWt op wt lk) 4 := by unfold sQ; rw [if_neg c, if_pos d]
        have s1 : sSh op lk p = 1 := by have := sh.1 c; omega
        have m1 := Int.mul_ediv_add_emod (sRe op lk * wt p) (sSm (sWt op wt lk) 4)
        have m2 := Int.emod_lt_of_pos (sRe op lk * wt p) wp
        rw [w1, z1, s1, Int.mul_one]
        omega
      · have w0 : sWt op wt lk p = 0 := by unfold sWt; rw [if_neg c, if_neg d]
        have z0 : sQ op wt lk p = 0 := by unfold sQ; rw [if_neg c, if_neg d]
        have s0 : sSh op lk p = 0 := by have := sh.1 c; omega
        rw [w0, z0, s0, Int.mul_zero, Int.mul_zero]
        omega
  have a0 := each 0 (by omega) (by omega)
  have a1 := each 1 (by omega) (by omega)
  have a2 := each 2 (by omega) (by omega)
  have a3 := each 3 (by omega) (by omega)
  have s0 := sSh_01 (op := op) (lk := lk) (p := 0)
  have s1 := sSh_01 (op := op) (lk := lk) (p := 1)
  have s2 := sSh_01 (op := op) (lk := lk) (p := 2)
  have s3 := sSh_01 (op := op) (lk := lk) (p := 3)
  have ns : 1 ≤ sSm (sSh op lk) 4 := by
    rw [sSm_4]
    rcases (show q = 0 ∨ q = 1 ∨ q = 2 ∨ q = 3 by omega) with z | z | z | z <;> subst z <;> omega
  have wp : 0 < sSm (sWt op wt lk) 4 := by
    have sh := sSh_s (op := op) (lk := lk) q
    have oc : ¬ op q = 0 := fun z => by have := sh.2 z; omega
    have := sh.1 oc
    exact (sQ_in b q0 q4).2.1 oc (by omega)
  have tot : sSm (sWt op wt lk) 4 * sRe op lk < sSm (sWt op wt lk) 4 * (sSm (sQ op wt lk) 4 + sSm (sSh op lk) 4) := by
    have l : sSm (sWt op wt lk) 4 * sRe op lk = sRe op lk * sWt op wt lk 0 + sRe op lk * sWt op wt lk 1 + sRe op lk * sWt op wt lk 2 + sRe op lk * sWt op wt lk 3 := by
      rw [sSm_4 (g := sWt op wt lk), Int.mul_comm, Int.mul_add, Int.mul_add, Int.mul_add]
    have r : sSm (sWt op wt lk) 4 * (sSm (sQ op wt lk) 4 + sSm (sSh op lk) 4) = (sSm (sWt op wt lk) 4 * sQ op wt lk 0 + sSm (sWt op wt lk) 4 * sSh op lk 0) + (sSm (sWt op wt lk) 4 * sQ op wt lk 1 + sSm (sWt op wt lk) 4 * sSh op lk 1) + (sSm (sWt op wt lk) 4 * sQ op wt lk 2 + sSm (sWt op wt lk) 4 * sSh op lk 2) + (sSm (sWt op wt lk) 4 * sQ op wt lk 3 + sSm (sWt op wt lk) 4 * sSh op lk 3) := by
      rw [sSm_4 (g := sQ op wt lk), sSm_4 (g := sSh op lk), Int.mul_add, Int.mul_add, Int.mul_add, Int.mul_add, Int.mul_add, Int.mul_add, Int.mul_add]
      omega
    have n4 := sSm_4 (g := sSh op lk)
    rw [l, r]
    omega
  have lt := Int.lt_of_mul_lt_mul_left tot (Int.le_of_lt wp)
  have := low 4 (Nat.le_refl _)
  omega
theorem sHt_in (b : stB op wt ls lk) (ho : ∃ p, 0 ≤ p ∧ p < 4 ∧ ¬ op p = 0) (room : sSm (sN op ls lk) 4 ≤ 24) {p : Int} (h0 : 0 ≤ p) (h4 : p < 4) : (0 ≤ sHt op wt ls lk p ∧ sHt op wt ls lk p ≤ 24) ∧ (¬ op p = 0 → 1 ≤ sHt op wt ls lk p) := by
  obtain ⟨t1, t2, t3, t4⟩ := sTf_in (op := op) (ls := ls) (lk := lk) 24 (sF3 op wt lk) (sF3_ex b)
  have t4 := t4 (fun i u v => ⟨(sF3_in b u v).1, by have := b i u v; omega⟩)
  have eT : sTf op ls lk 24 (sF3 op wt lk) = sHt op wt ls lk := rfl
  rw [eT] at t1 t2 t3 t4
  have f1 := sSm_le (g := sF1 op lk) (g2 := sN op ls lk) (fun i u v => (sF1_N b u v).1)
  have eR : sRe op lk = 24 - sSm (sF1 op lk) 4 := by
    unfold sRe
    split <;> omega
  have l4 := sLf_4 b ho
  have gs := (sG_sm b 4 (Nat.le_refl _)).1
  have e0 : sLf op wt lk 0 = sRe op lk - sSm (sQ op wt lk) 4 := rfl
  have f3 : ∀ i, 0 ≤ i → i < 4 → sF3 op wt lk i = sF1 op lk i + sQ op wt lk i + sG op wt lk i := fun i u v => by
    have := (sF2_in b u v).2.2
    have e3 : sF3 op wt lk i = sF2 op wt lk i + sG op wt lk i := rfl
    omega
  have tot : sSm (sHt op wt ls lk) 4 = 24 := by
    rw [t2, sSm_4, f3 0 (by omega) (by omega), f3 1 (by omega) (by omega), f3 2 (by omega) (by omega), f3 3 (by omega) (by omega)]
    have a1 := sSm_4 (g := sF1 op lk)
    have a2 := sSm_4 (g := sQ op wt lk)
    have a3 := sSm_4 (g := sG op wt lk)
    omega
  have n0 := t4 0 (by omega) (by omega)
  have n1 := t4 1 (by omega) (by omega)
  have n2 := t4 2 (by omega) (by omega)
  have n3 := t4 3 (by omega) (by omega)
  have s4 := sSm_4 (g := sHt op wt ls lk)
  have le : sHt op wt ls lk p ≤ 24 := by
    rcases (show p = 0 ∨ p = 1 ∨ p = 2 ∨ p = 3 by omega) with z | z | z | z <;> subst z <;> omega
  refine ⟨⟨t4 p h0 h4, le⟩, fun oc => ?_⟩
  have keep : ∀ i, 0 ≤ i → i < 4 → sSh op lk i = 0 → sHt op wt ls lk i = sN op ls lk i := by
    intro i u v c
    have sh := sSh_s (op := op) (lk := lk) i
    rw [t1 i c, f3 i u v, ← (sF1_N b u v).2.1 c]
    have q0 : sQ op wt lk i = 0 := by
      unfold sQ
      by_cases w : op i = 0
      · rw [if_pos w]
      · have := sh.1 w
        rw [if_neg w, if_neg (by omega)]
    have g0 : sG op wt lk i = 0 := by
      unfold sG
      by_cases w : op i = 0
      · rw [if_pos w]
      · have := sh.1 w
        rw [if_neg w, if_neg (by omega)]
    omega
  have bp := b p h0 h4
  rcases sSh_01 (op := op) (lk := lk) (p := p) with c | c
  · rw [keep p h0 h4 c]
    unfold sN
    rw [if_neg oc]
    split <;> omega
  · rcases t3 with z | z
    · have := sPo_no 4 0 (Int.le_refl _) z p h0 (by omega) (by omega)
      omega
    · have nr := (sRi_no 4 0 (-1) (Int.le_refl _) z).2
      have nN := ((sF1_N b h0 h4).2.2 c).2
      have les : ∀ i, 0 ≤ i → i < 4 → ¬ i = p → sHt op wt ls lk i ≤ sN op ls lk i := by
        intro i u v hi
        rcases sSh_01 (op := op) (lk := lk) (p := i) with d | d
        · rw [keep i u v d]; exact Int.le_refl _
        · have r1 := nr i u (by omega) (by omega)
          have oi : ¬ op i = 0 := fun w => by have := (sSh_s (op := op) (lk := lk) i).2 w; omega
          have fr : anyI (fun k => ¬ op k = 0 ∧ lk k = -1) 0 4 := by
            refine Classical.byContradiction fun w => ?_
            have x1 := (sSh_nf w ⟨u, v⟩).1
            have x2 := (sSh_nf w ⟨h0, h4⟩).1
            rw [if_neg oi] at x1
            rw [if_neg oc] at x2
            by_cases y1 : i = sLo op 4
            · by_cases y2 : p = sLo op 4
              · omega
              · rw [if_neg y2] at x2; omega
            · rw [if_neg y1] at x1; omega
          have x1 : sS0 op lk i = 1 := (sSh_fr fr).symm.trans d
          have li : lk i = -1 := by
            refine Classical.byContradiction fun w => ?_
            have : sS0 op lk i = 0 := if_neg (fun y => w y.2)
            omega
          have : sN op ls lk i = ls i := by unfold sN; rw [if_neg oi, if_pos li]
          omega
      refine Classical.byContradiction fun w => ?_
      have i0 := les 0 (by omega) (by omega)
      have i1 := les 1 (by omega) (by omega)
      have i2 := les 2 (by omega) (by omega)
      have i3 := les 3 (by omega) (by omega)
      have sn := sSm_4 (g := sN op ls lk)
      rcases (show p = 0 ∨ p = 1 ∨ p = 2 ∨ p = 3 by omega) with y | y | y | y <;> subst y <;> omega
end SHT

