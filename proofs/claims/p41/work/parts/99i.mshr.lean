/-! the reference shares the screen -/
theorem wr_nx {A j : Int} {H : vH} {F : Int → Int} {v : Int} (e : v = F j) (h : ∀ p, 0 ≤ p → p < j → H 2 A p = F p) : ∀ p, 0 ≤ p → p < j + 1 → vup H 2 A j v 2 A p = F p := by
  intro p u w
  rw [vup_2]
  by_cases z : p = j
  · rw [if_pos z, z]; exact e
  · rw [if_neg z]; exact h p u (by omega)
section MSH
variable {h H : vH} {op wt ls lk f : Int → Int}
/-- what is given out -/
theorem sQ_sm (b : stB op wt ls lk) : sSm (sQ op wt lk) 4 ≤ sRe op lk := by
  have re := sRe_in b
  have w0 := sWt_in b (p := 0) (by omega) (by omega)
  have w1 := sWt_in b (p := 1) (by omega) (by omega)
  have w2 := sWt_in b (p := 2) (by omega) (by omega)
  have w3 := sWt_in b (p := 3) (by omega) (by omega)
  have e4 : sSm (sWt op wt lk) 4 = sWt op wt lk 0 + sWt op wt lk 1 + sWt op wt lk 2 + sWt op wt lk 3 := sSm_4
  by_cases z : sSm (sWt op wt lk) 4 = 0
  · have q0 : ∀ p, 0 ≤ p → p < 4 → sQ op wt lk p = 0 := by
      intro p u v
      have q := (sQ_in b u v).2.1
      unfold sQ
      split
      · rfl
      · split
        · rename_i c d
          have := q c d
          omega
        · rfl
    rw [sSm_4, q0 0 (by omega) (by omega), q0 1 (by omega) (by omega), q0 2 (by omega) (by omega), q0 3 (by omega) (by omega)]
    omega
  · have wp : 0 < sSm (sWt op wt lk) 4 := by omega
    have each : ∀ p, 0 ≤ p → p < 4 → sSm (sWt op wt lk) 4 * sQ op wt lk p ≤ sRe op lk * sWt op wt lk p := by
      intro p u v
      have m0 := (sQ_in b u v).1.1
      unfold sQ
      by_cases c : op p = 0
      · have : sWt op wt lk p = 0 := if_pos c
        rw [if_pos c, this, Int.mul_zero, Int.mul_zero]
        exact Int.le_refl _
      · rw [if_neg c]
        by_cases d : sLk op lk p = 0
        · have : sWt op wt lk p = wt p := (sWt_in b u v).2.2 c d
          rw [if_pos d, this]
          exact Int.mul_ediv_self_le (by omega)
        · have : sWt op wt lk p = 0 := by unfold sWt; rw [if_neg c, if_neg d]
          rw [if_neg d, this, Int.mul_zero, Int.mul_zero]
          exact Int.le_refl _
    have a0 := each 0 (by omega) (by omega)
    have a1 := each 1 (by omega) (by omega)
    have a2 := each 2 (by omega) (by omega)
    have a3 := each 3 (by omega) (by omega)
    have tot : sSm (sWt op wt lk) 4 * sSm (sQ op wt lk) 4 ≤ sSm (sWt op wt lk) 4 * sRe op lk := by
      have l : sSm (sWt op wt lk) 4 * sSm (sQ op wt lk) 4 = sSm (sWt op wt lk) 4 * sQ op wt lk 0 + sSm (sWt op wt lk) 4 * sQ op wt lk 1 + sSm (sWt op wt lk) 4 * sQ op wt lk 2 + sSm (sWt op wt lk) 4 * sQ op wt lk 3 := by
        rw [sSm_4 (g := sQ op wt lk), Int.mul_add, Int.mul_add, Int.mul_add]
      have r : sSm (sWt op wt lk) 4 * sRe op lk = sRe op lk * sWt op wt lk 0 + sRe op lk * sWt op wt lk 1 + sRe op lk * sWt op wt lk 2 + sRe op lk * sWt op wt lk 3 := by
        rw [e4, Int.mul_comm, Int.mul_add, Int.mul_add, Int.mul_add]
      rw [l, r]
      omega
    exact Int.le_of_mul_le_mul_left tot wp
theorem sG_sm (b : stB op wt ls lk) : ∀ j : Nat, j ≤ 4 → sSm (sG op wt lk) j = sLf op wt lk 0 - sLf op wt lk j ∧ 0 ≤ sLf op wt lk j
  | 0, _ => by
    have := sQ_sm b
    have e : sLf op wt lk 0 = sRe op lk - sSm (sQ op wt lk) 4 := rfl
    have e2 : sSm (sG op wt lk) 0 = 0 := rfl
    omega
  | j + 1, hj => by
    have ih := sG_sm b j (by omega)
    have e1 : sSm (sG op wt lk) (j + 1) = sSm (sG op wt lk) j + sG op wt lk j := rfl
    have eL : sLf op wt lk (j + 1) = sLf op wt lk j - (if op j = 0 then 0 else if sLk op lk j = 0 ∧ ¬ (sLf op wt lk j ≤ 0) then 1 else 0) := rfl
    have eG : sG op wt lk j = if op j = 0 then 0 else if sLk op lk j = 0 ∧ ¬ (sLf op wt lk j ≤ 0) then 1 else 0 := by
      unfold sG
      rw [Int.toNat_natCast]
    rw [← eG] at eL
    have : sG op wt lk j = 0 ∨ (sG op wt lk j = 1 ∧ 0 < sLf op wt lk j) := by
      rw [eG]
      split
      · exact Or.inl rfl
      · split
        · rename_i c d
          exact Or.inr ⟨rfl, by omega⟩
        · exact Or.inl rfl
    omega
theorem sF3_in (b : stB op wt ls lk) {p : Int} (h0 : 0 ≤ p) (h4 : p < 4) : 0 ≤ sF3 op wt lk p ∧ sF3 op wt lk p ≤ 217 := by
  have f2 := sF2_in b h0 h4
  have g01 := sG_01 (op := op) (wt := wt) (lk := lk) (p := p)
  have e3 : sF3 op wt lk p = sF2 op wt lk p + sG op wt lk p := rfl
  omega
theorem sF3_ex (b : stB op wt ls lk) : sSm (sEx op ls lk (sF3 op wt lk)) 4 ≤ 24 := by
  have re := sRe_in b
  have qs := sQ_sm b
  have gs := sG_sm b 4 (Nat.le_refl _)
  have e0 : sLf op wt lk 0 = sRe op lk - sSm (sQ op wt lk) 4 := rfl
  have each : ∀ p, 0 ≤ p → p < 4 → sEx op ls lk (sF3 op wt lk) p ≤ sQ op wt lk p + sG op wt lk p := by
    intro p u v
    have f2 := sF2_in b u v
    have q := (sQ_in b u v).2.2
    have g01 := sG_01 (op := op) (wt := wt) (lk := lk) (p := p)
    have e3 : sF3 op wt lk p = sF2 op wt lk p + sG op wt lk p := rfl
    have bp := b p u v
    unfold sEx
    by_cases c : sSh op lk p = 0
    · rw [if_pos c]; omega
    · rw [if_neg c]
      have : sF1 op lk p = 0 := by
        unfold sSh at c
        unfold sF1
        by_cases y : op p = 0
        · rw [if_pos y]
        · rw [if_neg y] at c
          rw [if_neg y]
          rcases sLk_01 (op := op) (lk := lk) (p := p) with z | z
          · rw [if_pos z]
          · omega
      split <;> omega
  have a0 := each 0 (by omega) (by omega)
  have a1 := each 1 (by omega) (by omega)
  have a2 := each 2 (by omega) (by omega)
  have a3 := each 3 (by omega) (by omega)
  have s1 := sSm_4 (g := sEx op ls lk (sF3 op wt lk))
  have s2 := sSm_4 (g := sQ op wt lk)
  have s3 := sSm_4 (g := sG op wt lk)
  omega
end MSH

