/-! the reference deals the heights -/
/-- one array of four is changed -/
def hF (A : Int) (h h2 : vH) : Prop := ∀ (k : Nat) (r i : Int), ¬ (k = 2 ∧ r = A ∧ 0 ≤ i ∧ i < 4) → h2 k r i = h k r i
theorem hF_rf {A : Int} {h : vH} : hF A h h := fun _ _ _ _ => rfl
theorem hF_up {A : Int} {h h2 : vH} {j v : Int} (x : hF A h h2) (hj : 0 ≤ j ∧ j < 4) : hF A h (vup h2 2 A j v) := fun k r i e => (if_neg (fun z => e ⟨z.1, z.2.1, by omega, by omega⟩)).trans (x k r i e)
theorem hF_sx {A : Int} {h h2 : vH} (x : hF A h h2) : sx h h2 := fun k r i hk => x k r i (fun z => by rw [z.1] at hk; cases hk)
def stB (op wt ls lk : Int → Int) : Prop := ∀ p, 0 ≤ p → p < 4 → (1 ≤ wt p ∧ wt p ≤ 9) ∧ (1 ≤ ls p ∧ ls p ≤ 8) ∧ (lk p = -1 ∨ (1 ≤ lk p ∧ lk p ≤ 16)) ∧ (op p = 0 ∨ op p = 1)
section MSK
variable {h H : vH} {op wt ls lk f : Int → Int}
/-- bounds -/
theorem sF1_in (b : stB op wt ls lk) {p : Int} (h0 : 0 ≤ p) (h4 : p < 4) : 0 ≤ sF1 op lk p ∧ sF1 op lk p ≤ 16 := by
  have bp := b p h0 h4
  unfold sF1
  split
  · omega
  · split
    · omega
    · rename_i c d
      have : ¬ lk p = -1 := by
        intro z
        exact d (b2i_f (fun w => w.1 z))
      omega
theorem sWt_in (b : stB op wt ls lk) {p : Int} (h0 : 0 ≤ p) (h4 : p < 4) : 0 ≤ sWt op wt lk p ∧ sWt op wt lk p ≤ 9 ∧ (¬ op p = 0 → sLk op lk p = 0 → sWt op wt lk p = wt p) := by
  have bp := b p h0 h4
  unfold sWt
  split
  · exact ⟨by omega, by omega, fun z => by contradiction⟩
  · split
    · exact ⟨by omega, by omega, fun _ _ => rfl⟩
    · exact ⟨by omega, by omega, fun _ z => by contradiction⟩
theorem sSm_in {g : Int → Int} {m : Int} (hg : ∀ p, 0 ≤ p → p < 4 → 0 ≤ g p ∧ g p ≤ m) : ∀ j : Nat, j ≤ 4 → 0 ≤ sSm g j ∧ sSm g j ≤ m * j
  | 0, _ => ⟨Int.le_refl _, by show (0 : Int) ≤ m * ((0 : Nat) : Int); rw [show ((0 : Nat) : Int) = 0 from rfl, Int.mul_zero]; exact Int.le_refl _⟩
  | j + 1, hj => by
    have ih := sSm_in hg j (by omega)
    have q := hg j (by omega) (by omega)
    have e : sSm g (j + 1) = sSm g j + g j := rfl
    have e2 : m * ((j + 1 : Nat) : Int) = m * (j : Int) + m := by rw [show ((j + 1 : Nat) : Int) = (j : Int) + 1 by omega, Int.mul_add, Int.mul_one]
    omega
theorem sRe_in (b : stB op wt ls lk) : 0 ≤ sRe op lk ∧ sRe op lk ≤ 24 := by
  have := sSm_in (g := sF1 op lk) (m := 16) (fun p u v => sF1_in b u v) 4 (Nat.le_refl _)
  unfold sRe
  split <;> omega
theorem sQ_in (b : stB op wt ls lk) {p : Int} (h0 : 0 ≤ p) (h4 : p < 4) : (0 ≤ sRe op lk * wt p ∧ sRe op lk * wt p ≤ 216) ∧ (¬ op p = 0 → sLk op lk p = 0 → 0 < sSm (sWt op wt lk) 4) ∧ (0 ≤ sQ op wt lk p ∧ sQ op wt lk p ≤ 216) := by
  have re := sRe_in b
  have bp := b p h0 h4
  have m1 : 0 ≤ sRe op lk * wt p := Int.mul_nonneg re.1 (by omega)
  have m2 : sRe op lk * wt p ≤ 24 * 9 := Int.mul_le_mul re.2 bp.1.2 (by omega) (by omega)
  have w : ¬ op p = 0 → sLk op lk p = 0 → 0 < sSm (sWt op wt lk) 4 := by
    intro c d
    have w0 := sWt_in b (p := 0) (by omega) (by omega)
    have w1 := sWt_in b (p := 1) (by omega) (by omega)
    have w2 := sWt_in b (p := 2) (by omega) (by omega)
    have w3 := sWt_in b (p := 3) (by omega) (by omega)
    have wp := (sWt_in b h0 h4).2.2 c d
    rw [sSm_4]
    rcases (show p = 0 ∨ p = 1 ∨ p = 2 ∨ p = 3 by omega) with z | z | z | z <;> subst z <;> omega
  refine ⟨⟨m1, by omega⟩, w, ?_⟩
  unfold sQ
  split
  · omega
  · split
    · rename_i c d
      have wp := w c d
      have d1 : 0 ≤ sRe op lk * wt p / sSm (sWt op wt lk) 4 := Int.ediv_nonneg m1 (by omega)
      have d2 : sRe op lk * wt p / sSm (sWt op wt lk) 4 ≤ sRe op lk * wt p := Int.ediv_le_self _ m1
      omega
    · omega
theorem sF2_in (b : stB op wt ls lk) {p : Int} (h0 : 0 ≤ p) (h4 : p < 4) : 0 ≤ sF2 op wt lk p ∧ sF2 op wt lk p ≤ 216 ∧ sF2 op wt lk p = sF1 op lk p + sQ op wt lk p := by
  have f1 := sF1_in b h0 h4
  have q := (sQ_in b h0 h4).2.2
  have e : sF2 op wt lk p = sF1 op lk p + sQ op wt lk p ∧ (sF1 op lk p = 0 ∨ sQ op wt lk p = 0) := by
    unfold sF2 sQ sF1
    by_cases c : op p = 0
    · rw [if_pos c, if_pos c, if_pos c]; exact ⟨by omega, Or.inl rfl⟩
    · rw [if_neg c, if_neg c, if_neg c]
      by_cases d : sLk op lk p = 0
      · rw [if_pos d, if_pos d, if_pos d]; exact ⟨by omega, Or.inl rfl⟩
      · rw [if_neg d, if_neg d, if_neg d]; exact ⟨by omega, Or.inr rfl⟩
  omega
theorem sLf_in (b : stB op wt ls lk) : ∀ j : Nat, j ≤ 4 → -1000 ≤ sLf op wt lk j ∧ sLf op wt lk j ≤ 24
  | 0, _ => by
    have := sSm_in (g := sQ op wt lk) (m := 216) (fun p u v => (sQ_in b u v).2.2) 4 (Nat.le_refl _)
    have re := sRe_in b
    show -1000 ≤ sRe op lk - sSm (sQ op wt lk) 4 ∧ sRe op lk - sSm (sQ op wt lk) 4 ≤ 24
    omega
  | j + 1, hj => by
    have ih := sLf_in b j (by omega)
    have e : sLf op wt lk (j + 1) = sLf op wt lk j - (if op j = 0 then 0 else if sLk op lk j = 0 ∧ ¬ (sLf op wt lk j ≤ 0) then 1 else 0) := rfl
    rw [e]
    split
    · omega
    · split <;> omega
theorem sG_01 {p : Int} : sG op wt lk p = 0 ∨ sG op wt lk p = 1 := by
  unfold sG
  split
  · exact Or.inl rfl
  · split
    · exact Or.inr rfl
    · exact Or.inl rfl
end MSK

