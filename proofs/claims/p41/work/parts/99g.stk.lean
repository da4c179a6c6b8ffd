/-! the stack: heights as they are dealt -/
section STK
variable (op wt ls lk : Int → Int)
noncomputable def sLo : Nat → Int
  | 0 => -1
  | j + 1 => if op j = 0 then sLo j else (j : Int)
noncomputable def sLk (p : Int) : Int := b2i (¬ lk p = -1 ∧ (anyI (fun k => ¬ op k = 0 ∧ lk k = -1) 0 4 ∨ ¬ p = sLo op 4))
noncomputable def sSh (p : Int) : Int := if op p = 0 then 0 else 1 - sLk op lk p
def sSm (f : Int → Int) : Nat → Int
  | 0 => 0
  | j + 1 => sSm f j + f j
noncomputable def sF1 (p : Int) : Int := if op p = 0 then 0 else if sLk op lk p = 0 then 0 else lk p
noncomputable def sWt (p : Int) : Int := if op p = 0 then 0 else if sLk op lk p = 0 then wt p else 0
noncomputable def sRe : Int := if 24 - sSm (sF1 op lk) 4 ≤ 0 then 0 else 24 - sSm (sF1 op lk) 4
noncomputable def sQ (p : Int) : Int := if op p = 0 then 0 else if sLk op lk p = 0 then sRe op lk * wt p / sSm (sWt op wt lk) 4 else 0
noncomputable def sF2 (p : Int) : Int := if op p = 0 then sF1 op lk p else if sLk op lk p = 0 then sRe op lk * wt p / sSm (sWt op wt lk) 4 else sF1 op lk p
noncomputable def sLf : Nat → Int
  | 0 => sRe op lk - sSm (sQ op wt lk) 4
  | j + 1 => sLf j - (if op j = 0 then 0 else if sLk op lk j = 0 ∧ ¬ (sLf j ≤ 0) then 1 else 0)
noncomputable def sG (p : Int) : Int := if op p = 0 then 0 else if sLk op lk p = 0 ∧ ¬ (sLf op wt lk p.toNat ≤ 0) then 1 else 0
noncomputable def sF3 (p : Int) : Int := sF2 op wt lk p + sG op wt lk p
noncomputable def sPo (f : Int → Int) : Nat → Int → Int
  | 0, _ => -1
  | n + 1, p => if sSh op lk p = 0 then sPo f n (p + 1) else if ls p ≤ f p then sPo f n (p + 1) else p
noncomputable def sRi (f : Int → Int) : Nat → Int → Int → Int
  | 0, _, r => r
  | n + 1, p, r => sRi f n (p + 1) (if sSh op lk p = 0 then r else if f p ≤ ls p then r else if r = -1 then p else if f p - ls p ≤ f r - ls r then r else p)
noncomputable def sSt (f : Int → Int) (i : Int) : Int := if i = sPo op ls lk f 4 0 then f i + 1 else if i = sRi op ls lk f 4 0 (-1) then f i - 1 else f i
noncomputable def sTf : Nat → (Int → Int) → Int → Int
  | 0, f => f
  | n + 1, f => if sPo op ls lk f 4 0 = -1 then f else if sRi op ls lk f 4 0 (-1) = -1 then f else sTf n (sSt op ls lk f)
noncomputable def sHt : Int → Int := sTf op ls lk 24 (sF3 op wt lk)
noncomputable def sEx (f : Int → Int) (p : Int) : Int := if sSh op lk p = 0 then 0 else if f p ≤ ls p then 0 else f p - ls p
end STK
section STL
variable {op wt ls lk f : Int → Int}
theorem sLk_01 {p : Int} : sLk op lk p = 0 ∨ sLk op lk p = 1 := b2i_01
theorem sLo_in : ∀ j : Nat, sLo op j = -1 ∨ (0 ≤ sLo op j ∧ sLo op j < j ∧ ¬ op (sLo op j) = 0)
  | 0 => Or.inl rfl
  | j + 1 => by
    have ih := sLo_in j
    have e : sLo op (j + 1) = if op j = 0 then sLo op j else (j : Int) := rfl
    rw [e]
    by_cases c : op j = 0
    · rw [if_pos c]
      rcases ih with z | ⟨z1, z2, z3⟩
      · exact Or.inl z
      · exact Or.inr ⟨z1, by omega, z3⟩
    · rw [if_neg c]
      exact Or.inr ⟨by omega, by omega, c⟩
theorem sLo_ge : ∀ (j : Nat) (i : Int), 0 ≤ i → i < j → ¬ op i = 0 → i ≤ sLo op j
  | 0, i, h0, hi, _ => by omega
  | j + 1, i, h0, hi, hc => by
    have e : sLo op (j + 1) = if op j = 0 then sLo op j else (j : Int) := rfl
    rw [e]
    by_cases c : op j = 0
    · rw [if_pos c]
      refine sLo_ge j i h0 ?_ hc
      by_cases z : i = (j : Int)
      · exact absurd (by rw [z]; exact c) hc
      · omega
    · rw [if_neg c]; omega
theorem sPo_in : ∀ (n : Nat) (p : Int), sPo op ls lk f n p = -1 ∨ (p ≤ sPo op ls lk f n p ∧ sPo op ls lk f n p < p + n ∧ ¬ sSh op lk (sPo op ls lk f n p) = 0 ∧ f (sPo op ls lk f n p) < ls (sPo op ls lk f n p))
  | 0, _ => Or.inl rfl
  | n + 1, p => by
    have ih := sPo_in n (p + 1)
    have e : sPo op ls lk f (n + 1) p = if sSh op lk p = 0 then sPo op ls lk f n (p + 1) else if ls p ≤ f p then sPo op ls lk f n (p + 1) else p := rfl
    have up : sPo op ls lk f n (p + 1) = -1 ∨ (p ≤ sPo op ls lk f n (p + 1) ∧ sPo op ls lk f n (p + 1) < p + ((n + 1 : Nat) : Int) ∧ ¬ sSh op lk (sPo op ls lk f n (p + 1)) = 0 ∧ f (sPo op ls lk f n (p + 1)) < ls (sPo op ls lk f n (p + 1))) := by
      rcases ih with z | ⟨z1, z2, z3⟩
      · exact Or.inl z
      · exact Or.inr ⟨by omega, by omega, z3⟩
    rw [e]
    by_cases c : sSh op lk p = 0
    · rw [if_pos c]; exact up
    · rw [if_neg c]
      by_cases d : ls p ≤ f p
      · rw [if_pos d]; exact up
      · rw [if_neg d]; exact Or.inr ⟨Int.le_refl _, by omega, c, by omega⟩
theorem sPo_no : ∀ (n : Nat) (p : Int), 0 ≤ p → sPo op ls lk f n p = -1 → ∀ i, p ≤ i → i < p + n → ¬ sSh op lk i = 0 → ls i ≤ f i
  | 0, p, _, _, i, h1, h2, _ => by omega
  | n + 1, p, h0, hn, i, h1, h2, h3 => by
    have e : sPo op ls lk f (n + 1) p = if sSh op lk p = 0 then sPo op ls lk f n (p + 1) else if ls p ≤ f p then sPo op ls lk f n (p + 1) else p := rfl
    rw [e] at hn
    by_cases c : sSh op lk p = 0
    · rw [if_pos c] at hn
      by_cases z : i = p
      · rw [z] at h3; exact absurd c h3
      · exact sPo_no n (p + 1) (by omega) hn i (by omega) (by omega) h3
    · rw [if_neg c] at hn
      by_cases d : ls p ≤ f p
      · rw [if_pos d] at hn
        by_cases z : i = p
        · rw [z]; exact d
        · exact sPo_no n (p + 1) (by omega) hn i (by omega) (by omega) h3
      · rw [if_neg d] at hn; omega
theorem sRi_in : ∀ (n : Nat) (p r : Int), 0 ≤ p → (r = -1 ∨ (0 ≤ r ∧ r < p ∧ ¬ sSh op lk r = 0 ∧ ls r < f r)) → (sRi op ls lk f n p r = -1 ∨ (0 ≤ sRi op ls lk f n p r ∧ sRi op ls lk f n p r < p + n ∧ ¬ sSh op lk (sRi op ls lk f n p r) = 0 ∧ ls (sRi op ls lk f n p r) < f (sRi op ls lk f n p r)))
  | 0, p, r, h0, hr => by
    show r = -1 ∨ (0 ≤ r ∧ r < p + (0 : Nat) ∧ _)
    rcases hr with z | ⟨z1, z2, z3⟩
    · exact Or.inl z
    · exact Or.inr ⟨z1, by omega, z3⟩
  | n + 1, p, r, h0, hr => by
    have e : sRi op ls lk f (n + 1) p r = sRi op ls lk f n (p + 1) (if sSh op lk p = 0 then r else if f p ≤ ls p then r else if r = -1 then p else if f p - ls p ≤ f r - ls r then r else p) := rfl
    rw [e, show p + ((n + 1 : Nat) : Int) = p + 1 + (n : Int) by omega]
    have up : r = -1 ∨ (0 ≤ r ∧ r < p + 1 ∧ ¬ sSh op lk r = 0 ∧ ls r < f r) := by
      rcases hr with z | ⟨z1, z2, z3⟩
      · exact Or.inl z
      · exact Or.inr ⟨z1, by omega, z3⟩
    refine sRi_in n (p + 1) _ (by omega) ?_
    by_cases c : sSh op lk p = 0
    · rw [if_pos c]; exact up
    · rw [if_neg c]
      by_cases d : f p ≤ ls p
      · rw [if_pos d]; exact up
      · have own : p = -1 ∨ (0 ≤ p ∧ p < p + 1 ∧ ¬ sSh op lk p = 0 ∧ ls p < f p) := Or.inr ⟨h0, by omega, c, by omega⟩
        rw [if_neg d]
        split
        · exact own
        · split
          · exact up
          · exact own
theorem sRi_no : ∀ (n : Nat) (p r : Int), 0 ≤ p → sRi op ls lk f n p r = -1 → r = -1 ∧ ∀ i, p ≤ i → i < p + n → ¬ sSh op lk i = 0 → f i ≤ ls i
  | 0, p, r, _, hn => ⟨hn, fun i h1 h2 _ => by omega⟩
  | n + 1, p, r, h0, hn => by
    have e : sRi op ls lk f (n + 1) p r = sRi op ls lk f n (p + 1) (if sSh op lk p = 0 then r else if f p ≤ ls p then r else if r = -1 then p else if f p - ls p ≤ f r - ls r then r else p) := rfl
    rw [e] at hn
    obtain ⟨k1, k2⟩ := sRi_no n (p + 1) _ (by omega) hn
    by_cases c : sSh op lk p = 0
    · rw [if_pos c] at k1
      refine ⟨k1, fun i h1 h2 h3 => ?_⟩
      by_cases z : i = p
      · rw [z] at h3; exact absurd c h3
      · exact k2 i (by omega) (by omega) h3
    · rw [if_neg c] at k1
      by_cases d : f p ≤ ls p
      · rw [if_pos d] at k1
        refine ⟨k1, fun i h1 h2 h3 => ?_⟩
        by_cases z : i = p
        · rw [z]; exact d
        · exact k2 i (by omega) (by omega) h3
      · rw [if_neg d] at k1
        exfalso
        split at k1
        · omega
        · split at k1 <;> omega
theorem sSm_4 {g : Int → Int} : sSm g 4 = g 0 + g 1 + g 2 + g 3 := by
  show 0 + g ((0 : Nat) : Int) + g ((1 : Nat) : Int) + g ((2 : Nat) : Int) + g ((3 : Nat) : Int) = _
  rw [Int.zero_add]
  rfl
/-- one is changed -/
theorem sSm_up {g g2 : Int → Int} {r : Int} (hr : 0 ≤ r ∧ r < 4) (h : ∀ i, 0 ≤ i → i < 4 → ¬ i = r → g2 i = g i) : sSm g2 4 = sSm g 4 + (g2 r - g r) := by
  rw [sSm_4, sSm_4]
  have a0 := h 0 (by omega) (by omega)
  have a1 := h 1 (by omega) (by omega)
  have a2 := h 2 (by omega) (by omega)
  have a3 := h 3 (by omega) (by omega)
  rcases (show r = 0 ∨ r = 1 ∨ r = 2 ∨ r = 3 by omega) with z | z | z | z <;> subst z
  · rw [a1 (by omega), a2 (by omega), a3 (by omega)]; omega
  · rw [a0 (by omega), a2 (by omega), a3 (by omega)]; omega
  · rw [a0 (by omega), a1 (by omega), a3 (by omega)]; omega
  · rw [a0 (by omega), a1 (by omega), a2 (by omega)]; omega
theorem sEx_in {p : Int} : 0 ≤ sEx op ls lk f p := by
  unfold sEx
  split
  · exact Int.le_refl _
  · split <;> omega
theorem sEx_4 : 0 ≤ sSm (sEx op ls lk f) 4 := by
  rw [sSm_4]
  have := sEx_in (op := op) (ls := ls) (lk := lk) (f := f) (p := 0)
  have := sEx_in (op := op) (ls := ls) (lk := lk) (f := f) (p := 1)
  have := sEx_in (op := op) (ls := ls) (lk := lk) (f := f) (p := 2)
  have := sEx_in (op := op) (ls := ls) (lk := lk) (f := f) (p := 3)
  omega
theorem sSt_ex (h1 : ¬ sPo op ls lk f 4 0 = -1) (h2 : ¬ sRi op ls lk f 4 0 (-1) = -1) : sSm (sEx op ls lk (sSt op ls lk f)) 4 = sSm (sEx op ls lk f) 4 - 1 := by
  obtain ⟨p1, p2, p3, p4⟩ := (sPo_in (op := op) (ls := ls) (lk := lk) (f := f) 4 0).resolve_left h1
  obtain ⟨r1, r2, r3, r4⟩ := (sRi_in (op := op) (ls := ls) (lk := lk) (f := f) 4 0 (-1) (Int.le_refl _) (Or.inl rfl)).resolve_left h2
  generalize hP : sPo op ls lk f 4 0 = P at *
  generalize hR : sRi op ls lk f 4 0 (-1) = R at *
  have ne : ¬ R = P := fun z => by rw [z] at r4; omega
  have st : ∀ i, sSt op ls lk f i = if i = P then f i + 1 else if i = R then f i - 1 else f i := fun i => by unfold sSt; rw [hP, hR]
  have u := sSm_up (g := sEx op ls lk f) (g2 := sEx op ls lk (sSt op ls lk f)) (r := R) ⟨r1, by omega⟩ (fun i i0 i4 hi => by
    by_cases z : i = P
    · have sP : sSt op ls lk f P = f P + 1 := by rw [st, if_pos rfl]
      unfold sEx
      rw [z, sP, if_neg p3, if_neg p3, if_pos (by omega), if_pos (by omega)]
    · have sI : sSt op ls lk f i = f i := by rw [st, if_neg z, if_neg hi]
      unfold sEx
      rw [sI])
  have sR : sSt op ls lk f R = f R - 1 := by rw [st, if_neg ne, if_pos rfl]
  have eR : sEx op ls lk (sSt op ls lk f) R = sEx op ls lk f R - 1 := by
    unfold sEx
    rw [sR, if_neg r3, if_neg r3, if_neg (show ¬ f R ≤ ls R by omega)]
    split <;> omega
  omega
/-- the sum of all heights is kept -/
theorem sSt_sm (h1 : ¬ sPo op ls lk f 4 0 = -1) (h2 : ¬ sRi op ls lk f 4 0 (-1) = -1) : sSm (sSt op ls lk f) 4 = sSm f 4 := by
  obtain ⟨p1, p2, p3, p4⟩ := (sPo_in (op := op) (ls := ls) (lk := lk) (f := f) 4 0).resolve_left h1
  obtain ⟨r1, r2, r3, r4⟩ := (sRi_in (op := op) (ls := ls) (lk := lk) (f := f) 4 0 (-1) (Int.le_refl _) (Or.inl rfl)).resolve_left h2
  generalize hP : sPo op ls lk f 4 0 = P at *
  generalize hR : sRi op ls lk f 4 0 (-1) = R at *
  have ne : ¬ R = P := fun z => by rw [z] at r4; omega
  have st : ∀ i, sSt op ls lk f i = if i = P then f i + 1 else if i = R then f i - 1 else f i := fun i => by unfold sSt; rw [hP, hR]
  have u := sSm_up (g := f) (g2 := fun i => if i = R then f i - 1 else f i) (r := R) ⟨r1, by omega⟩ (fun i _ _ hi => if_neg hi)
  have v := sSm_up (g := fun i => if i = R then f i - 1 else f i) (g2 := sSt op ls lk f) (r := P) ⟨p1, by omega⟩ (fun i _ _ hi => by rw [st, if_neg hi])
  have w : sSt op ls lk f P = f P + 1 := by rw [st, if_pos rfl]
  simp only [if_true, if_neg (fun z : P = R => ne z.symm), w] at u v
  omega
/-- heights of those that don't share stay; transfers end with none poor or none rich -/
theorem sTf_in : ∀ (n : Nat) (f : Int → Int), sSm (sEx op ls lk f) 4 ≤ n → (∀ i, sSh op lk i = 0 → sTf op ls lk n f i = f i) ∧ sSm (sTf op ls lk n f) 4 = sSm f 4 ∧ (sPo op ls lk (sTf op ls lk n f) 4 0 = -1 ∨ sRi op ls lk (sTf op ls lk n f) 4 0 (-1) = -1) ∧ ((∀ i, 0 ≤ i → i < 4 → 0 ≤ f i ∧ 0 ≤ ls i) → ∀ i, 0 ≤ i → i < 4 → 0 ≤ sTf op ls lk n f i)
  | 0, f, hE => by
    refine ⟨fun _ _ => rfl, rfl, ?_, fun h i h0 h4 => (h i h0 h4).1⟩
    show sPo op ls lk f 4 0 = -1 ∨ sRi op ls lk f 4 0 (-1) = -1
    by_cases h1 : sPo op ls lk f 4 0 = -1
    · exact Or.inl h1
    · by_cases h2 : sRi op ls lk f 4 0 (-1) = -1
      · exact Or.inr h2
      · have := sSt_ex h1 h2
        have := sEx_4 (op := op) (ls := ls) (lk := lk) (f := sSt op ls lk f)
        omega
  | n + 1, f, hE => by
    have e : sTf op ls lk (n + 1) f = if sPo op ls lk f 4 0 = -1 then f else if sRi op ls lk f 4 0 (-1) = -1 then f else sTf op ls lk n (sSt op ls lk f) := rfl
    rw [e]
    by_cases h1 : sPo op ls lk f 4 0 = -1
    · rw [if_pos h1]
      exact ⟨fun _ _ => rfl, rfl, Or.inl h1, fun h i h0 h4 => (h i h0 h4).1⟩
    · rw [if_neg h1]
      by_cases h2 : sRi op ls lk f 4 0 (-1) = -1
      · rw [if_pos h2]
        exact ⟨fun _ _ => rfl, rfl, Or.inr h2, fun h i h0 h4 => (h i h0 h4).1⟩
      · rw [if_neg h2]
        have x := sSt_ex h1 h2
        obtain ⟨i1, i2, i3, i4⟩ := sTf_in n (sSt op ls lk f) (by omega)
        obtain ⟨p1, p2, p3, p4⟩ := (sPo_in (op := op) (ls := ls) (lk := lk) (f := f) 4 0).resolve_left h1
        obtain ⟨r1, r2, r3, r4⟩ := (sRi_in (op := op) (ls := ls) (lk := lk) (f := f) 4 0 (-1) (Int.le_refl _) (Or.inl rfl)).resolve_left h2
        refine ⟨fun i hi => (i1 i hi).trans ?_, i2.trans (sSt_sm h1 h2), i3, fun h => i4 (fun i h0 h4 => ⟨?_, (h i h0 h4).2⟩)⟩
        · unfold sSt
          rw [if_neg (fun z => p3 (by rw [← z]; exact hi)), if_neg (fun z => r3 (by rw [← z]; exact hi))]
        · have hi := h i h0 h4
          unfold sSt
          split
          · omega
          · split
            · rename_i z
              rw [← z] at r4
              omega
            · exact hi.1
end STL

