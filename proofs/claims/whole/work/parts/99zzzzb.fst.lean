/-! THE FIRST HEAP: what the constructors leave holds between two calls. -/
section SH0
variable {op wt ls lk : Int → Int}
theorem sHt_0 (o0 : op 0 = 1) (o1 : op 1 = 0) (o2 : op 2 = 0) (o3 : op 3 = 0) (w0 : wt 0 = 1) (l0 : ls 0 = 3) (k0 : lk 0 = -1) : sHt op wt ls lk 0 = 24 ∧ sHt op wt ls lk 1 = 0 ∧ sHt op wt ls lk 2 = 0 ∧ sHt op wt ls lk 3 = 0 := by
  have n0 : ¬ op 0 = 0 := by omega
  have L0 : sLk op lk 0 = 0 := by
    unfold sLk b2i
    exact if_neg (fun z => z.1 k0)
  have s4 : ∀ f : Int → Int, sSm f 4 = f 0 + f 1 + f 2 + f 3 := fun f => by
    show 0 + f ((0 : Nat) : Int) + f ((1 : Nat) : Int) + f ((2 : Nat) : Int) + f ((3 : Nat) : Int) = _
    have : (0 : Int) + f ((0 : Nat) : Int) = f 0 := by rw [Int.zero_add]; rfl
    rw [this]
    rfl
  have a0 : sF1 op lk 0 = 0 := by unfold sF1; rw [if_neg n0, if_pos L0]
  have a1 : sF1 op lk 1 = 0 := by unfold sF1; rw [if_pos o1]
  have a2 : sF1 op lk 2 = 0 := by unfold sF1; rw [if_pos o2]
  have a3 : sF1 op lk 3 = 0 := by unfold sF1; rw [if_pos o3]
  have re : sRe op lk = 24 := by
    unfold sRe
    rw [s4, a0, a1, a2, a3]
    rfl
  have w : sSm (sWt op wt lk) 4 = 1 := by
    rw [s4]
    unfold sWt
    rw [if_neg n0, if_pos L0, if_pos o1, if_pos o2, if_pos o3, w0]
    rfl
  have q : sSm (sQ op wt lk) 4 = 24 := by
    rw [s4]
    unfold sQ
    rw [if_neg n0, if_pos L0, if_pos o1, if_pos o2, if_pos o3, w0, w, re]
    rfl
  have lf : sLf op wt lk 0 = 0 := by
    show sRe op lk - sSm (sQ op wt lk) 4 = 0
    rw [q, re]
    rfl
  have g0 : sG op wt lk 0 = 0 := by
    unfold sG
    rw [if_neg n0]
    refine if_neg (fun z => z.2 ?_)
    rw [show (0 : Int).toNat = 0 from rfl, lf]
    exact Int.le_refl _
  have g1 : sG op wt lk 1 = 0 := by unfold sG; rw [if_pos o1]
  have g2 : sG op wt lk 2 = 0 := by unfold sG; rw [if_pos o2]
  have g3 : sG op wt lk 3 = 0 := by unfold sG; rw [if_pos o3]
  have f0 : sF3 op wt lk 0 = 24 := by
    unfold sF3 sF2
    rw [g0, if_neg n0, if_pos L0, w0, w, re]
    rfl
  have f1 : sF3 op wt lk 1 = 0 := by
    unfold sF3 sF2
    rw [g1, if_pos o1, a1]
    rfl
  have f2 : sF3 op wt lk 2 = 0 := by
    unfold sF3 sF2
    rw [g2, if_pos o2, a2]
    rfl
  have f3 : sF3 op wt lk 3 = 0 := by
    unfold sF3 sF2
    rw [g3, if_pos o3, a3]
    rfl
  have h0 : ¬ sSh op lk 0 = 0 := by unfold sSh; rw [if_neg n0, L0]; decide
  have h1 : sSh op lk 1 = 0 := by unfold sSh; rw [if_pos o1]
  have h2 : sSh op lk 2 = 0 := by unfold sSh; rw [if_pos o2]
  have h3 : sSh op lk 3 = 0 := by unfold sSh; rw [if_pos o3]
  have po : sPo op ls lk (sF3 op wt lk) 4 0 = -1 := by
    show (if sSh op lk 0 = 0 then sPo op ls lk (sF3 op wt lk) 3 1 else if ls 0 ≤ sF3 op wt lk 0 then sPo op ls lk (sF3 op wt lk) 3 1 else 0) = -1
    rw [if_neg h0, if_pos (by rw [l0, f0]; decide)]
    show (if sSh op lk 1 = 0 then sPo op ls lk (sF3 op wt lk) 2 2 else if ls 1 ≤ sF3 op wt lk 1 then sPo op ls lk (sF3 op wt lk) 2 2 else 1) = -1
    rw [if_pos h1]
    show (if sSh op lk 2 = 0 then sPo op ls lk (sF3 op wt lk) 1 3 else if ls 2 ≤ sF3 op wt lk 2 then sPo op ls lk (sF3 op wt lk) 1 3 else 2) = -1
    rw [if_pos h2]
    show (if sSh op lk 3 = 0 then (-1 : Int) else if ls 3 ≤ sF3 op wt lk 3 then (-1 : Int) else 3) = -1
    rw [if_pos h3]
  have e : sHt op wt ls lk = sF3 op wt lk := if_pos po
  rw [e]
  exact ⟨f0, f1, f2, f3⟩
end SH0
theorem ptL_get {r : Int} : ∀ (n j : Nat), j < n → (ptL r n)[j]? = some (r + 2 * (j : Int))
  | 0, j, h => absurd h (Nat.not_lt_zero _)
  | n + 1, j, h => by
    rw [ptL]
    by_cases e : j = n
    · subst e
      rw [List.getElem?_append_right (Nat.le_of_eq (ptL_len _)), ptL_len, Nat.sub_self]
      rfl
    · rw [List.getElem?_append_left (by rw [ptL_len]; omega)]
      exact ptL_get n j (by omega)
theorem linesL_0 {r : Int} : ∀ (n j : Nat), j < n → (linesL r n)[2 * j]? = some (cO 25 [(600, r + 2 * (j : Int) + 1)])
  | 0, j, h => absurd h (Nat.not_lt_zero _)
  | n + 1, j, h => by
    rw [linesL]
    by_cases e : j = n
    · subst e
      rw [List.getElem?_append_right (Nat.le_of_eq (linesL_len _)), linesL_len, Nat.sub_self]
      rfl
    · rw [List.getElem?_append_left (by rw [linesL_len]; omega)]
      exact linesL_0 n j (by omega)
theorem linesL_1 {r : Int} : ∀ (n j : Nat), j < n → (linesL r n)[2 * j + 1]? = some (xA 1 80 [])
  | 0, j, h => absurd h (Nat.not_lt_zero _)
  | n + 1, j, h => by
    rw [linesL]
    by_cases e : j = n
    · subst e
      rw [List.getElem?_append_right (by rw [linesL_len]; omega), linesL_len, show 2 * j + 1 - 2 * j = 1 by omega]
      rfl
    · rw [List.getElem?_append_left (by rw [linesL_len]; omega)]
      exact linesL_1 n j (by omega)
def PLa : List cC := [xA 5 4 [138, 174, 210, 246]] ++ StackL 127 ++ [xA 1 50 [], xA 1 50 [], xA 1 10 [], xA 1 10 []]
def PLo : cC := cO 33 [(1408, 137), (1407, 136), (1404, 135), (1403, 134), (1402, 127), (1401, 126), (1400, 4)]
theorem PLL_eq : PLL 3 = [PLo] ++ (TextL 4 ++ (PLa ++ (PaneL 138 4 ++ (PaneL 174 4 ++ (PaneL 210 4 ++ PaneL 246 4))))) := by
  unfold PLL PLa
  simp only [List.append_assoc]
  rfl
theorem pl_0 : (PLL 3)[0]? = some PLo := by
  rw [PLL_eq]
  rfl
theorem pl_T {j : Nat} {c : cC} (hj : j < 122) (e : (TextL 4)[j]? = some c) : (PLL 3)[1 + j]? = some c := by
  rw [PLL_eq, List.getElem?_append_right (by show 1 ≤ 1 + j; omega), show 1 + j - [PLo].length = j from by show 1 + j - 1 = j; omega, List.getElem?_append_left (by rw [TextL_len]; exact hj)]
  exact e
theorem pl_R {j : Nat} : (PLL 3)[123 + j]? = (PLa ++ (PaneL 138 4 ++ (PaneL 174 4 ++ (PaneL 210 4 ++ PaneL 246 4))))[j]? := by
  rw [PLL_eq, List.getElem?_append_right (by show 1 ≤ 123 + j; omega), show 123 + j - [PLo].length = 122 + j from by show 123 + j - 1 = _; omega, List.getElem?_append_right (by rw [TextL_len]; omega), TextL_len, show 122 + j - 122 = j by omega]
theorem pl_A {j : Nat} {c : cC} (hj : j < 12) (e : PLa[j]? = some c) : (PLL 3)[123 + j]? = some c := by
  rw [pl_R, List.getElem?_append_left (by exact hj)]
  exact e
theorem pl_P {p P : Int} (hP : P = 138 + 36 * p ∧ 0 ≤ p ∧ p < 4) {j : Nat} (hj : j < 36) : (PLL 3)[123 + (12 + 36 * p.toNat + j)]? = (PaneL P 4)[j]? := by
  obtain ⟨e, h0, h4⟩ := hP
  subst e
  have l : ∀ r, (PaneL r 4).length = 36 := fun r => rfl
  rw [pl_R, List.getElem?_append_right (by show 12 ≤ _; omega)]
  obtain z | z | z | z : p = 0 ∨ p = 1 ∨ p = 2 ∨ p = 3 := by omega
  · subst z
    rw [show 12 + 36 * (0 : Int).toNat + j - PLa.length = j from by show 12 + 36 * 0 + j - 12 = j; omega, List.getElem?_append_left (by rw [l]; exact hj)]
    rfl
  · subst z
    rw [show 12 + 36 * (1 : Int).toNat + j - PLa.length = 36 + j from by show 12 + 36 * 1 + j - 12 = _; omega, List.getElem?_append_right (by rw [l]; omega), l, show 36 + j - 36 = j by omega, List.getElem?_append_left (by rw [l]; exact hj)]
    rfl
  · subst z
    rw [show 12 + 36 * (2 : Int).toNat + j - PLa.length = 72 + j from by show 12 + 36 * 2 + j - 12 = _; omega, List.getElem?_append_right (by rw [l]; omega), l, show 72 + j - 36 = 36 + j by omega, List.getElem?_append_right (by rw [l]; omega), l, show 36 + j - 36 = j by omega, List.getElem?_append_left (by rw [l]; exact hj)]
    rfl
  · subst z
    rw [show 12 + 36 * (3 : Int).toNat + j - PLa.length = 108 + j from by show 12 + 36 * 3 + j - 12 = _; omega, List.getElem?_append_right (by rw [l]; omega), l, show 108 + j - 36 = 72 + j by omega, List.getElem?_append_right (by rw [l]; omega), l, show 72 + j - 36 = 36 + j by omega, List.getElem?_append_right (by rw [l]; omega), l, show 36 + j - 36 = j by omega]
    rfl
theorem cA_0 {t n i : Int} : xA t n [] 2 i = 0 := by
  unfold xA
  rw [if_pos rfl]
  split <;> rfl
/-- what the first heap is -/
def fH (h : vH) : Prop := (∀ (k : Nat) (q i : Int) (c : Nat) (cc : cC), q = 3 + (c : Int) → (PLL 3)[c]? = some cc → h k q i = cc k i) ∧
  (∀ (k : Nat) (q i : Int) (c : Nat) (cc : cC), q = 282 + (c : Int) → (ModelL 282)[c]? = some cc → ¬ (k = 2 ∧ q = 310) → h k q i = cc k i) ∧ (h 0 1 0 = 10 ∧ h 1 1 0 = 0) ∧ h 3 0 0 = 339 ∧ h 2 310 0 = 24 ∧ h 2 310 1 = 0 ∧ h 2 310 2 = 0 ∧ h 2 310 3 = 0
section FST
variable {h : vH} {p P : Int}
theorem fp (F : fH h) {k : Nat} {q i v : Int} {c : Nat} {cc : cC} (hq : q = 3 + (c : Int)) (hc : (PLL 3)[c]? = some cc) (hv : cc k i = v) : h k q i = v := (F.1 k q i c cc hq hc).trans hv
theorem fm (F : fH h) {k : Nat} {q i v : Int} (c : Nat) {cc : cC} (hq : q = 282 + (c : Int)) (hc : (ModelL 282)[c]? = some cc) (n : ¬ (k = 2 ∧ q = 310)) (hv : cc k i = v) : h k q i = v := (F.2.1 k q i c cc hq hc n).trans hv
theorem pn (F : fH h) (hP : P = 138 + 36 * p ∧ 0 ≤ p ∧ p < 4) {k : Nat} {q i v : Int} (c : Nat) (hq : q = P + (c : Int)) (hj : c < 36) {cc : cC} (hc : (PaneL P 4)[c]? = some cc) (hv : cc k i = v) : h k q i = v := fp F (c := 123 + (12 + 36 * p.toNat + c)) (by omega) ((pl_P hP hj).trans hc) hv
theorem f_PL (F : fH h) : shPL h := ⟨fp F (c := 0) rfl pl_0 rfl, fp F (c := 0) rfl pl_0 rfl, (⟨fp F (c := 1 + 0) rfl (pl_T (by decide) rfl) rfl, fp F (c := 1 + 0) rfl (pl_T (by decide) rfl) rfl, fp F (c := 1 + 1) rfl (pl_T (by decide) rfl) rfl, fp F (c := 1 + 1) rfl (pl_T (by decide) rfl) rfl⟩), fp F (c := 0) rfl pl_0 rfl, fp F (c := 123 + 0) rfl (pl_A (by decide) rfl) rfl, fp F (c := 123 + 0) rfl (pl_A (by decide) rfl) rfl, fp F (c := 0) rfl pl_0 rfl, (⟨fp F (c := 123 + 1) rfl (pl_A (by decide) rfl) rfl, fp F (c := 123 + 1) rfl (pl_A (by decide) rfl) rfl, fp F (c := 123 + 2) rfl (pl_A (by decide) rfl) rfl, fp F (c := 123 + 2) rfl (pl_A (by decide) rfl) rfl, fp F (c := 123 + 1) rfl (pl_A (by decide) rfl) rfl, fp F (c := 123 + 3) rfl (pl_A (by decide) rfl) rfl, fp F (c := 123 + 3) rfl (pl_A (by decide) rfl) rfl, fp F (c := 123 + 1) rfl (pl_A (by decide) rfl) rfl, fp F (c := 123 + 4) rfl (pl_A (by decide) rfl) rfl, fp F (c := 123 + 4) rfl (pl_A (by decide) rfl) rfl, fp F (c := 123 + 1) rfl (pl_A (by decide) rfl) rfl, fp F (c := 123 + 5) rfl (pl_A (by decide) rfl) rfl, fp F (c := 123 + 5) rfl (pl_A (by decide) rfl) rfl, fp F (c := 123 + 1) rfl (pl_A (by decide) rfl) rfl, fp F (c := 123 + 6) rfl (pl_A (by decide) rfl) rfl, fp F (c := 123 + 6) rfl (pl_A (by decide) rfl) rfl, fp F (c := 123 + 1) rfl (pl_A (by decide) rfl) rfl, fp F (c := 123 + 7) rfl (pl_A (by decide) rfl) rfl, fp F (c := 123 + 7) rfl (pl_A (by decide) rfl) rfl⟩), fp F (c := 0) rfl pl_0 rfl, fp F (c := 123 + 8) rfl (pl_A (by decide) rfl) rfl, fp F (c := 123 + 8) rfl (pl_A (by decide) rfl) rfl, fp F (c := 0) rfl pl_0 rfl, fp F (c := 123 + 9) rfl (pl_A (by decide) rfl) rfl, fp F (c := 123 + 9) rfl (pl_A (by decide) rfl) rfl, fp F (c := 0) rfl pl_0 rfl, fp F (c := 123 + 10) rfl (pl_A (by decide) rfl) rfl, fp F (c := 123 + 10) rfl (pl_A (by decide) rfl) rfl, fp F (c := 0) rfl pl_0 rfl, fp F (c := 123 + 11) rfl (pl_A (by decide) rfl) rfl, fp F (c := 123 + 11) rfl (pl_A (by decide) rfl) rfl⟩
theorem fr (R : ∀ (k : Nat) (q i : Int) (c : Nat) (cc : cC), q = 282 + (c : Int) → (ModelL 282)[c]? = some cc → ¬ (k = 2 ∧ q = 310) → h k q i = cc k i) {k : Nat} {q i v : Int} (c : Nat) {cc : cC} (hq : q = 282 + (c : Int)) (hc : (ModelL 282)[c]? = some cc) (n : ¬ (k = 2 ∧ q = 310)) (hv : cc k i = v) : h k q i = v := (R k q i c cc hq hc n).trans hv
theorem f_ModelR (R : ∀ (k : Nat) (q i : Int) (c : Nat) (cc : cC), q = 282 + (c : Int) → (ModelL 282)[c]? = some cc → ¬ (k = 2 ∧ q = 310) → h k q i = cc k i) : shModel h := ⟨fr R 0 rfl rfl (by decide) rfl, fr R 0 rfl rfl (by decide) rfl, fr R 1 rfl rfl (by decide) rfl, fr R 1 rfl rfl (by decide) rfl, fr R 0 rfl rfl (by decide) rfl, fr R 2 rfl rfl (by decide) rfl, fr R 2 rfl rfl (by decide) rfl, fr R 0 rfl rfl (by decide) rfl, fr R 3 rfl rfl (by decide) rfl, fr R 3 rfl rfl (by decide) rfl, fr R 0 rfl rfl (by decide) rfl, fr R 4 rfl rfl (by decide) rfl, fr R 4 rfl rfl (by decide) rfl, fr R 0 rfl rfl (by decide) rfl, fr R 5 rfl rfl (by decide) rfl, fr R 5 rfl rfl (by decide) rfl, fr R 0 rfl rfl (by decide) rfl, fr R 6 rfl rfl (by decide) rfl, fr R 6 rfl rfl (by decide) rfl, fr R 0 rfl rfl (by decide) rfl, fr R 7 rfl rfl (by decide) rfl, fr R 7 rfl rfl (by decide) rfl, fr R 0 rfl rfl (by decide) rfl, fr R 8 rfl rfl (by decide) rfl, fr R 8 rfl rfl (by decide) rfl, fr R 0 rfl rfl (by decide) rfl, fr R 9 rfl rfl (by decide) rfl, fr R 9 rfl rfl (by decide) rfl, fr R 0 rfl rfl (by decide) rfl, fr R 10 rfl rfl (by decide) rfl, fr R 10 rfl rfl (by decide) rfl, fr R 0 rfl rfl (by decide) rfl, fr R 11 rfl rfl (by decide) rfl, fr R 11 rfl rfl (by decide) rfl, fr R 0 rfl rfl (by decide) rfl, fr R 12 rfl rfl (by decide) rfl, fr R 12 rfl rfl (by decide) rfl, fr R 0 rfl rfl (by decide) rfl, fr R 13 rfl rfl (by decide) rfl, fr R 13 rfl rfl (by decide) rfl, fr R 0 rfl rfl (by decide) rfl, fr R 14 rfl rfl (by decide) rfl, fr R 14 rfl rfl (by decide) rfl, fr R 0 rfl rfl (by decide) rfl, fr R 15 rfl rfl (by decide) rfl, fr R 15 rfl rfl (by decide) rfl, fr R 0 rfl rfl (by decide) rfl, fr R 16 rfl rfl (by decide) rfl, fr R 16 rfl rfl (by decide) rfl, fr R 0 rfl rfl (by decide) rfl, fr R 17 rfl rfl (by decide) rfl, fr R 17 rfl rfl (by decide) rfl, fr R 0 rfl rfl (by decide) rfl, fr R 18 rfl rfl (by decide) rfl, fr R 18 rfl rfl (by decide) rfl, fr R 0 rfl rfl (by decide) rfl, fr R 19 rfl rfl (by decide) rfl, fr R 19 rfl rfl (by decide) rfl, fr R 0 rfl rfl (by decide) rfl, fr R 20 rfl rfl (by decide) rfl, fr R 20 rfl rfl (by decide) rfl, fr R 0 rfl rfl (by decide) rfl, fr R 21 rfl rfl (by decide) rfl, fr R 21 rfl rfl (by decide) rfl, fr R 0 rfl rfl (by decide) rfl, fr R 22 rfl rfl (by decide) rfl, fr R 22 rfl rfl (by decide) rfl, fr R 0 rfl rfl (by decide) rfl, fr R 23 rfl rfl (by decide) rfl, fr R 23 rfl rfl (by decide) rfl, fr R 0 rfl rfl (by decide) rfl, fr R 24 rfl rfl (by decide) rfl, fr R 24 rfl rfl (by decide) rfl, fr R 0 rfl rfl (by decide) rfl, fr R 25 rfl rfl (by decide) rfl, fr R 25 rfl rfl (by decide) rfl, fr R 0 rfl rfl (by decide) rfl, fr R 26 rfl rfl (by decide) rfl, fr R 26 rfl rfl (by decide) rfl, fr R 0 rfl rfl (by decide) rfl, fr R 27 rfl rfl (by decide) rfl, fr R 27 rfl rfl (by decide) rfl, fr R 0 rfl rfl (by decide) rfl, fr R 28 rfl rfl (by decide) rfl, fr R 28 rfl rfl (by decide) rfl, fr R 0 rfl rfl (by decide) rfl, fr R 29 rfl rfl (by decide) rfl, fr R 29 rfl rfl (by decide) rfl, fr R 0 rfl rfl (by decide) rfl, fr R 30 rfl rfl (by decide) rfl, fr R 30 rfl rfl (by decide) rfl, fr R 0 rfl rfl (by decide) rfl, fr R 31 rfl rfl (by decide) rfl, fr R 31 rfl rfl (by decide) rfl, fr R 0 rfl rfl (by decide) rfl, fr R 32 rfl rfl (by decide) rfl, fr R 32 rfl rfl (by decide) rfl, fr R 0 rfl rfl (by decide) rfl, fr R 33 rfl rfl (by decide) rfl, fr R 33 rfl rfl (by decide) rfl, fr R 0 rfl rfl (by decide) rfl, fr R 34 rfl rfl (by decide) rfl, fr R 34 rfl rfl (by decide) rfl, fr R 0 rfl rfl (by decide) rfl, fr R 35 rfl rfl (by decide) rfl, fr R 35 rfl rfl (by decide) rfl, fr R 0 rfl rfl (by decide) rfl, fr R 36 rfl rfl (by decide) rfl, fr R 36 rfl rfl (by decide) rfl, fr R 0 rfl rfl (by decide) rfl, fr R 37 rfl rfl (by decide) rfl, fr R 37 rfl rfl (by decide) rfl, fr R 0 rfl rfl (by decide) rfl, fr R 38 rfl rfl (by decide) rfl, fr R 38 rfl rfl (by decide) rfl, fr R 0 rfl rfl (by decide) rfl, fr R 39 rfl rfl (by decide) rfl, fr R 39 rfl rfl (by decide) rfl, fr R 0 rfl rfl (by decide) rfl, fr R 40 rfl rfl (by decide) rfl, fr R 40 rfl rfl (by decide) rfl, fr R 0 rfl rfl (by decide) rfl, fr R 41 rfl rfl (by decide) rfl, fr R 41 rfl rfl (by decide) rfl, fr R 0 rfl rfl (by decide) rfl, fr R 42 rfl rfl (by decide) rfl, fr R 42 rfl rfl (by decide) rfl, fr R 0 rfl rfl (by decide) rfl, fr R 43 rfl rfl (by decide) rfl, fr R 43 rfl rfl (by decide) rfl, fr R 0 rfl rfl (by decide) rfl, fr R 44 rfl rfl (by decide) rfl, fr R 44 rfl rfl (by decide) rfl, fr R 0 rfl rfl (by decide) rfl, fr R 45 rfl rfl (by decide) rfl, fr R 45 rfl rfl (by decide) rfl, fr R 0 rfl rfl (by decide) rfl, fr R 46 rfl rfl (by decide) rfl, fr R 46 rfl rfl (by decide) rfl, fr R 0 rfl rfl (by decide) rfl, fr R 47 rfl rfl (by decide) rfl, fr R 47 rfl rfl (by decide) rfl, fr R 0 rfl rfl (by decide) rfl, fr R 48 rfl rfl (by decide) rfl, fr R 48 rfl rfl (by decide) rfl, fr R 0 rfl rfl (by decide) rfl, fr R 49 rfl rfl (by decide) rfl, fr R 49 rfl rfl (by decide) rfl, fr R 0 rfl rfl (by decide) rfl, fr R 50 rfl rfl (by decide) rfl, fr R 50 rfl rfl (by decide) rfl, fr R 0 rfl rfl (by decide) rfl, fr R 51 rfl rfl (by decide) rfl, fr R 51 rfl rfl (by decide) rfl, fr R 0 rfl rfl (by decide) rfl, fr R 52 rfl rfl (by decide) rfl, fr R 52 rfl rfl (by decide) rfl, fr R 0 rfl rfl (by decide) rfl, fr R 53 rfl rfl (by decide) rfl, fr R 53 rfl rfl (by decide) rfl, fr R 0 rfl rfl (by decide) rfl, fr R 54 rfl rfl (by decide) rfl, fr R 54 rfl rfl (by decide) rfl, fr R 0 rfl rfl (by decide) rfl, fr R 55 rfl rfl (by decide) rfl, fr R 55 rfl rfl (by decide) rfl⟩
theorem f_Model (F : fH h) : shModel h := f_ModelR F.2.1
theorem f_Pane (F : fH h) (hP : P = 138 + 36 * p ∧ 0 ≤ p ∧ p < 4) : shPane h P := ⟨pn F hP 0 (by omega) (by decide) rfl rfl, pn F hP 0 (by omega) (by decide) rfl rfl, pn F hP 0 (by omega) (by decide) rfl (by show P + 1 = P + 1; omega), (⟨pn F hP 1 (by omega) (by decide) rfl rfl, pn F hP 1 (by omega) (by decide) rfl (by show P + 2 = P + 1 + 1; omega), pn F hP 1 (by omega) (by decide) rfl (by show P + 3 = P + 1 + 2; omega), pn F hP 1 (by omega) (by decide) rfl (by show P + 4 = P + 1 + 3; omega)⟩), pn F hP 0 (by omega) (by decide) rfl (by show P + 5 = P + 5; omega), (⟨pn F hP 5 (by omega) (by decide) rfl rfl, pn F hP 5 (by omega) (by decide) rfl (by show P + 6 = P + 5 + 1; omega), pn F hP 6 (by omega) (by decide) rfl rfl, pn F hP 6 (by omega) (by decide) rfl rfl, pn F hP 5 (by omega) (by decide) rfl (by show P + 7 = P + 5 + 2; omega), pn F hP 7 (by omega) (by decide) rfl rfl, pn F hP 7 (by omega) (by decide) rfl rfl, pn F hP 5 (by omega) (by decide) rfl (by show P + 8 = P + 5 + 3; omega), pn F hP 8 (by omega) (by decide) rfl rfl, pn F hP 8 (by omega) (by decide) rfl rfl, pn F hP 5 (by omega) (by decide) rfl (by show P + 9 = P + 5 + 4; omega), pn F hP 9 (by omega) (by decide) rfl rfl, pn F hP 9 (by omega) (by decide) rfl rfl, pn F hP 5 (by omega) (by decide) rfl (by show P + 10 = P + 5 + 5; omega), pn F hP 10 (by omega) (by decide) rfl rfl, pn F hP 10 (by omega) (by decide) rfl rfl, pn F hP 5 (by omega) (by decide) rfl (by show P + 11 = P + 5 + 6; omega), pn F hP 11 (by omega) (by decide) rfl rfl, pn F hP 11 (by omega) (by decide) rfl rfl, pn F hP 5 (by omega) (by decide) rfl (by show P + 12 = P + 5 + 7; omega), pn F hP 12 (by omega) (by decide) rfl rfl, pn F hP 12 (by omega) (by decide) rfl rfl, pn F hP 5 (by omega) (by decide) rfl (by show P + 13 = P + 5 + 8; omega), pn F hP 13 (by omega) (by decide) rfl rfl, pn F hP 13 (by omega) (by decide) rfl rfl, pn F hP 5 (by omega) (by decide) rfl (by show P + 14 = P + 5 + 9; omega), pn F hP 14 (by omega) (by decide) rfl rfl, pn F hP 14 (by omega) (by decide) rfl rfl⟩), pn F hP 0 (by omega) (by decide) rfl (by show P + 15 = P + 15; omega), (⟨pn F hP 15 (by omega) (by decide) rfl rfl, pn F hP 15 (by omega) (by decide) rfl (by show P + 16 = P + 15 + 1; omega), pn F hP 16 (by omega) (by decide) rfl rfl, pn F hP 16 (by omega) (by decide) rfl rfl, pn F hP 15 (by omega) (by decide) rfl (by show P + 17 = P + 15 + 2; omega), pn F hP 17 (by omega) (by decide) rfl rfl, pn F hP 17 (by omega) (by decide) rfl rfl, pn F hP 15 (by omega) (by decide) rfl (by show P + 18 = P + 15 + 3; omega), pn F hP 18 (by omega) (by decide) rfl rfl, pn F hP 18 (by omega) (by decide) rfl rfl, pn F hP 15 (by omega) (by decide) rfl (by show P + 19 = P + 15 + 4; omega), pn F hP 19 (by omega) (by decide) rfl rfl, pn F hP 19 (by omega) (by decide) rfl rfl, pn F hP 15 (by omega) (by decide) rfl (by show P + 20 = P + 15 + 5; omega), pn F hP 20 (by omega) (by decide) rfl rfl, pn F hP 20 (by omega) (by decide) rfl rfl, pn F hP 15 (by omega) (by decide) rfl (by show P + 21 = P + 15 + 6; omega), pn F hP 21 (by omega) (by decide) rfl rfl, pn F hP 21 (by omega) (by decide) rfl rfl, pn F hP 15 (by omega) (by decide) rfl (by show P + 22 = P + 15 + 7; omega), pn F hP 22 (by omega) (by decide) rfl rfl, pn F hP 22 (by omega) (by decide) rfl rfl⟩), pn F hP 0 (by omega) (by decide) rfl (by show P + 23 = P + 23; omega), (pn F hP 23 (by omega) (by decide) rfl rfl), pn F hP 0 (by omega) (by decide) rfl (by show P + 24 = P + 24; omega), (pn F hP 24 (by omega) (by decide) rfl rfl), pn F hP 0 (by omega) (by decide) rfl (by show P + 25 = P + 25; omega), (pn F hP 25 (by omega) (by decide) rfl rfl), pn F hP 0 (by omega) (by decide) rfl (by show P + 26 = P + 26; omega), pn F hP 26 (by omega) (by decide) rfl rfl, pn F hP 26 (by omega) (by decide) rfl rfl, pn F hP 0 (by omega) (by decide) rfl (by show P + 27 = P + 27; omega), pn F hP 27 (by omega) (by decide) rfl rfl, pn F hP 27 (by omega) (by decide) rfl rfl⟩
theorem f_Pic28 (F : fH h) (hP : P = 138 + 36 * p ∧ 0 ≤ p ∧ p < 4) : shPicture h (P + 28) := ⟨pn F hP 28 (by omega) (by decide) rfl rfl, pn F hP 28 (by omega) (by decide) rfl (by show P + 29 = P + 28 + 1; omega), pn F hP 29 (by omega) (by decide) rfl rfl, pn F hP 29 (by omega) (by decide) rfl rfl, pn F hP 28 (by omega) (by decide) rfl (by show P + 30 = P + 28 + 2; omega), pn F hP 30 (by omega) (by decide) rfl rfl, pn F hP 30 (by omega) (by decide) rfl rfl, pn F hP 28 (by omega) (by decide) rfl (by show P + 31 = P + 28 + 3; omega), pn F hP 31 (by omega) (by decide) rfl rfl, pn F hP 31 (by omega) (by decide) rfl rfl⟩
theorem f_Pic32 (F : fH h) (hP : P = 138 + 36 * p ∧ 0 ≤ p ∧ p < 4) : shPicture h (P + 32) := ⟨pn F hP 32 (by omega) (by decide) rfl rfl, pn F hP 32 (by omega) (by decide) rfl (by show P + 33 = P + 32 + 1; omega), pn F hP 33 (by omega) (by decide) rfl rfl, pn F hP 33 (by omega) (by decide) rfl rfl, pn F hP 32 (by omega) (by decide) rfl (by show P + 34 = P + 32 + 2; omega), pn F hP 34 (by omega) (by decide) rfl rfl, pn F hP 34 (by omega) (by decide) rfl rfl, pn F hP 32 (by omega) (by decide) rfl (by show P + 35 = P + 32 + 3; omega), pn F hP 35 (by omega) (by decide) rfl rfl, pn F hP 35 (by omega) (by decide) rfl rfl⟩
end FST
