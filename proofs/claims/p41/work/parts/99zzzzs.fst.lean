theorem ptL_get {r : Int} : ∀ (n j : Nat), j < n → (ptL r n)[j]? = some (r + 2 * (j : Int))
  | 0, j, h => absurd h (Nat.not_lt_zero _)
  | n + 1, j, h => by
    rw [ptL]
    by_cases e : j = n
    · subst e
      rw [List.getElem?_append_right (Nat.le_of_eq (ptL_len _)), ptL_len, Nat.sub_self]
      rfl
    · rw [List.getElem?_append_left (by rw [ptL_len]; omega)]
      exact ptL_get n j (by omega)
theorem linesL_0 {r : Int} : ∀ (n j : Nat), j < n → (linesL r n)[2 * j]? = some (cO 25 [(600, r + 2 * (j : Int) + 1)])
  | 0, j, h => absurd h (Nat.not_lt_zero _)
  | n + 1, j, h => by
    rw [linesL]
    by_cases e : j = n
    · subst e
      rw [List.getElem?_append_right (Nat.le_of_eq (linesL_len _)), linesL_len, Nat.sub_self]
      rfl
    · rw [List.getElem?_append_left (by rw [linesL_len]; omega)]
      exact linesL_0 n j (by omega)
theorem linesL_1 {r : Int} : ∀ (n j : Nat), j < n → (linesL r n)[2 * j + 1]? = some (xA 1 80 [])
  | 0, j, h => absurd h (Nat.not_lt_zero _)
  | n + 1, j, h => by
    rw [linesL]
    by_cases e : j = n
    · subst e
      rw [List.getElem?_append_right (by rw [linesL_len]; omega), linesL_len, show 2 * j + 1 - 2 * j = 1 by omega]
      rfl
    · rw [List.getElem?_append_left (by rw [linesL_len]; omega)]
      exact linesL_1 n j (by omega)
def PLa : List cC := [xA 5 4 [138, 174, 210, 246]] ++ StackL 127 ++ [xA 1 50 [], xA 1 50 [], xA 1 10 [], xA 1 10 []]
def PLo : cC := cO 33 [(1408, 137), (1407, 136), (1404, 135), (1403, 134), (1402, 127), (1401, 126), (1400, 4)]
theorem PLL_eq : PLL 3 = [PLo] ++ (TextL 4 ++ (PLa ++ (PaneL 138 4 ++ (PaneL 174 4 ++ (PaneL 210 4 ++ PaneL 246 4))))) := by
  unfold PLL PLa
  simp only [List.append_assoc]
  rfl
theorem pl_0 : (PLL 3)[0]? = some PLo := by
  rw [PLL_eq]
  rfl
theorem pl_T {j : Nat} {c : cC} (hj : j < 122) (e : (TextL 4)[j]? = some c) : (PLL 3)[1 + j]? = some c := by
  rw [PLL_eq, List.getElem?_append_right (by show 1 ≤ 1 + j; omega), show 1 + j - [PLo].length = j from by show 1 + j - 1 = j; omega, List.getElem?_append_left (by rw [TextL_len]; exact hj)]
  exact e
theorem pl_R {j : Nat} : (PLL 3)[123 + j]? = (PLa ++ (PaneL 138 4 ++ (PaneL 174 4 ++ (PaneL 210 4 ++ PaneL 246 4))))[j]? := by
  rw [PLL_eq, List.getElem?_append_right (by show 1 ≤ 123 + j; omega), show 123 + j - [PLo].length = 122 + j from by show 123 + j - 1 = _; omega, List.getElem?_append_right (by rw [TextL_len]; omega), TextL_len, show 122 + j - 122 = j by omega]
theorem pl_A {j : Nat} {c : cC} (hj : j < 12) (e : PLa[j]? = some c) : (PLL 3)[123 + j]? = some c := by
  rw [pl_R, List.getElem?_append_left (by exact hj)]
  exact e
theorem pl_P {p P : Int} (hP : P = 138 + 36 * p ∧ 0 ≤ p ∧ p < 4) {j : Nat} (hj : j < 36) : (PLL 3)[123 + (12 + 36 * p.toNat + j)]? = (PaneL P 4)[j]? := by
  obtain ⟨e, h0, h4⟩ := hP
  subst e
  have l : ∀ r, (PaneL r 4).length = 36 := fun r => rfl
  rw [pl_R, List.getElem?_append_right (by show 12 ≤ _; omega)]
  obtain z | z | z | z : p = 0 ∨ p = 1 ∨ p = 2 ∨ p = 3 := by omega
  · subst z
    rw [show 12 + 36 * (0 : Int).toNat + j - PLa.length = j from by show 12 + 36 * 0 + j - 12 = j; omega, List.getElem?_append_left (by rw [l]; exact hj)]
    rfl
  · subst z
    rw [show 12 + 36 * (1 : Int).toNat + j - PLa.length = 36 + j from by show 12 + 36 * 1 + j - 12 = _; omega, List.getElem?_append_right (by rw [l]; omega), l, show 36 + j - 36 = j by omega, List.getElem?_append_left (by rw [l]; exact hj)]
    rfl
  · subst z
    rw [show 12 + 36 * (2 : Int).toNat + j - PLa.length = 72 + j from by show 12 + 36 * 2 + j - 12 = _; omega, List.getElem?_append_right (by rw [l]; omega), l, show 72 + j - 36 = 36 + j by omega, List.getElem?_append_right (by rw [l]; omega), l, show 36 + j - 36 = j by omega, List.getElem?_append_left (by rw [l]; exact hj)]
    rfl
  · subst z
    rw [show 12 + 36 * (3 : Int).toNat + j - PLa.length = 108 + j from by show 12 + 36 * 3 + j - 12 = _; omega, List.getElem?_append_right (by rw [l]; omega), l, show 108 + j - 36 = 72 + j by omega, List.getElem?_append_right (by rw [l]; omega), l, show 72 + j - 36 = 36 + j by omega, List.getElem?_append_right (by rw [l]; omega), l, show 36 + j - 36 = j by omega]
    rfl
theorem cA_0 {t n i : Int} : xA t n [] 2 i = 0 := by
  unfold xA
  rw [if_pos rfl]
  split <;> rfl
/-- what the first heap is: h the class's, a what it tells -/
def fG (h a : vH) : Prop := (∀ (k : Nat) (q i : Int) (c : Nat) (cc : cC), q = 3 + (c : Int) → (PLL 3)[c]? = some cc → h k q i = cc k i) ∧
  (∀ (k : Nat) (q i : Int) (c : Nat) (cc : cC), q = 282 + (c : Int) → (ModelL 282)[c]? = some cc → ¬ (k = 2 ∧ q = 310) → a k q i = cc k i) ∧ (h 0 1 0 = 10 ∧ h 1 1 0 = 0) ∧ h 3 0 0 = 282 ∧ a 2 310 0 = 24 ∧ a 2 310 1 = 0 ∧ a 2 310 2 = 0 ∧ a 2 310 3 = 0
section FST
variable {h a : vH} {p P : Int}
theorem fp_g (F : fG h a) {k : Nat} {q i v : Int} {c : Nat} {cc : cC} (hq : q = 3 + (c : Int)) (hc : (PLL 3)[c]? = some cc) (hv : cc k i = v) : h k q i = v := (F.1 k q i c cc hq hc).trans hv
theorem fm (F : fG h a) {k : Nat} {q i v : Int} (c : Nat) {cc : cC} (hq : q = 282 + (c : Int)) (hc : (ModelL 282)[c]? = some cc) (n : ¬ (k = 2 ∧ q = 310)) (hv : cc k i = v) : a k q i = v := (F.2.1 k q i c cc hq hc n).trans hv
theorem pn (F : fG h a) (hP : P = 138 + 36 * p ∧ 0 ≤ p ∧ p < 4) {k : Nat} {q i v : Int} (c : Nat) (hq : q = P + (c : Int)) (hj : c < 36) {cc : cC} (hc : (PaneL P 4)[c]? = some cc) (hv : cc k i = v) : h k q i = v := fp_g F (c := 123 + (12 + 36 * p.toNat + c)) (by omega) ((pl_P hP hj).trans hc) hv
theorem f_PL (F : fG h a) : shPL h := ⟨fp_g F (c := 0) rfl pl_0 rfl, fp_g F (c := 0) rfl pl_0 rfl, (⟨fp_g F (c := 1 + 0) rfl (pl_T (by decide) rfl) rfl, fp_g F (c := 1 + 0) rfl (pl_T (by decide) rfl) rfl, fp_g F (c := 1 + 1) rfl (pl_T (by decide) rfl) rfl, fp_g F (c := 1 + 1) rfl (pl_T (by decide) rfl) rfl⟩), fp_g F (c := 0) rfl pl_0 rfl, fp_g F (c := 123 + 0) rfl (pl_A (by decide) rfl) rfl, fp_g F (c := 123 + 0) rfl (pl_A (by decide) rfl) rfl, fp_g F (c := 0) rfl pl_0 rfl, (⟨fp_g F (c := 123 + 1) rfl (pl_A (by decide) rfl) rfl, fp_g F (c := 123 + 1) rfl (pl_A (by decide) rfl) rfl, fp_g F (c := 123 + 2) rfl (pl_A (by decide) rfl) rfl, fp_g F (c := 123 + 2) rfl (pl_A (by decide) rfl) rfl, fp_g F (c := 123 + 1) rfl (pl_A (by decide) rfl) rfl, fp_g F (c := 123 + 3) rfl (pl_A (by decide) rfl) rfl, fp_g F (c := 123 + 3) rfl (pl_A (by decide) rfl) rfl, fp_g F (c := 123 + 1) rfl (pl_A (by decide) rfl) rfl, fp_g F (c := 123 + 4) rfl (pl_A (by decide) rfl) rfl, fp_g F (c := 123 + 4) rfl (pl_A (by decide) rfl) rfl, fp_g F (c := 123 + 1) rfl (pl_A (by decide) rfl) rfl, fp_g F (c := 123 + 5) rfl (pl_A (by decide) rfl) rfl, fp_g F (c := 123 + 5) rfl (pl_A (by decide) rfl) rfl, fp_g F (c := 123 + 1) rfl (pl_A (by decide) rfl) rfl, fp_g F (c := 123 + 6) rfl (pl_A (by decide) rfl) rfl, fp_g F (c := 123 + 6) rfl (pl_A (by decide) rfl) rfl, fp_g F (c := 123 + 1) rfl (pl_A (by decide) rfl) rfl, fp_g F (c := 123 + 7) rfl (pl_A (by decide) rfl) rfl, fp_g F (c := 123 + 7) rfl (pl_A (by decide) rfl) rfl⟩), fp_g F (c := 0) rfl pl_0 rfl, fp_g F (c := 123 + 8) rfl (pl_A (by decide) rfl) rfl, fp_g F (c := 123 + 8) rfl (pl_A (by decide) rfl) rfl, fp_g F (c := 0) rfl pl_0 rfl, fp_g F (c := 123 + 9) rfl (pl_A (by decide) rfl) rfl, fp_g F (c := 123 + 9) rfl (pl_A (by decide) rfl) rfl, fp_g F (c := 0) rfl pl_0 rfl, fp_g F (c := 123 + 10) rfl (pl_A (by decide) rfl) rfl, fp_g F (c := 123 + 10) rfl (pl_A (by decide) rfl) rfl, fp_g F (c := 0) rfl pl_0 rfl, fp_g F (c := 123 + 11) rfl (pl_A (by decide) rfl) rfl, fp_g F (c := 123 + 11) rfl (pl_A (by decide) rfl) rfl⟩
theorem fr_g (R : ∀ (k : Nat) (q i : Int) (c : Nat) (cc : cC), q = 282 + (c : Int) → (ModelL 282)[c]? = some cc → ¬ (k = 2 ∧ q = 310) → h k q i = cc k i) {k : Nat} {q i v : Int} (c : Nat) {cc : cC} (hq : q = 282 + (c : Int)) (hc : (ModelL 282)[c]? = some cc) (n : ¬ (k = 2 ∧ q = 310)) (hv : cc k i = v) : h k q i = v := (R k q i c cc hq hc n).trans hv
theorem f_ModelR (R : ∀ (k : Nat) (q i : Int) (c : Nat) (cc : cC), q = 282 + (c : Int) → (ModelL 282)[c]? = some cc → ¬ (k = 2 ∧ q = 310) → h k q i = cc k i) : shModel h := ⟨fr_g R 0 rfl rfl (by decide) rfl, fr_g R 0 rfl rfl (by decide) rfl, fr_g R 1 rfl rfl (by decide) rfl, fr_g R 1 rfl rfl (by decide) rfl, fr_g R 0 rfl rfl (by decide) rfl, fr_g R 2 rfl rfl (by decide) rfl, fr_g R 2 rfl rfl (by decide) rfl, fr_g R 0 rfl rfl (by decide) rfl, fr_g R 3 rfl rfl (by decide) rfl, fr_g R 3 rfl rfl (by decide) rfl, fr_g R 0 rfl rfl (by decide) rfl, fr_g R 4 rfl rfl (by decide) rfl, fr_g R 4 rfl rfl (by decide) rfl, fr_g R 0 rfl rfl (by decide) rfl, fr_g R 5 rfl rfl (by decide) rfl, fr_g R 5 rfl rfl (by decide) rfl, fr_g R 0 rfl rfl (by decide) rfl, fr_g R 6 rfl rfl (by decide) rfl, fr_g R 6 rfl rfl (by decide) rfl, fr_g R 0 rfl rfl (by decide) rfl, fr_g R 7 rfl rfl (by decide) rfl, fr_g R 7 rfl rfl (by decide) rfl, fr_g R 0 rfl rfl (by decide) rfl, fr_g R 8 rfl rfl (by decide) rfl, fr_g R 8 rfl rfl (by decide) rfl, fr_g R 0 rfl rfl (by decide) rfl, fr_g R 9 rfl rfl (by decide) rfl, fr_g R 9 rfl rfl (by decide) rfl, fr_g R 0 rfl rfl (by decide) rfl, fr_g R 10 rfl rfl (by decide) rfl, fr_g R 10 rfl rfl (by decide) rfl, fr_g R 0 rfl rfl (by decide) rfl, fr_g R 11 rfl rfl (by decide) rfl, fr_g R 11 rfl rfl (by decide) rfl, fr_g R 0 rfl rfl (by decide) rfl, fr_g R 12 rfl rfl (by decide) rfl, fr_g R 12 rfl rfl (by decide) rfl, fr_g R 0 rfl rfl (by decide) rfl, fr_g R 13 rfl rfl (by decide) rfl, fr_g R 13 rfl rfl (by decide) rfl, fr_g R 0 rfl rfl (by decide) rfl, fr_g R 14 rfl rfl (by decide) rfl, fr_g R 14 rfl rfl (by decide) rfl, fr_g R 0 rfl rfl (by decide) rfl, fr_g R 15 rfl rfl (by decide) rfl, fr_g R 15 rfl rfl (by decide) rfl, fr_g R 0 rfl rfl (by decide) rfl, fr_g R 16 rfl rfl (by decide) rfl, fr_g R 16 rfl rfl (by decide) rfl, fr_g R 0 rfl rfl (by decide) rfl, fr_g R 17 rfl rfl (by decide) rfl, fr_g R 17 rfl rfl (by decide) rfl, fr_g R 0 rfl rfl (by decide) rfl, fr_g R 18 rfl rfl (by decide) rfl, fr_g R 18 rfl rfl (by decide) rfl, fr_g R 0 rfl rfl (by decide) rfl, fr_g R 19 rfl rfl (by decide) rfl, fr_g R 19 rfl rfl (by decide) rfl, fr_g R 0 rfl rfl (by decide) rfl, fr_g R 20 rfl rfl (by decide) rfl, fr_g R 20 rfl rfl (by decide) rfl, fr_g R 0 rfl rfl (by decide) rfl, fr_g R 21 rfl rfl (by decide) rfl, fr_g R 21 rfl rfl (by decide) rfl, fr_g R 0 rfl rfl (by decide) rfl, fr_g R 22 rfl rfl (by decide) rfl, fr_g R 22 rfl rfl (by decide) rfl, fr_g R 0 rfl rfl (by decide) rfl, fr_g R 23 rfl rfl (by decide) rfl, fr_g R 23 rfl rfl (by decide) rfl, fr_g R 0 rfl rfl (by decide) rfl, fr_g R 24 rfl rfl (by decide) rfl, fr_g R 24 rfl rfl (by decide) rfl, fr_g R 0 rfl rfl (by decide) rfl, fr_g R 25 rfl rfl (by decide) rfl, fr_g R 25 rfl rfl (by decide) rfl, fr_g R 0 rfl rfl (by decide) rfl, fr_g R 26 rfl rfl (by decide) rfl, fr_g R 26 rfl rfl (by decide) rfl, fr_g R 0 rfl rfl (by decide) rfl, fr_g R 27 rfl rfl (by decide) rfl, fr_g R 27 rfl rfl (by decide) rfl, fr_g R 0 rfl rfl (by decide) rfl, fr_g R 28 rfl rfl (by decide) rfl, fr_g R 28 rfl rfl (by decide) rfl, fr_g R 0 rfl rfl (by decide) rfl, fr_g R 29 rfl rfl (by decide) rfl, fr_g R 29 rfl rfl (by decide) rfl, fr_g R 0 rfl rfl (by decide) rfl, fr_g R 30 rfl rfl (by decide) rfl, fr_g R 30 rfl rfl (by decide) rfl, fr_g R 0 rfl rfl (by decide) rfl, fr_g R 31 rfl rfl (by decide) rfl, fr_g R 31 rfl rfl (by decide) rfl, fr_g R 0 rfl rfl (by decide) rfl, fr_g R 32 rfl rfl (by decide) rfl, fr_g R 32 rfl rfl (by decide) rfl, fr_g R 0 rfl rfl (by decide) rfl, fr_g R 33 rfl rfl (by decide) rfl, fr_g R 33 rfl rfl (by decide) rfl, fr_g R 0 rfl rfl (by decide) rfl, fr_g R 34 rfl rfl (by decide) rfl, fr_g R 34 rfl rfl (by decide) rfl, fr_g R 0 rfl rfl (by decide) rfl, fr_g R 35 rfl rfl (by decide) rfl, fr_g R 35 rfl rfl (by decide) rfl, fr_g R 0 rfl rfl (by decide) rfl, fr_g R 36 rfl rfl (by decide) rfl, fr_g R 36 rfl rfl (by decide) rfl, fr_g R 0 rfl rfl (by decide) rfl, fr_g R 37 rfl rfl (by decide) rfl, fr_g R 37 rfl rfl (by decide) rfl, fr_g R 0 rfl rfl (by decide) rfl, fr_g R 38 rfl rfl (by decide) rfl, fr_g R 38 rfl rfl (by decide) rfl, fr_g R 0 rfl rfl (by decide) rfl, fr_g R 39 rfl rfl (by decide) rfl, fr_g R 39 rfl rfl (by decide) rfl, fr_g R 0 rfl rfl (by decide) rfl, fr_g R 40 rfl rfl (by decide) rfl, fr_g R 40 rfl rfl (by decide) rfl, fr_g R 0 rfl rfl (by decide) rfl, fr_g R 41 rfl rfl (by decide) rfl, fr_g R 41 rfl rfl (by decide) rfl, fr_g R 0 rfl rfl (by decide) rfl, fr_g R 42 rfl rfl (by decide) rfl, fr_g R 42 rfl rfl (by decide) rfl, fr_g R 0 rfl rfl (by decide) rfl, fr_g R 43 rfl rfl (by decide) rfl, fr_g R 43 rfl rfl (by decide) rfl, fr_g R 0 rfl rfl (by decide) rfl, fr_g R 44 rfl rfl (by decide) rfl, fr_g R 44 rfl rfl (by decide) rfl, fr_g R 0 rfl rfl (by decide) rfl, fr_g R 45 rfl rfl (by decide) rfl, fr_g R 45 rfl rfl (by decide) rfl, fr_g R 0 rfl rfl (by decide) rfl, fr_g R 46 rfl rfl (by decide) rfl, fr_g R 46 rfl rfl (by decide) rfl, fr_g R 0 rfl rfl (by decide) rfl, fr_g R 47 rfl rfl (by decide) rfl, fr_g R 47 rfl rfl (by decide) rfl, fr_g R 0 rfl rfl (by decide) rfl, fr_g R 48 rfl rfl (by decide) rfl, fr_g R 48 rfl rfl (by decide) rfl, fr_g R 0 rfl rfl (by decide) rfl, fr_g R 49 rfl rfl (by decide) rfl, fr_g R 49 rfl rfl (by decide) rfl, fr_g R 0 rfl rfl (by decide) rfl, fr_g R 50 rfl rfl (by decide) rfl, fr_g R 50 rfl rfl (by decide) rfl, fr_g R 0 rfl rfl (by decide) rfl, fr_g R 51 rfl rfl (by decide) rfl, fr_g R 51 rfl rfl (by decide) rfl, fr_g R 0 rfl rfl (by decide) rfl, fr_g R 52 rfl rfl (by decide) rfl, fr_g R 52 rfl rfl (by decide) rfl, fr_g R 0 rfl rfl (by decide) rfl, fr_g R 53 rfl rfl (by decide) rfl, fr_g R 53 rfl rfl (by decide) rfl, fr_g R 0 rfl rfl (by decide) rfl, fr_g R 54 rfl rfl (by decide) rfl, fr_g R 54 rfl rfl (by decide) rfl, fr_g R 0 rfl rfl (by decide) rfl, fr_g R 55 rfl rfl (by decide) rfl, fr_g R 55 rfl rfl (by decide) rfl⟩
theorem f_Model (F : fG h a) : shModel a := f_ModelR (h := a) F.2.1
theorem f_Pane (F : fG h a) (hP : P = 138 + 36 * p ∧ 0 ≤ p ∧ p < 4) : shPane h P := ⟨pn F hP 0 (by omega) (by decide) rfl rfl, pn F hP 0 (by omega) (by decide) rfl rfl, pn F hP 0 (by omega) (by decide) rfl (by show P + 1 = P + 1; omega), (⟨pn F hP 1 (by omega) (by decide) rfl rfl, pn F hP 1 (by omega) (by decide) rfl (by show P + 2 = P + 1 + 1; omega), pn F hP 1 (by omega) (by decide) rfl (by show P + 3 = P + 1 + 2; omega), pn F hP 1 (by omega) (by decide) rfl (by show P + 4 = P + 1 + 3; omega)⟩), pn F hP 0 (by omega) (by decide) rfl (by show P + 5 = P + 5; omega), (⟨pn F hP 5 (by omega) (by decide) rfl rfl, pn F hP 5 (by omega) (by decide) rfl (by show P + 6 = P + 5 + 1; omega), pn F hP 6 (by omega) (by decide) rfl rfl, pn F hP 6 (by omega) (by decide) rfl rfl, pn F hP 5 (by omega) (by decide) rfl (by show P + 7 = P + 5 + 2; omega), pn F hP 7 (by omega) (by decide) rfl rfl, pn F hP 7 (by omega) (by decide) rfl rfl, pn F hP 5 (by omega) (by decide) rfl (by show P + 8 = P + 5 + 3; omega), pn F hP 8 (by omega) (by decide) rfl rfl, pn F hP 8 (by omega) (by decide) rfl rfl, pn F hP 5 (by omega) (by decide) rfl (by show P + 9 = P + 5 + 4; omega), pn F hP 9 (by omega) (by decide) rfl rfl, pn F hP 9 (by omega) (by decide) rfl rfl, pn F hP 5 (by omega) (by decide) rfl (by show P + 10 = P + 5 + 5; omega), pn F hP 10 (by omega) (by decide) rfl rfl, pn F hP 10 (by omega) (by decide) rfl rfl, pn F hP 5 (by omega) (by decide) rfl (by show P + 11 = P + 5 + 6; omega), pn F hP 11 (by omega) (by decide) rfl rfl, pn F hP 11 (by omega) (by decide) rfl rfl, pn F hP 5 (by omega) (by decide) rfl (by show P + 12 = P + 5 + 7; omega), pn F hP 12 (by omega) (by decide) rfl rfl, pn F hP 12 (by omega) (by decide) rfl rfl, pn F hP 5 (by omega) (by decide) rfl (by show P + 13 = P + 5 + 8; omega), pn F hP 13 (by omega) (by decide) rfl rfl, pn F hP 13 (by omega) (by decide) rfl rfl, pn F hP 5 (by omega) (by decide) rfl (by show P + 14 = P + 5 + 9; omega), pn F hP 14 (by omega) (by decide) rfl rfl, pn F hP 14 (by omega) (by decide) rfl rfl⟩), pn F hP 0 (by omega) (by decide) rfl (by show P + 15 = P + 15; omega), (⟨pn F hP 15 (by omega) (by decide) rfl rfl, pn F hP 15 (by omega) (by decide) rfl (by show P + 16 = P + 15 + 1; omega), pn F hP 16 (by omega) (by decide) rfl rfl, pn F hP 16 (by omega) (by decide) rfl rfl, pn F hP 15 (by omega) (by decide) rfl (by show P + 17 = P + 15 + 2; omega), pn F hP 17 (by omega) (by decide) rfl rfl, pn F hP 17 (by omega) (by decide) rfl rfl, pn F hP 15 (by omega) (by decide) rfl (by show P + 18 = P + 15 + 3; omega), pn F hP 18 (by omega) (by decide) rfl rfl, pn F hP 18 (by omega) (by decide) rfl rfl, pn F hP 15 (by omega) (by decide) rfl (by show P + 19 = P + 15 + 4; omega), pn F hP 19 (by omega) (by decide) rfl rfl, pn F hP 19 (by omega) (by decide) rfl rfl, pn F hP 15 (by omega) (by decide) rfl (by show P + 20 = P + 15 + 5; omega), pn F hP 20 (by omega) (by decide) rfl rfl, pn F hP 20 (by omega) (by decide) rfl rfl, pn F hP 15 (by omega) (by decide) rfl (by show P + 21 = P + 15 + 6; omega), pn F hP 21 (by omega) (by decide) rfl rfl, pn F hP 21 (by omega) (by decide) rfl rfl, pn F hP 15 (by omega) (by decide) rfl (by show P + 22 = P + 15 + 7; omega), pn F hP 22 (by omega) (by decide) rfl rfl, pn F hP 22 (by omega) (by decide) rfl rfl⟩), pn F hP 0 (by omega) (by decide) rfl (by show P + 23 = P + 23; omega), (pn F hP 23 (by omega) (by decide) rfl rfl), pn F hP 0 (by omega) (by decide) rfl (by show P + 24 = P + 24; omega), (pn F hP 24 (by omega) (by decide) rfl rfl), pn F hP 0 (by omega) (by decide) rfl (by show P + 25 = P + 25; omega), (pn F hP 25 (by omega) (by decide) rfl rfl), pn F hP 0 (by omega) (by decide) rfl (by show P + 26 = P + 26; omega), pn F hP 26 (by omega) (by decide) rfl rfl, pn F hP 26 (by omega) (by decide) rfl rfl, pn F hP 0 (by omega) (by decide) rfl (by show P + 27 = P + 27; omega), pn F hP 27 (by omega) (by decide) rfl rfl, pn F hP 27 (by omega) (by decide) rfl rfl⟩
theorem f_Pic28 (F : fG h a) (hP : P = 138 + 36 * p ∧ 0 ≤ p ∧ p < 4) : shPicture h (P + 28) := ⟨pn F hP 28 (by omega) (by decide) rfl rfl, pn F hP 28 (by omega) (by decide) rfl (by show P + 29 = P + 28 + 1; omega), pn F hP 29 (by omega) (by decide) rfl rfl, pn F hP 29 (by omega) (by decide) rfl rfl, pn F hP 28 (by omega) (by decide) rfl (by show P + 30 = P + 28 + 2; omega), pn F hP 30 (by omega) (by decide) rfl rfl, pn F hP 30 (by omega) (by decide) rfl rfl, pn F hP 28 (by omega) (by decide) rfl (by show P + 31 = P + 28 + 3; omega), pn F hP 31 (by omega) (by decide) rfl rfl, pn F hP 31 (by omega) (by decide) rfl rfl⟩
theorem f_Pic32 (F : fG h a) (hP : P = 138 + 36 * p ∧ 0 ≤ p ∧ p < 4) : shPicture h (P + 32) := ⟨pn F hP 32 (by omega) (by decide) rfl rfl, pn F hP 32 (by omega) (by decide) rfl (by show P + 33 = P + 32 + 1; omega), pn F hP 33 (by omega) (by decide) rfl rfl, pn F hP 33 (by omega) (by decide) rfl rfl, pn F hP 32 (by omega) (by decide) rfl (by show P + 34 = P + 32 + 2; omega), pn F hP 34 (by omega) (by decide) rfl rfl, pn F hP 34 (by omega) (by decide) rfl rfl, pn F hP 32 (by omega) (by decide) rfl (by show P + 35 = P + 32 + 3; omega), pn F hP 35 (by omega) (by decide) rfl rfl, pn F hP 35 (by omega) (by decide) rfl rfl⟩
end FST
section FS2
variable {h a : vH} {p P : Int}
theorem f_z (F : fG h a) (c : Nat) {q i t n : Int} (hq : q = 282 + (c : Int)) (hc : (ModelL 282)[c]? = some (xA t n [])) (ne : ¬ q = 310) : a 2 q i = 0 := fm F c hq hc (fun z => ne z.2) cA_0
theorem f_p4 {f : Int → Prop} (a0 : f 0) (a1 : f 1) (a2 : f 2) (a3 : f 3) : ∀ p, 0 ≤ p → p < 4 → f p := fun p u v => by
  obtain z | z | z | z : p = 0 ∨ p = 1 ∨ p = 2 ∨ p = 3 := by omega
  · subst z; exact a0
  · subst z; exact a1
  · subst z; exact a2
  · subst z; exact a3
theorem f_ln (F : fG h a) : a 1504 282 0 = 1 := fm F 0 rfl rfl (by decide) rfl
theorem f_th (F : fG h a) : a 1500 282 0 = 0 := fm F 0 rfl rfl (by decide) rfl
theorem f_w (F : fG h a) : ∀ p, 0 ≤ p → p < 4 → a 2 286 p = 20 := f_p4 (fm F 4 rfl rfl (by decide) rfl) (fm F 4 rfl rfl (by decide) rfl) (fm F 4 rfl rfl (by decide) rfl) (fm F 4 rfl rfl (by decide) rfl)
theorem f_o0 (F : fG h a) : a 2 289 0 = 1 := fm F 7 rfl rfl (by decide) rfl
theorem f_o1 (F : fG h a) : a 2 289 1 = 0 := fm F 7 rfl rfl (by decide) rfl
theorem f_o2 (F : fG h a) : a 2 289 2 = 0 := fm F 7 rfl rfl (by decide) rfl
theorem f_o3 (F : fG h a) : a 2 289 3 = 0 := fm F 7 rfl rfl (by decide) rfl
theorem f_wt (F : fG h a) : ∀ p, 0 ≤ p → p < 4 → a 2 290 p = 1 := f_p4 (fm F 8 rfl rfl (by decide) rfl) (fm F 8 rfl rfl (by decide) rfl) (fm F 8 rfl rfl (by decide) rfl) (fm F 8 rfl rfl (by decide) rfl)
theorem f_ls (F : fG h a) : ∀ p, 0 ≤ p → p < 4 → a 2 291 p = 3 := f_p4 (fm F 9 rfl rfl (by decide) rfl) (fm F 9 rfl rfl (by decide) rfl) (fm F 9 rfl rfl (by decide) rfl) (fm F 9 rfl rfl (by decide) rfl)
theorem f_lk (F : fG h a) : ∀ p, 0 ≤ p → p < 4 → a 2 292 p = -1 := f_p4 (fm F 10 rfl rfl (by decide) rfl) (fm F 10 rfl rfl (by decide) rfl) (fm F 10 rfl rfl (by decide) rfl) (fm F 10 rfl rfl (by decide) rfl)
theorem f_len (F : fG h a) {i : Int} : a 2 284 i = 0 := f_z F 2 rfl rfl (by decide)
theorem f_sp (F : fG h a) {i : Int} : a 2 293 i = 0 := f_z F 11 rfl rfl (by decide)
theorem f_vi (F : fG h a) {i : Int} : a 2 297 i = 0 := f_z F 15 rfl rfl (by decide)
theorem f_fo (F : fG h a) {i : Int} : a 2 301 i = 0 := f_z F 19 rfl rfl (by decide)
theorem f_mG (F : fG h a) : mG a := by
  refine ⟨f_Model F, by rw [f_ln F]; decide, fun l _ _ => by rw [f_len F]; decide, fun p _ _ => ?_⟩
  unfold mOKp
  rw [f_sp F, f_vi F, f_fo F, f_w F p ‹_› ‹_›, f_z F 5 (q := 287) rfl rfl (by decide)]
  exact ⟨⟨by decide, by decide, by decide, by decide, by decide, by decide, fun k a b => by omega⟩, by decide, by decide⟩
theorem f_iG (F : fG h a) : iG a := by
  refine ⟨f_mG F, fun p u v => ?_⟩
  rw [f_sp F, f_vi F, f_fo F, f_ln F, f_z F 23 (q := 305) rfl rfl (by decide), f_z F 24 (q := 306) rfl rfl (by decide), f_z F 26 (q := 308) rfl rfl (by decide), f_z F 27 (q := 309) rfl rfl (by decide), f_z F 6 (q := 288) rfl rfl (by decide), f_len F]
  exact ⟨fun k a b => by omega, fun k a b => by omega, fun k a b => by omega, by decide, by decide, by decide⟩
theorem f_h (F : fG h a) : ∀ p, 0 ≤ p → p < 4 → (0 ≤ a 2 310 p ∧ a 2 310 p ≤ 24) ∧ (¬ a 2 289 p = 0 → 1 ≤ a 2 310 p) := by
  obtain ⟨-, -, -, -, a0, a1, a2, a3⟩ := id F
  refine f_p4 ?_ ?_ ?_ ?_
  · rw [a0]; exact ⟨by decide, fun _ => by decide⟩
  · rw [a1, f_o1 F]; exact ⟨by decide, fun n => absurd rfl n⟩
  · rw [a2, f_o2 F]; exact ⟨by decide, fun n => absurd rfl n⟩
  · rw [a3, f_o3 F]; exact ⟨by decide, fun n => absurd rfl n⟩
theorem f_iH (F : fG h a) : iH a := by
  refine ⟨fun p u v => ?_, ⟨0, by decide, by decide, by rw [f_o0 F]; decide⟩, f_h F, ?_, ⟨?_, fun i u v => ?_⟩, fun p u v => ⟨?_, fun k a b => ?_⟩, fun l x u v w y => ?_⟩
  · rw [f_wt F p u v, f_ls F p u v, f_lk F p u v]
    refine ⟨by decide, by decide, Or.inl rfl, ?_⟩
    revert u v
    revert p
    exact f_p4 (Or.inr (f_o0 F)) (Or.inl (f_o1 F)) (Or.inl (f_o2 F)) (Or.inl (f_o3 F))
  · show 0 + (if a 2 289 0 = 0 then 0 else if a 2 292 0 = -1 then a 2 291 0 else a 2 292 0) + (if a 2 289 1 = 0 then 0 else if a 2 292 1 = -1 then a 2 291 1 else a 2 292 1) + (if a 2 289 2 = 0 then 0 else if a 2 292 2 = -1 then a 2 291 2 else a 2 292 2) + (if a 2 289 3 = 0 then 0 else if a 2 292 3 = -1 then a 2 291 3 else a 2 292 3) ≤ 24
    rw [f_o0 F, f_o1 F, f_o2 F, f_o3 F, f_lk F 0 (by decide) (by decide), f_ls F 0 (by decide) (by decide), if_neg (by decide : ¬ (1 : Int) = 0), if_pos rfl, if_pos rfl, if_pos rfl, if_pos rfl]
    decide
  · rw [show a 1559 282 0 = 0 from fm F 0 rfl rfl (by decide) rfl]; decide
  · rw [show a 1559 282 0 = 0 from fm F 0 rfl rfl (by decide) rfl] at v; omega
  · rw [f_z F 47 (q := 329) rfl rfl (by decide)]; decide
  · rw [f_z F 47 (q := 329) rfl rfl (by decide)] at b; omega
  · rw [f_len F] at y; omega
theorem f_iN (F : fG h a) : iN 0 a := by
  refine ⟨⟨f_iG F, f_iH F, fun l u v => Or.inl (f_z F 3 rfl rfl (by decide)), fun k u v => Or.inl (f_z F 22 rfl rfl (by decide))⟩, fun k u v => ?_, fun k u v b b0 b1 b2 => ?_⟩
  · rw [f_z F 12 (q := 294) rfl rfl (by decide), f_z F 13 (q := 295) rfl rfl (by decide), f_z F 14 (q := 296) rfl rfl (by decide), f_z F 16 (q := 298) rfl rfl (by decide), f_z F 17 (q := 299) rfl rfl (by decide), f_z F 20 (q := 302) rfl rfl (by decide), f_z F 21 (q := 303) rfl rfl (by decide), f_ln F, f_len F]
    decide
  · rw [f_z F 18 (q := 300) rfl rfl (by decide)]
    obtain z | z | z | z | z | z | z | z : b = 0 ∨ b = 8 ∨ b = 16 ∨ b = 24 ∨ b = 32 ∨ b = 40 ∨ b = 48 ∨ b = 56 := by omega
    all_goals (subst z; decide)
theorem f_dL (F : fG h a) : ∀ p t, 0 ≤ p → p < 4 → 0 ≤ t → t < 3 → dL h p t = 1 := fun p t u v w y => by
  obtain z | z | z : t = 0 ∨ t = 1 ∨ t = 2 := by omega
  · exact pn F (P := 138 + 36 * p) ⟨rfl, u, v⟩ 2 (by omega) (by decide) rfl rfl
  · exact pn F (P := 138 + 36 * p) ⟨rfl, u, v⟩ 3 (by omega) (by decide) rfl rfl
  · exact pn F (P := 138 + 36 * p) ⟨rfl, u, v⟩ 4 (by omega) (by decide) rfl rfl
theorem f_nL (F : fG h a) {t : Int} : nL a p t = 0 := by
  unfold nL
  rw [f_sp F, f_vi F, f_fo F]
  split
  · rfl
  · split <;> rfl
theorem f_li (F : fG h a) {i : Int} (u : 0 ≤ i) (v : i < 60) : h 2 5 i = 6 + 2 * i := by
  refine fp_g F (c := 1 + 1) rfl (pl_T (by decide) rfl) ?_
  show (if 0 ≤ i then (ptL 6 60).getD i.toNat 0 else 0) = _
  rw [if_pos u, List.getD_eq_getElem?_getD, ptL_get 60 i.toNat (by omega)]
  show 6 + 2 * (i.toNat : Int) = _
  omega
theorem f_l0 (F : fG h a) {k : Nat} {i j v : Int} (u : 0 ≤ j) (w : j < 60) (e : cO 25 [(600, 6 + 2 * (j.toNat : Int) + 1)] k i = v) : h k (6 + 2 * j) i = v := by
  refine fp_g F (c := 1 + (2 + 2 * j.toNat)) (by omega) (pl_T (by omega) ?_) e
  show ([_, _] ++ linesL 6 60)[2 + 2 * j.toNat]? = _
  rw [List.getElem?_append_right (by show 2 ≤ _; omega)]
  show (linesL 6 60)[2 + 2 * j.toNat - 2]? = _
  rw [show 2 + 2 * j.toNat - 2 = 2 * j.toNat by omega]
  exact linesL_0 60 j.toNat (by omega)
theorem f_l1 (F : fG h a) {k : Nat} {i j v : Int} (u : 0 ≤ j) (w : j < 60) (e : xA 1 80 [] k i = v) : h k (6 + 2 * j + 1) i = v := by
  refine fp_g F (c := 1 + (2 + (2 * j.toNat + 1))) (by omega) (pl_T (by omega) ?_) e
  show ([_, _] ++ linesL 6 60)[2 + (2 * j.toNat + 1)]? = _
  rw [List.getElem?_append_right (by show 2 ≤ _; omega)]
  show (linesL 6 60)[2 + (2 * j.toNat + 1) - 2]? = _
  rw [show 2 + (2 * j.toNat + 1) - 2 = 2 * j.toNat + 1 by omega]
  exact linesL_1 60 j.toNat (by omega)
theorem f_shl (F : fG h a) {i : Int} (u : 0 ≤ i) (v : i < 60) : shLine h (6 + 2 * i) := ⟨f_l0 F u v rfl, f_l0 F u v (by show 6 + 2 * (i.toNat : Int) + 1 = _; omega), f_l1 F u v rfl, f_l1 F u v rfl⟩
theorem f_Tx (F : fG h a) : cTx h a := by
  refine ⟨(f_PL F).2.2.1, ⟨?_, by rw [f_ln F]; decide⟩, fun i u v => ?_, fun i j u v w => ?_, fun i u v => ?_⟩
  · rw [f_ln F]
    exact fp_g F (c := 1 + 0) rfl (pl_T (by decide) rfl) rfl
  · rw [f_li F u v]
    exact ⟨f_shl F u v, by omega, by omega⟩
  · rw [f_li F (by omega) (by omega), f_li F (by omega) (by omega)]
    omega
  · rw [f_ln F] at v
    rw [f_li F u (by omega), f_z F 3 (q := 285) rfl rfl (by decide)]
    refine ⟨⟨f_shl F u (by omega), ?_, fun x a b => ?_⟩, f_l0 F u (by omega) rfl⟩
    · rw [f_len F]
      exact f_l0 F u (by omega) rfl
    · rw [f_len F] at b
      omega
theorem rep_get {n : Nat} {v i : Int} (u : 0 ≤ i) (w : i < n) : xA 1 n (List.replicate n v) 2 i = v := by
  unfold xA
  rw [if_pos rfl, if_pos u, List.getD_eq_getElem?_getD, List.getElem?_replicate, if_pos (by omega)]
  rfl
theorem f_Pan (F : fG h a) (u : 0 ≤ p) (v : p < 4) : h 2 126 p = 138 + 36 * p ∧ cPan h a p ∧ cPic h a p (138 + 36 * p) := by
  refine ⟨?_, ?_⟩
  · exact f_p4 (f := fun p => h 2 126 p = 138 + 36 * p) (fp_g F (c := 123 + 0) rfl (pl_A (by decide) rfl) rfl) (fp_g F (c := 123 + 0) rfl (pl_A (by decide) rfl) rfl) (fp_g F (c := 123 + 0) rfl (pl_A (by decide) rfl) rfl) (fp_g F (c := 123 + 0) rfl (pl_A (by decide) rfl) rfl) p u v
  unfold cPan
  obtain ⟨P, eP⟩ : ∃ P, P = 138 + 36 * p := ⟨_, rfl⟩
  have hP : P = 138 + 36 * p ∧ 0 ≤ p ∧ p < 4 := ⟨eP, u, v⟩
  rw [← eP]
  have li : ∀ (c : Nat), c < 36 → (PaneL P 4)[c]? = some (cO 20 [(101, 1), (100, 0)]) → cLi h (P + c) 0 := fun c hc e => ⟨pn F hP c rfl hc e rfl, pn F hP c rfl hc e rfl, fun n => absurd n (by decide)⟩
  have pl : ∀ (c : Nat), c < 36 → (PaneL P 4)[c]? = some (cO 28 [(902, 0), (901, 0), (900, 0)]) → cPl h (P + c) 0 0 0 := fun c hc e => ⟨pn F hP c rfl hc e rfl, pn F hP c rfl hc e rfl, pn F hP c rfl hc e rfl⟩
  have sP := f_Pane F hP
  refine ⟨⟨⟨sP, ?_, ?_, ?_, ?_, ?_, ?_, ?_⟩, ⟨fun l a b => Or.inl ?_, Or.inl ?_⟩, Or.inl ?_⟩, f_Pic28 F hP, f_Pic32 F hP, Or.inl ⟨?_, ?_⟩, ?_, ?_, fun k a b => ?_⟩
  · have l1 := li 2 (by decide) rfl
    have l2 := li 3 (by decide) rfl
    have l3 := li 4 (by decide) rfl
    unfold cLay
    rw [f_sp F, f_vi F, f_fo F, show P + 1 + 1 = P + ((2 : Nat) : Int) by omega, show P + 1 + 2 = P + ((3 : Nat) : Int) by omega, show P + 1 + 3 = P + ((4 : Nat) : Int) by omega]
    exact ⟨sP.2.2.2.1, l1, l2, l3, fun j a b => by omega, fun j a b => by omega, fun j a b => by omega⟩
  · rw [f_z F 23 (q := 305) rfl rfl (by decide), f_z F 24 (q := 306) rfl rfl (by decide)]
    exact pl 23 (by decide) rfl
  · rw [f_z F 26 (q := 308) rfl rfl (by decide), f_z F 27 (q := 309) rfl rfl (by decide)]
    exact pl 24 (by decide) rfl
  · rw [f_z F 25 (q := 307) rfl rfl (by decide)]
    exact pn F hP 0 (by omega) (by decide) rfl rfl
  · rw [f_w F p u v]
    exact pn F hP 0 (by omega) (by decide) rfl rfl
  · rw [f_z F 5 (q := 287) rfl rfl (by decide)]
    exact pn F hP 0 (by omega) (by decide) rfl rfl
  · rw [f_z F 6 (q := 288) rfl rfl (by decide)]
    exact pn F hP 0 (by omega) (by decide) rfl rfl
  · exact pn F hP 26 (by omega) (by decide) rfl (rep_get a b)
  · exact pn F hP 0 (by omega) (by decide) rfl rfl
  · exact pn F hP 0 (by omega) (by decide) rfl rfl
  · exact pn F hP 0 (by omega) (by decide) rfl rfl
  · exact pn F hP 0 (by omega) (by decide) rfl rfl
  · rw [f_z F 48 (q := 330) rfl rfl (by decide)]
    exact pn F hP 0 (by omega) (by decide) rfl rfl
  · rw [f_z F 47 (q := 329) rfl rfl (by decide), show h 717 P 0 = P + 28 from pn F hP 0 (by omega) (by decide) rfl rfl]
    exact pn F hP 28 rfl (by decide) rfl rfl
  · rw [f_z F 47 (q := 329) rfl rfl (by decide)] at b
    omega
theorem f_J (F : fG h a) : cAll h a ∧ iN 0 a ∧ iD h := by
  refine ⟨⟨f_PL F, f_Tx F, fun p u v => f_Pan F u v, ?_, ?_, ?_⟩, f_iN F, F.2.2.1, fun p t u v w y => Or.inl (f_dL F p t u v w y)⟩
  · have s : ∀ (k : Nat) {q i v : Int} {cc : cC}, k < 12 → q = 126 + (k : Int) → PLa[k]? = some cc → cc 2 i = v → h 2 q i = v := fun k q i v cc hk hq e hv => fp_g F (c := 123 + k) (by omega) (pl_A hk e) hv
    have o := f_o0 F
    obtain ⟨-, -, -, -, a0, a1, a2, a3⟩ := id F
    refine fun p u v => ⟨⟨?_, ?_, ?_, ?_⟩, ?_⟩
    · revert u v; revert p
      exact f_p4 ((s 2 (by decide) rfl rfl rfl).trans (f_o0 F).symm) ((s 2 (by decide) rfl rfl rfl).trans (f_o1 F).symm) ((s 2 (by decide) rfl rfl rfl).trans (f_o2 F).symm) ((s 2 (by decide) rfl rfl rfl).trans (f_o3 F).symm)
    · rw [f_wt F p u v]
      revert u v; revert p
      exact f_p4 (s 3 (by decide) rfl rfl rfl) (s 3 (by decide) rfl rfl rfl) (s 3 (by decide) rfl rfl rfl) (s 3 (by decide) rfl rfl rfl)
    · rw [f_ls F p u v]
      revert u v; revert p
      exact f_p4 (s 4 (by decide) rfl rfl rfl) (s 4 (by decide) rfl rfl rfl) (s 4 (by decide) rfl rfl rfl) (s 4 (by decide) rfl rfl rfl)
    · rw [f_lk F p u v]
      revert u v; revert p
      exact f_p4 (s 5 (by decide) rfl rfl rfl) (s 5 (by decide) rfl rfl rfl) (s 5 (by decide) rfl rfl rfl) (s 5 (by decide) rfl rfl rfl)
    · revert u v; revert p
      exact f_p4 ((s 6 (by decide) rfl rfl rfl).trans a0.symm) ((s 6 (by decide) rfl rfl rfl).trans a1.symm) ((s 6 (by decide) rfl rfl rfl).trans a2.symm) ((s 6 (by decide) rfl rfl rfl).trans a3.symm)
  · have z : a 1559 282 0 = 0 := fm F 0 rfl rfl (by decide) rfl
    have y : h 1406 3 0 = 0 := fp_g F (c := 0) rfl pl_0 rfl
    unfold cLog
    rw [z, y]
    exact ⟨fp_g F (c := 0) rfl pl_0 rfl, by decide, by decide, fun i u v => by omega⟩
  · have N := F.2.2.2.1
    refine ⟨by omega, fun p t u v w y => ?_, fun p t p2 t2 u v w y u2 v2 w2 y2 e => Or.inl (f_dL F p t u v w y), fun p t j u v w y a b => ?_, fun p t j p2 t2 j2 u v w y a b => ?_⟩
    · rw [f_dL F p t u v w y]
      exact ⟨Or.inl rfl, by omega⟩
    · rw [f_nL F] at b
      omega
    · rw [f_nL F] at b
      omega
end FS2

/-- what the first heap tells -/
def a0 : vH := fun k q i => if k = 2 ∧ q = 310 then (if i = 0 then 24 else 0) else if 282 ≤ q then ((ModelL 282).getD (q - 282).toNat cZ) k i else 0
theorem a0_m : ∀ (k : Nat) (q i : Int) (c : Nat) (cc : cC), q = 282 + (c : Int) → (ModelL 282)[c]? = some cc → ¬ (k = 2 ∧ q = 310) → a0 k q i = cc k i := fun k q i c cc hq hc n => by
  unfold a0
  rw [if_neg n, if_pos (by omega), show (q - 282).toNat = c by omega, List.getD_eq_getElem?_getD, hc]
  rfl
theorem f_JG {h : vH} (F : fG h a0) (n4 : h 4 0 0 ≤ 300) (n5 : h 5 0 0 ≤ 60000) (s : sC h) : JG 0 0 h a0 := by
  obtain ⟨c, i, d⟩ := f_J F
  refine ⟨c, ⟨i, ⟨?_, ?_⟩, fun l x u v w y => ?_⟩, d, by omega, by omega, s⟩
  · exact f_p4 (fun z => absurd ((f_o0 F).symm.trans z) (by decide)) (fun _ => F.2.2.2.2.2.1) (fun _ => F.2.2.2.2.2.2.1) (fun _ => F.2.2.2.2.2.2.2)
  · rw [F.2.2.2.2.1, F.2.2.2.2.2.1, F.2.2.2.2.2.2.1, F.2.2.2.2.2.2.2]
    rfl
  · rw [f_len F] at y
    omega
