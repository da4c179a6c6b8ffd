theorem bX7_isBehind : vmB mX7_isBehind = cX7_isBehind := rfl
theorem rX7_isBehind_0 {x0 : Int} {x1 : Int} {h : vH} (s1 : shPlace h x0) : vrun mX7_isBehind 0 [(1, x0), (0, x1)] [] h = some (.inl (some (0, (if x1 < h 902 x0 0 ∨ ¬ (h 900 x0 0 = 0) ∧ h 902 x0 0 = x1 then 1 else 0))), h) := by
  refine (rn_aload_n (pc := 0) (dd bX7_isBehind dX7_isBehind_0) rfl).trans ?_
  refine (rg_gf (pc := 1) (dd bX7_isBehind dX7_isBehind_1) (ci := 8) (j := 2) rfl rfl (key := 902) rfl (kc := 28) rfl s1 rfl).trans ?_
  refine (rn_iload_n (pc := 4) (dd bX7_isBehind dX7_isBehind_4) rfl).trans ?_
  have e3 : vrun mX7_isBehind 5 [(1, x0), (0, x1)] [(0, x1), (0, h 902 x0 0)] h = vrun mX7_isBehind 28 [(1, x0), (0, x1)] [(0, (if x1 < h 902 x0 0 ∨ ¬ (h 900 x0 0 = 0) ∧ h 902 x0 0 = x1 then 1 else 0))] h := by
    refine (rn_icmp_gt (t := 23) (pc := 5) (dd bX7_isBehind dX7_isBehind_5) rfl).trans ?_
    by_cases c1 : x1 < h 902 x0 0
    · refine (if_pos c1).trans ?_
      refine (rn_iconst (pc := 23) (dd bX7_isBehind dX7_isBehind_23) (by decide)).trans ?_
      refine (rn_goto (t := 28) (pc := 24) (dd bX7_isBehind dX7_isBehind_24) rfl).trans ?_
      refine Eq.trans (b := vrun mX7_isBehind 28 [(1, x0), (0, x1)] [(0, 1)] h) rfl ?_
      simp only [c1, true_or, false_or, or_true, or_false, true_and, false_and, and_true, and_false, not_true_eq_false, not_false_eq_true, ne_eq, if_true, if_false, ↓reduceIte]
    · refine (if_neg c1).trans ?_
      refine (rn_aload_n (pc := 8) (dd bX7_isBehind dX7_isBehind_8) rfl).trans ?_
      refine (rg_gf (pc := 9) (dd bX7_isBehind dX7_isBehind_9) (ci := 8) (j := 0) rfl rfl (key := 900) rfl (kc := 28) rfl s1 rfl).trans ?_
      have e2 : vrun mX7_isBehind 12 [(1, x0), (0, x1)] [(0, h 900 x0 0)] h = vrun mX7_isBehind 28 [(1, x0), (0, x1)] [(0, (if ¬ (h 900 x0 0 = 0) ∧ h 902 x0 0 = x1 then 1 else 0))] h := by
        refine (rn_if_eq (t := 27) (pc := 12) (dd bX7_isBehind dX7_isBehind_12) rfl).trans ?_
        by_cases c2 : h 900 x0 0 = 0
        · refine (if_pos c2).trans ?_
          refine (rn_iconst (pc := 27) (dd bX7_isBehind dX7_isBehind_27) (by decide)).trans ?_
          refine Eq.trans (b := vrun mX7_isBehind 28 [(1, x0), (0, x1)] [(0, 0)] h) rfl ?_
          simp only [c2, true_or, false_or, or_true, or_false, true_and, false_and, and_true, and_false, not_true_eq_false, not_false_eq_true, ne_eq, if_true, if_false, ↓reduceIte]
        · refine (if_neg c2).trans ?_
          refine (rn_aload_n (pc := 15) (dd bX7_isBehind dX7_isBehind_15) rfl).trans ?_
          refine (rg_gf (pc := 16) (dd bX7_isBehind dX7_isBehind_16) (ci := 8) (j := 2) rfl rfl (key := 902) rfl (kc := 28) rfl s1 rfl).trans ?_
          refine (rn_iload_n (pc := 19) (dd bX7_isBehind dX7_isBehind_19) rfl).trans ?_
          have e1 : vrun mX7_isBehind 20 [(1, x0), (0, x1)] [(0, x1), (0, h 902 x0 0)] h = vrun mX7_isBehind 28 [(1, x0), (0, x1)] [(0, (if h 902 x0 0 = x1 then 1 else 0))] h := by
            refine (rg_icmp_ne (t := 27) (pc := 20) (dd bX7_isBehind dX7_isBehind_20) rfl).trans ?_
            by_cases c3 : h 902 x0 0 = x1
            · refine (if_pos c3).trans ?_
              refine (rn_iconst (pc := 23) (dd bX7_isBehind dX7_isBehind_23) (by decide)).trans ?_
              refine (rn_goto (t := 28) (pc := 24) (dd bX7_isBehind dX7_isBehind_24) rfl).trans ?_
              refine Eq.trans (b := vrun mX7_isBehind 28 [(1, x0), (0, x1)] [(0, 1)] h) rfl ?_
              simp only [c3, true_or, false_or, or_true, or_false, true_and, false_and, and_true, and_false, not_true_eq_false, not_false_eq_true, ne_eq, if_true, if_false, ↓reduceIte]
            · refine (if_neg c3).trans ?_
              refine (rn_iconst (pc := 27) (dd bX7_isBehind dX7_isBehind_27) (by decide)).trans ?_
              refine Eq.trans (b := vrun mX7_isBehind 28 [(1, x0), (0, x1)] [(0, 0)] h) rfl ?_
              simp only [c3, true_or, false_or, or_true, or_false, true_and, false_and, and_true, and_false, not_true_eq_false, not_false_eq_true, ne_eq, if_true, if_false, ↓reduceIte]
          refine e1.trans ?_
          refine Eq.trans (b := vrun mX7_isBehind 28 [(1, x0), (0, x1)] [(0, (if h 902 x0 0 = x1 then 1 else 0))] h) rfl ?_
          simp only [c2, true_or, false_or, or_true, or_false, true_and, false_and, and_true, and_false, not_true_eq_false, not_false_eq_true, ne_eq, if_true, if_false, ↓reduceIte]
      refine e2.trans ?_
      refine Eq.trans (b := vrun mX7_isBehind 28 [(1, x0), (0, x1)] [(0, (if ¬ (h 900 x0 0 = 0) ∧ h 902 x0 0 = x1 then 1 else 0))] h) rfl ?_
      simp only [c1, true_or, false_or, or_true, or_false, true_and, false_and, and_true, and_false, not_true_eq_false, not_false_eq_true, ne_eq, if_true, if_false, ↓reduceIte]
  refine e3.trans ?_
  exact rn_ireturn (pc := 28) (dd bX7_isBehind dX7_isBehind_28) (Or.inr ⟨rfl, b01⟩)
def fX7_isBehind (h : vH) (x0 : Int) (x1 : Int) : Int := (if x1 < h 902 x0 0 ∨ ¬ (h 900 x0 0 = 0) ∧ h 902 x0 0 = x1 then 1 else 0)
theorem spX7_isBehind {x0 : Int} {x1 : Int} {h : vH} (s1 : shPlace h x0) : vcl mX7_isBehind [(1, x0), (0, x1)] h = some (.inl (some (0, fX7_isBehind h x0 x1)), h) := by
  refine (show _ = _ from rX7_isBehind_0 s1).trans ?_
  rfl
theorem bX7_signCame : vmB mX7_signCame = cX7_signCame := rfl
theorem rX7_signCame_0 {x0 : Int} {x1 : Int} {x2 : Int} {h : vH} (s1 : shPlace h x0) (p2 : h 901 x0 0 = x1 → ¬ (fX7_isBehind h x0 x2 = 0) → (-2147483648) ≤ h 902 x0 0 + 1) (p3 : h 901 x0 0 = x1 → ¬ (fX7_isBehind h x0 x2 = 0) → h 902 x0 0 + 1 < 2147483648) : vrun mX7_signCame 0 [(1, x0), (0, x1), (0, x2)] [] h = some (.inl none, (if h 901 x0 0 = x1 then (if fX7_isBehind h x0 x2 = 0 then h else vup h 902 x0 0 (h 902 x0 0 + 1)) else h)) := by
  refine (rn_aload_n (pc := 0) (dd bX7_signCame dX7_signCame_0) rfl).trans ?_
  refine (rg_gf (pc := 1) (dd bX7_signCame dX7_signCame_1) (ci := 8) (j := 1) rfl rfl (key := 901) rfl (kc := 28) rfl s1 rfl).trans ?_
  refine (rn_iload_n (pc := 4) (dd bX7_signCame dX7_signCame_4) rfl).trans ?_
  have e2 : vrun mX7_signCame 5 [(1, x0), (0, x1), (0, x2)] [(0, x1), (0, h 901 x0 0)] h = vrun mX7_signCame 26 [(1, x0), (0, x1), (0, x2)] [] (if h 901 x0 0 = x1 then (if fX7_isBehind h x0 x2 = 0 then h else vup h 902 x0 0 (h 902 x0 0 + 1)) else h) := by
    refine (rg_icmp_ne (t := 26) (pc := 5) (dd bX7_signCame dX7_signCame_5) rfl).trans ?_
    by_cases c1 : h 901 x0 0 = x1
    · refine (if_pos c1).trans ?_
      refine (rn_aload_n (pc := 8) (dd bX7_signCame dX7_signCame_8) rfl).trans ?_
      refine (rn_iload_n (pc := 9) (dd bX7_signCame dX7_signCame_9) rfl).trans ?_
      refine (rg_virtual (pc := 10) (dd bX7_signCame dX7_signCame_10) rfl rfl (by decide) (kc := 28) rfl s1 (as := [(1, x0), (0, x2)]) rfl ⟨Nat.le_of_ble_eq_true rfl, Nat.le_of_ble_eq_true rfl, Nat.le_of_ble_eq_true rfl, Nat.le_of_ble_eq_true rfl⟩).trans ?_
      refine (vret_v (spX7_isBehind s1)).trans ?_
      have e1 : vrun mX7_signCame 13 [(1, x0), (0, x1), (0, x2)] [(0, fX7_isBehind h x0 x2)] h = vrun mX7_signCame 26 [(1, x0), (0, x1), (0, x2)] [] (if fX7_isBehind h x0 x2 = 0 then h else vup h 902 x0 0 (h 902 x0 0 + 1)) := by
        refine (rn_if_eq (t := 26) (pc := 13) (dd bX7_signCame dX7_signCame_13) rfl).trans ?_
        by_cases c2 : fX7_isBehind h x0 x2 = 0
        · refine (if_pos c2).trans ?_
          refine Eq.trans (b := vrun mX7_signCame 26 [(1, x0), (0, x1), (0, x2)] [] h) rfl ?_
          simp only [if_pos c2]
        · refine (if_neg c2).trans ?_
          refine (rn_aload_n (pc := 16) (dd bX7_signCame dX7_signCame_16) rfl).trans ?_
          refine (rn_dup (pc := 17) (dd bX7_signCame dX7_signCame_17) (by decide)).trans ?_
          refine (rg_gf (pc := 18) (dd bX7_signCame dX7_signCame_18) (ci := 8) (j := 2) rfl rfl (key := 902) rfl (kc := 28) rfl s1 rfl).trans ?_
          refine (rn_iconst (pc := 21) (dd bX7_signCame dX7_signCame_21) (by decide)).trans ?_
          refine (rg_iadd (pc := 22) (dd bX7_signCame dX7_signCame_22) (p2 c1 c2) (p3 c1 c2)).trans ?_
          refine (rg_pf (pc := 23) (dd bX7_signCame dX7_signCame_23) (ci := 8) (j := 2) rfl (key := 902) rfl (kc := 28) rfl s1 rfl (by intro z; cases z) (by decide)).trans ?_
          refine Eq.trans (b := vrun mX7_signCame 26 [(1, x0), (0, x1), (0, x2)] [] (vup h 902 x0 0 (h 902 x0 0 + 1))) rfl ?_
          simp only [if_neg c2]
      refine e1.trans ?_
      refine Eq.trans (b := vrun mX7_signCame 26 [(1, x0), (0, x1), (0, x2)] [] (if fX7_isBehind h x0 x2 = 0 then h else vup h 902 x0 0 (h 902 x0 0 + 1))) rfl ?_
      simp only [if_pos c1]
    · refine (if_neg c1).trans ?_
      refine Eq.trans (b := vrun mX7_signCame 26 [(1, x0), (0, x1), (0, x2)] [] h) rfl ?_
      simp only [if_neg c1]
  refine e2.trans ?_
  exact rn_return (pc := 26) (dd bX7_signCame dX7_signCame_26) rfl
theorem bX7_signsWent : vmB mX7_signsWent = cX7_signsWent := rfl
theorem rX7_signsWent_0 {x0 : Int} {x1 : Int} {x2 : Int} {x3 : Int} {h : vH} (s1 : shPlace h x0) (p2 : h 901 x0 0 = x1 → ¬ (h 902 x0 0 ≤ x2) → ¬ (h 902 x0 0 < x3) → (-2147483648) ≤ x3 - x2) (p3 : h 901 x0 0 = x1 → ¬ (h 902 x0 0 ≤ x2) → ¬ (h 902 x0 0 < x3) → x3 - x2 < 2147483648) (p4 : h 901 x0 0 = x1 → ¬ (h 902 x0 0 ≤ x2) → ¬ (h 902 x0 0 < x3) → (-2147483648) ≤ h 902 x0 0 - (x3 - x2)) (p5 : h 901 x0 0 = x1 → ¬ (h 902 x0 0 ≤ x2) → ¬ (h 902 x0 0 < x3) → h 902 x0 0 - (x3 - x2) < 2147483648) : vrun mX7_signsWent 0 [(1, x0), (0, x1), (0, x2), (0, x3)] [] h = some (.inl none, (if h 901 x0 0 = x1 then (if h 902 x0 0 ≤ x2 then h else vup h 902 x0 0 (if h 902 x0 0 < x3 then x2 else h 902 x0 0 - (x3 - x2))) else h)) := by
  refine (rn_aload_n (pc := 0) (dd bX7_signsWent dX7_signsWent_0) rfl).trans ?_
  refine (rg_gf (pc := 1) (dd bX7_signsWent dX7_signsWent_1) (ci := 8) (j := 1) rfl rfl (key := 901) rfl (kc := 28) rfl s1 rfl).trans ?_
  refine (rn_iload_n (pc := 4) (dd bX7_signsWent dX7_signsWent_4) rfl).trans ?_
  have e3 : vrun mX7_signsWent 5 [(1, x0), (0, x1), (0, x2), (0, x3)] [(0, x1), (0, h 901 x0 0)] h = vrun mX7_signsWent 40 [(1, x0), (0, x1), (0, x2), (0, x3)] [] (if h 901 x0 0 = x1 then (if h 902 x0 0 ≤ x2 then h else vup h 902 x0 0 (if h 902 x0 0 < x3 then x2 else h 902 x0 0 - (x3 - x2))) else h) := by
    refine (rg_icmp_ne (t := 40) (pc := 5) (dd bX7_signsWent dX7_signsWent_5) rfl).trans ?_
    by_cases c1 : h 901 x0 0 = x1
    · refine (if_pos c1).trans ?_
      refine (rn_aload_n (pc := 8) (dd bX7_signsWent dX7_signsWent_8) rfl).trans ?_
      refine (rg_gf (pc := 9) (dd bX7_signsWent dX7_signsWent_9) (ci := 8) (j := 2) rfl rfl (key := 902) rfl (kc := 28) rfl s1 rfl).trans ?_
      refine (rn_iload_n (pc := 12) (dd bX7_signsWent dX7_signsWent_12) rfl).trans ?_
      have e2 : vrun mX7_signsWent 13 [(1, x0), (0, x1), (0, x2), (0, x3)] [(0, x2), (0, h 902 x0 0)] h = vrun mX7_signsWent 40 [(1, x0), (0, x1), (0, x2), (0, x3)] [] (if h 902 x0 0 ≤ x2 then h else vup h 902 x0 0 (if h 902 x0 0 < x3 then x2 else h 902 x0 0 - (x3 - x2))) := by
        refine (rn_icmp_le (t := 40) (pc := 13) (dd bX7_signsWent dX7_signsWent_13) rfl).trans ?_
        by_cases c2 : h 902 x0 0 ≤ x2
        · refine (if_pos c2).trans ?_
          refine Eq.trans (b := vrun mX7_signsWent 40 [(1, x0), (0, x1), (0, x2), (0, x3)] [] h) rfl ?_
          simp only [if_pos c2]
        · refine (if_neg c2).trans ?_
          refine (rn_aload_n (pc := 16) (dd bX7_signsWent dX7_signsWent_16) rfl).trans ?_
          refine (rn_aload_n (pc := 17) (dd bX7_signsWent dX7_signsWent_17) rfl).trans ?_
          refine (rg_gf (pc := 18) (dd bX7_signsWent dX7_signsWent_18) (ci := 8) (j := 2) rfl rfl (key := 902) rfl (kc := 28) rfl s1 rfl).trans ?_
          refine (rn_iload_n (pc := 21) (dd bX7_signsWent dX7_signsWent_21) rfl).trans ?_
          have e1 : vrun mX7_signsWent 22 [(1, x0), (0, x1), (0, x2), (0, x3)] [(0, x3), (0, h 902 x0 0), (1, x0)] h = vrun mX7_signsWent 37 [(1, x0), (0, x1), (0, x2), (0, x3)] [(0, (if h 902 x0 0 < x3 then x2 else h 902 x0 0 - (x3 - x2))), (1, x0)] h := by
            refine (rn_icmp_lt (t := 36) (pc := 22) (dd bX7_signsWent dX7_signsWent_22) rfl).trans ?_
            by_cases c3 : h 902 x0 0 < x3
            · refine (if_pos c3).trans ?_
              refine (rn_iload_n (pc := 36) (dd bX7_signsWent dX7_signsWent_36) rfl).trans ?_
              refine Eq.trans (b := vrun mX7_signsWent 37 [(1, x0), (0, x1), (0, x2), (0, x3)] [(0, x2), (1, x0)] h) rfl ?_
              simp only [if_pos c3]
            · refine (if_neg c3).trans ?_
              refine (rn_aload_n (pc := 25) (dd bX7_signsWent dX7_signsWent_25) rfl).trans ?_
              refine (rg_gf (pc := 26) (dd bX7_signsWent dX7_signsWent_26) (ci := 8) (j := 2) rfl rfl (key := 902) rfl (kc := 28) rfl s1 rfl).trans ?_
              refine (rn_iload_n (pc := 29) (dd bX7_signsWent dX7_signsWent_29) rfl).trans ?_
              refine (rn_iload_n (pc := 30) (dd bX7_signsWent dX7_signsWent_30) rfl).trans ?_
              refine (rg_isub (pc := 31) (dd bX7_signsWent dX7_signsWent_31) (p2 c1 c2 c3) (p3 c1 c2 c3)).trans ?_
              refine (rg_isub (pc := 32) (dd bX7_signsWent dX7_signsWent_32) (p4 c1 c2 c3) (p5 c1 c2 c3)).trans ?_
              refine (rn_goto (t := 37) (pc := 33) (dd bX7_signsWent dX7_signsWent_33) rfl).trans ?_
              refine Eq.trans (b := vrun mX7_signsWent 37 [(1, x0), (0, x1), (0, x2), (0, x3)] [(0, h 902 x0 0 - (x3 - x2)), (1, x0)] h) rfl ?_
              simp only [if_neg c3]
          refine e1.trans ?_
          refine (rg_pf (pc := 37) (dd bX7_signsWent dX7_signsWent_37) (ci := 8) (j := 2) rfl (key := 902) rfl (kc := 28) rfl s1 rfl (by intro z; cases z) (by decide)).trans ?_
          refine Eq.trans (b := vrun mX7_signsWent 40 [(1, x0), (0, x1), (0, x2), (0, x3)] [] (vup h 902 x0 0 (if h 902 x0 0 < x3 then x2 else h 902 x0 0 - (x3 - x2)))) rfl ?_
          simp only [if_neg c2]
      refine e2.trans ?_
      refine Eq.trans (b := vrun mX7_signsWent 40 [(1, x0), (0, x1), (0, x2), (0, x3)] [] (if h 902 x0 0 ≤ x2 then h else vup h 902 x0 0 (if h 902 x0 0 < x3 then x2 else h 902 x0 0 - (x3 - x2)))) rfl ?_
      simp only [if_pos c1]
    · refine (if_neg c1).trans ?_
      refine Eq.trans (b := vrun mX7_signsWent 40 [(1, x0), (0, x1), (0, x2), (0, x3)] [] h) rfl ?_
      simp only [if_neg c1]
  refine e3.trans ?_
  exact rn_return (pc := 40) (dd bX7_signsWent dX7_signsWent_40) rfl
theorem bX7_lineBroke : vmB mX7_lineBroke = cX7_lineBroke := rfl
theorem rX7_lineBroke_0 {x0 : Int} {x1 : Int} {x2 : Int} {h : vH} (s1 : shPlace h x0) (p2 : h 901 x0 0 ≤ x1 → h 901 x0 0 = x1 → ¬ (fX7_isBehind h x0 x2 = 0) → (-2147483648) ≤ h 901 x0 0 + 1) (p3 : h 901 x0 0 ≤ x1 → h 901 x0 0 = x1 → ¬ (fX7_isBehind h x0 x2 = 0) → h 901 x0 0 + 1 < 2147483648) (p4 : h 901 x0 0 ≤ x1 → h 901 x0 0 = x1 → ¬ (fX7_isBehind h x0 x2 = 0) → (-2147483648) ≤ h 902 x0 0 - x2) (p5 : h 901 x0 0 ≤ x1 → h 901 x0 0 = x1 → ¬ (fX7_isBehind h x0 x2 = 0) → h 902 x0 0 - x2 < 2147483648) (p6 : ¬ (h 901 x0 0 ≤ x1) → (-2147483648) ≤ h 901 x0 0 + 1) (p7 : ¬ (h 901 x0 0 ≤ x1) → h 901 x0 0 + 1 < 2147483648) : vrun mX7_lineBroke 0 [(1, x0), (0, x1), (0, x2)] [] h = some (.inl none, (if h 901 x0 0 ≤ x1 then (if h 901 x0 0 = x1 then (if fX7_isBehind h x0 x2 = 0 then h else vup (vup h 901 x0 0 (h 901 x0 0 + 1)) 902 x0 0 (h 902 x0 0 - x2)) else h) else vup h 901 x0 0 (h 901 x0 0 + 1))) := by
  refine (rn_aload_n (pc := 0) (dd bX7_lineBroke dX7_lineBroke_0) rfl).trans ?_
  refine (rg_gf (pc := 1) (dd bX7_lineBroke dX7_lineBroke_1) (ci := 8) (j := 1) rfl rfl (key := 901) rfl (kc := 28) rfl s1 rfl).trans ?_
  refine (rn_iload_n (pc := 4) (dd bX7_lineBroke dX7_lineBroke_4) rfl).trans ?_
  have e3 : vrun mX7_lineBroke 5 [(1, x0), (0, x1), (0, x2)] [(0, x1), (0, h 901 x0 0)] h = vrun mX7_lineBroke 57 [(1, x0), (0, x1), (0, x2)] [] (if h 901 x0 0 ≤ x1 then (if h 901 x0 0 = x1 then (if fX7_isBehind h x0 x2 = 0 then h else vup (vup h 901 x0 0 (h 901 x0 0 + 1)) 902 x0 0 (h 902 x0 0 - x2)) else h) else vup h 901 x0 0 (h 901 x0 0 + 1)) := by
    refine (rn_icmp_le (t := 21) (pc := 5) (dd bX7_lineBroke dX7_lineBroke_5) rfl).trans ?_
    by_cases c1 : h 901 x0 0 ≤ x1
    · refine (if_pos c1).trans ?_
      refine (rn_aload_n (pc := 21) (dd bX7_lineBroke dX7_lineBroke_21) rfl).trans ?_
      refine (rg_gf (pc := 22) (dd bX7_lineBroke dX7_lineBroke_22) (ci := 8) (j := 1) rfl rfl (key := 901) rfl (kc := 28) rfl s1 rfl).trans ?_
      refine (rn_iload_n (pc := 25) (dd bX7_lineBroke dX7_lineBroke_25) rfl).trans ?_
      have e2 : vrun mX7_lineBroke 26 [(1, x0), (0, x1), (0, x2)] [(0, x1), (0, h 901 x0 0)] h = vrun mX7_lineBroke 57 [(1, x0), (0, x1), (0, x2)] [] (if h 901 x0 0 = x1 then (if fX7_isBehind h x0 x2 = 0 then h else vup (vup h 901 x0 0 (h 901 x0 0 + 1)) 902 x0 0 (h 902 x0 0 - x2)) else h) := by
        refine (rg_icmp_ne (t := 57) (pc := 26) (dd bX7_lineBroke dX7_lineBroke_26) rfl).trans ?_
        by_cases c2 : h 901 x0 0 = x1
        · refine (if_pos c2).trans ?_
          refine (rn_aload_n (pc := 29) (dd bX7_lineBroke dX7_lineBroke_29) rfl).trans ?_
          refine (rn_iload_n (pc := 30) (dd bX7_lineBroke dX7_lineBroke_30) rfl).trans ?_
          refine (rg_virtual (pc := 31) (dd bX7_lineBroke dX7_lineBroke_31) rfl rfl (by decide) (kc := 28) rfl s1 (as := [(1, x0), (0, x2)]) rfl ⟨Nat.le_of_ble_eq_true rfl, Nat.le_of_ble_eq_true rfl, Nat.le_of_ble_eq_true rfl, Nat.le_of_ble_eq_true rfl⟩).trans ?_
          refine (vret_v (spX7_isBehind s1)).trans ?_
          have e1 : vrun mX7_lineBroke 34 [(1, x0), (0, x1), (0, x2)] [(0, fX7_isBehind h x0 x2)] h = vrun mX7_lineBroke 57 [(1, x0), (0, x1), (0, x2)] [] (if fX7_isBehind h x0 x2 = 0 then h else vup (vup h 901 x0 0 (h 901 x0 0 + 1)) 902 x0 0 (h 902 x0 0 - x2)) := by
            refine (rn_if_eq (t := 57) (pc := 34) (dd bX7_lineBroke dX7_lineBroke_34) rfl).trans ?_
            by_cases c3 : fX7_isBehind h x0 x2 = 0
            · refine (if_pos c3).trans ?_
              refine Eq.trans (b := vrun mX7_lineBroke 57 [(1, x0), (0, x1), (0, x2)] [] h) rfl ?_
              simp only [if_pos c3]
            · refine (if_neg c3).trans ?_
              refine (rn_aload_n (pc := 37) (dd bX7_lineBroke dX7_lineBroke_37) rfl).trans ?_
              refine (rn_dup (pc := 38) (dd bX7_lineBroke dX7_lineBroke_38) (by decide)).trans ?_
              refine (rg_gf (pc := 39) (dd bX7_lineBroke dX7_lineBroke_39) (ci := 8) (j := 1) rfl rfl (key := 901) rfl (kc := 28) rfl s1 rfl).trans ?_
              refine (rn_iconst (pc := 42) (dd bX7_lineBroke dX7_lineBroke_42) (by decide)).trans ?_
              refine (rg_iadd (pc := 43) (dd bX7_lineBroke dX7_lineBroke_43) (p2 c1 c2 c3) (p3 c1 c2 c3)).trans ?_
              refine (rg_pf (pc := 44) (dd bX7_lineBroke dX7_lineBroke_44) (ci := 8) (j := 1) rfl (key := 901) rfl (kc := 28) rfl s1 rfl (by intro z; cases z) (by decide)).trans ?_
              refine (rn_aload_n (pc := 47) (dd bX7_lineBroke dX7_lineBroke_47) rfl).trans ?_
              refine (rn_dup (pc := 48) (dd bX7_lineBroke dX7_lineBroke_48) (by decide)).trans ?_
              refine (rg_gf (pc := 49) (dd bX7_lineBroke dX7_lineBroke_49) (ci := 8) (j := 2) rfl rfl (key := 902) rfl (kc := 28) rfl ((vup_k (by decide)).trans s1) ((vup_k (by decide)).trans rfl)).trans ?_
              refine (rn_iload_n (pc := 52) (dd bX7_lineBroke dX7_lineBroke_52) rfl).trans ?_
              refine (rg_isub (pc := 53) (dd bX7_lineBroke dX7_lineBroke_53) (p4 c1 c2 c3) (p5 c1 c2 c3)).trans ?_
              refine (rg_pf (pc := 54) (dd bX7_lineBroke dX7_lineBroke_54) (ci := 8) (j := 2) rfl (key := 902) rfl (kc := 28) rfl ((vup_k (by decide)).trans s1) rfl (by intro z; cases z) (by decide)).trans ?_
              refine Eq.trans (b := vrun mX7_lineBroke 57 [(1, x0), (0, x1), (0, x2)] [] (vup (vup h 901 x0 0 (h 901 x0 0 + 1)) 902 x0 0 (h 902 x0 0 - x2))) rfl ?_
              simp only [if_neg c3]
          refine e1.trans ?_
          refine Eq.trans (b := vrun mX7_lineBroke 57 [(1, x0), (0, x1), (0, x2)] [] (if fX7_isBehind h x0 x2 = 0 then h else vup (vup h 901 x0 0 (h 901 x0 0 + 1)) 902 x0 0 (h 902 x0 0 - x2))) rfl ?_
          simp only [if_pos c2]
        · refine (if_neg c2).trans ?_
          refine Eq.trans (b := vrun mX7_lineBroke 57 [(1, x0), (0, x1), (0, x2)] [] h) rfl ?_
          simp only [if_neg c2]
      refine e2.trans ?_
      refine Eq.trans (b := vrun mX7_lineBroke 57 [(1, x0), (0, x1), (0, x2)] [] (if h 901 x0 0 = x1 then (if fX7_isBehind h x0 x2 = 0 then h else vup (vup h 901 x0 0 (h 901 x0 0 + 1)) 902 x0 0 (h 902 x0 0 - x2)) else h)) rfl ?_
      simp only [if_pos c1]
    · refine (if_neg c1).trans ?_
      refine (rn_aload_n (pc := 8) (dd bX7_lineBroke dX7_lineBroke_8) rfl).trans ?_
      refine (rn_dup (pc := 9) (dd bX7_lineBroke dX7_lineBroke_9) (by decide)).trans ?_
      refine (rg_gf (pc := 10) (dd bX7_lineBroke dX7_lineBroke_10) (ci := 8) (j := 1) rfl rfl (key := 901) rfl (kc := 28) rfl s1 rfl).trans ?_
      refine (rn_iconst (pc := 13) (dd bX7_lineBroke dX7_lineBroke_13) (by decide)).trans ?_
      refine (rg_iadd (pc := 14) (dd bX7_lineBroke dX7_lineBroke_14) (p6 c1) (p7 c1)).trans ?_
      refine (rg_pf (pc := 15) (dd bX7_lineBroke dX7_lineBroke_15) (ci := 8) (j := 1) rfl (key := 901) rfl (kc := 28) rfl s1 rfl (by intro z; cases z) (by decide)).trans ?_
      refine (rn_goto (t := 57) (pc := 18) (dd bX7_lineBroke dX7_lineBroke_18) rfl).trans ?_
      refine Eq.trans (b := vrun mX7_lineBroke 57 [(1, x0), (0, x1), (0, x2)] [] (vup h 901 x0 0 (h 901 x0 0 + 1))) rfl ?_
      simp only [if_neg c1]
  refine e3.trans ?_
  exact rn_return (pc := 57) (dd bX7_lineBroke dX7_lineBroke_57) rfl
theorem bX7_set : vmB mX7_set = cX7_set := rfl
theorem rX7_set_0 {x0 : Int} {x1 : Int} {x2 : Int} {h : vH} (s1 : shPlace h x0) : vrun mX7_set 0 [(1, x0), (0, x1), (0, x2)] [] h = some (.inl none, vup (vup h 901 x0 0 x1) 902 x0 0 x2) := by
  refine (rn_aload_n (pc := 0) (dd bX7_set dX7_set_0) rfl).trans ?_
  refine (rn_iload_n (pc := 1) (dd bX7_set dX7_set_1) rfl).trans ?_
  refine (rg_pf (pc := 2) (dd bX7_set dX7_set_2) (ci := 8) (j := 1) rfl (key := 901) rfl (kc := 28) rfl s1 rfl (by intro z; cases z) (by decide)).trans ?_
  refine (rn_aload_n (pc := 5) (dd bX7_set dX7_set_5) rfl).trans ?_
  refine (rn_iload_n (pc := 6) (dd bX7_set dX7_set_6) rfl).trans ?_
  refine (rg_pf (pc := 7) (dd bX7_set dX7_set_7) (ci := 8) (j := 2) rfl (key := 902) rfl (kc := 28) rfl ((vup_k (by decide)).trans s1) rfl (by intro z; cases z) (by decide)).trans ?_
  exact rn_return (pc := 10) (dd bX7_set dX7_set_10) rfl
theorem bX7_linesJoined : vmB mX7_linesJoined = cX7_linesJoined := rfl
theorem rX7_linesJoined_0 {x0 : Int} {x1 : Int} {x2 : Int} {h : vH} (s1 : shPlace h x0) (p2 : (-2147483648) ≤ x1 + 1) (p3 : x1 + 1 < 2147483648) (p4 : h 901 x0 0 = x1 + 1 → (-2147483648) ≤ h 902 x0 0 + x2) (p5 : h 901 x0 0 = x1 + 1 → h 902 x0 0 + x2 < 2147483648) (p6 : ¬ (h 901 x0 0 ≤ x1) → (-2147483648) ≤ h 901 x0 0 - 1) (p7 : ¬ (h 901 x0 0 ≤ x1) → h 901 x0 0 - 1 < 2147483648) : vrun mX7_linesJoined 0 [(1, x0), (0, x1), (0, x2)] [] h = some (.inl none, (if h 901 x0 0 ≤ x1 then (if h 901 x0 0 = x1 + 1 then vup h 902 x0 0 (h 902 x0 0 + x2) else h) else vup (if h 901 x0 0 = x1 + 1 then vup h 902 x0 0 (h 902 x0 0 + x2) else h) 901 x0 0 (h 901 x0 0 - 1))) := by
  refine (rn_aload_n (pc := 0) (dd bX7_linesJoined dX7_linesJoined_0) rfl).trans ?_
  refine (rg_gf (pc := 1) (dd bX7_linesJoined dX7_linesJoined_1) (ci := 8) (j := 1) rfl rfl (key := 901) rfl (kc := 28) rfl s1 rfl).trans ?_
  refine (rn_iload_n (pc := 4) (dd bX7_linesJoined dX7_linesJoined_4) rfl).trans ?_
  refine (rn_iconst (pc := 5) (dd bX7_linesJoined dX7_linesJoined_5) (by decide)).trans ?_
  refine (rg_iadd (pc := 6) (dd bX7_linesJoined dX7_linesJoined_6) p2 p3).trans ?_
  have e1 : vrun mX7_linesJoined 7 [(1, x0), (0, x1), (0, x2)] [(0, x1 + 1), (0, h 901 x0 0)] h = vrun mX7_linesJoined 20 [(1, x0), (0, x1), (0, x2)] [] (if h 901 x0 0 = x1 + 1 then vup h 902 x0 0 (h 902 x0 0 + x2) else h) := by
    refine (rg_icmp_ne (t := 20) (pc := 7) (dd bX7_linesJoined dX7_linesJoined_7) rfl).trans ?_
    by_cases c1 : h 901 x0 0 = x1 + 1
    · refine (if_pos c1).trans ?_
      refine (rn_aload_n (pc := 10) (dd bX7_linesJoined dX7_linesJoined_10) rfl).trans ?_
      refine (rn_dup (pc := 11) (dd bX7_linesJoined dX7_linesJoined_11) (by decide)).trans ?_
      refine (rg_gf (pc := 12) (dd bX7_linesJoined dX7_linesJoined_12) (ci := 8) (j := 2) rfl rfl (key := 902) rfl (kc := 28) rfl s1 rfl).trans ?_
      refine (rn_iload_n (pc := 15) (dd bX7_linesJoined dX7_linesJoined_15) rfl).trans ?_
      refine (rg_iadd (pc := 16) (dd bX7_linesJoined dX7_linesJoined_16) (p4 c1) (p5 c1)).trans ?_
      refine (rg_pf (pc := 17) (dd bX7_linesJoined dX7_linesJoined_17) (ci := 8) (j := 2) rfl (key := 902) rfl (kc := 28) rfl s1 rfl (by intro z; cases z) (by decide)).trans ?_
      refine Eq.trans (b := vrun mX7_linesJoined 20 [(1, x0), (0, x1), (0, x2)] [] (vup h 902 x0 0 (h 902 x0 0 + x2))) rfl ?_
      simp only [if_pos c1]
    · refine (if_neg c1).trans ?_
      refine Eq.trans (b := vrun mX7_linesJoined 20 [(1, x0), (0, x1), (0, x2)] [] h) rfl ?_
      simp only [if_neg c1]
  refine e1.trans ?_
  refine (rn_aload_n (pc := 20) (dd bX7_linesJoined dX7_linesJoined_20) rfl).trans ?_
  refine (rg_gf (pc := 21) (dd bX7_linesJoined dX7_linesJoined_21) (ci := 8) (j := 1) rfl rfl (key := 901) rfl (kc := 28) rfl (ite_rd ((vup_k (by decide)).trans s1) s1) (ite_rd ((vup_k (by decide)).trans rfl) rfl)).trans ?_
  refine (rn_iload_n (pc := 24) (dd bX7_linesJoined dX7_linesJoined_24) rfl).trans ?_
  have e2 : vrun mX7_linesJoined 25 [(1, x0), (0, x1), (0, x2)] [(0, x1), (0, h 901 x0 0)] (if h 901 x0 0 = x1 + 1 then vup h 902 x0 0 (h 902 x0 0 + x2) else h) = vrun mX7_linesJoined 38 [(1, x0), (0, x1), (0, x2)] [] (if h 901 x0 0 ≤ x1 then (if h 901 x0 0 = x1 + 1 then vup h 902 x0 0 (h 902 x0 0 + x2) else h) else vup (if h 901 x0 0 = x1 + 1 then vup h 902 x0 0 (h 902 x0 0 + x2) else h) 901 x0 0 (h 901 x0 0 - 1)) := by
    refine (rn_icmp_le (t := 38) (pc := 25) (dd bX7_linesJoined dX7_linesJoined_25) rfl).trans ?_
    by_cases c2 : h 901 x0 0 ≤ x1
    · refine (if_pos c2).trans ?_
      refine Eq.trans (b := vrun mX7_linesJoined 38 [(1, x0), (0, x1), (0, x2)] [] (if h 901 x0 0 = x1 + 1 then vup h 902 x0 0 (h 902 x0 0 + x2) else h)) rfl ?_
      simp only [if_pos c2]
    · refine (if_neg c2).trans ?_
      refine (rn_aload_n (pc := 28) (dd bX7_linesJoined dX7_linesJoined_28) rfl).trans ?_
      refine (rn_dup (pc := 29) (dd bX7_linesJoined dX7_linesJoined_29) (by decide)).trans ?_
      refine (rg_gf (pc := 30) (dd bX7_linesJoined dX7_linesJoined_30) (ci := 8) (j := 1) rfl rfl (key := 901) rfl (kc := 28) rfl (ite_rd ((vup_k (by decide)).trans s1) s1) (ite_rd ((vup_k (by decide)).trans rfl) rfl)).trans ?_
      refine (rn_iconst (pc := 33) (dd bX7_linesJoined dX7_linesJoined_33) (by decide)).trans ?_
      refine (rg_isub (pc := 34) (dd bX7_linesJoined dX7_linesJoined_34) (p6 c2) (p7 c2)).trans ?_
      refine (rg_pf (pc := 35) (dd bX7_linesJoined dX7_linesJoined_35) (ci := 8) (j := 1) rfl (key := 901) rfl (kc := 28) rfl (ite_rd ((vup_k (by decide)).trans s1) s1) rfl (by intro z; cases z) (by decide)).trans ?_
      refine Eq.trans (b := vrun mX7_linesJoined 38 [(1, x0), (0, x1), (0, x2)] [] (vup (if h 901 x0 0 = x1 + 1 then vup h 902 x0 0 (h 902 x0 0 + x2) else h) 901 x0 0 (h 901 x0 0 - 1))) rfl ?_
      simp only [if_neg c2]
  refine e2.trans ?_
  exact rn_return (pc := 38) (dd bX7_linesJoined dX7_linesJoined_38) rfl
theorem bX7_isAt : vmB mX7_isAt = cX7_isAt := rfl
theorem rX7_isAt_0 {x0 : Int} {x1 : Int} {x2 : Int} {h : vH} (s1 : shPlace h x0) : vrun mX7_isAt 0 [(1, x0), (0, x1), (0, x2)] [] h = some (.inl (some (0, (if h 901 x0 0 = x1 ∧ h 902 x0 0 = x2 then 1 else 0))), h) := by
  refine (rn_aload_n (pc := 0) (dd bX7_isAt dX7_isAt_0) rfl).trans ?_
  refine (rg_gf (pc := 1) (dd bX7_isAt dX7_isAt_1) (ci := 8) (j := 1) rfl rfl (key := 901) rfl (kc := 28) rfl s1 rfl).trans ?_
  refine (rn_iload_n (pc := 4) (dd bX7_isAt dX7_isAt_4) rfl).trans ?_
  have e2 : vrun mX7_isAt 5 [(1, x0), (0, x1), (0, x2)] [(0, x1), (0, h 901 x0 0)] h = vrun mX7_isAt 21 [(1, x0), (0, x1), (0, x2)] [(0, (if h 901 x0 0 = x1 ∧ h 902 x0 0 = x2 then 1 else 0))] h := by
    refine (rg_icmp_ne (t := 20) (pc := 5) (dd bX7_isAt dX7_isAt_5) rfl).trans ?_
    by_cases c1 : h 901 x0 0 = x1
    · refine (if_pos c1).trans ?_
      refine (rn_aload_n (pc := 8) (dd bX7_isAt dX7_isAt_8) rfl).trans ?_
      refine (rg_gf (pc := 9) (dd bX7_isAt dX7_isAt_9) (ci := 8) (j := 2) rfl rfl (key := 902) rfl (kc := 28) rfl s1 rfl).trans ?_
      refine (rn_iload_n (pc := 12) (dd bX7_isAt dX7_isAt_12) rfl).trans ?_
      have e1 : vrun mX7_isAt 13 [(1, x0), (0, x1), (0, x2)] [(0, x2), (0, h 902 x0 0)] h = vrun mX7_isAt 21 [(1, x0), (0, x1), (0, x2)] [(0, (if h 902 x0 0 = x2 then 1 else 0))] h := by
        refine (rg_icmp_ne (t := 20) (pc := 13) (dd bX7_isAt dX7_isAt_13) rfl).trans ?_
        by_cases c2 : h 902 x0 0 = x2
        · refine (if_pos c2).trans ?_
          refine (rn_iconst (pc := 16) (dd bX7_isAt dX7_isAt_16) (by decide)).trans ?_
          refine (rn_goto (t := 21) (pc := 17) (dd bX7_isAt dX7_isAt_17) rfl).trans ?_
          refine Eq.trans (b := vrun mX7_isAt 21 [(1, x0), (0, x1), (0, x2)] [(0, 1)] h) rfl ?_
          simp only [c2, true_or, false_or, or_true, or_false, true_and, false_and, and_true, and_false, not_true_eq_false, not_false_eq_true, ne_eq, if_true, if_false, ↓reduceIte]
        · refine (if_neg c2).trans ?_
          refine (rn_iconst (pc := 20) (dd bX7_isAt dX7_isAt_20) (by decide)).trans ?_
          refine Eq.trans (b := vrun mX7_isAt 21 [(1, x0), (0, x1), (0, x2)] [(0, 0)] h) rfl ?_
          simp only [c2, true_or, false_or, or_true, or_false, true_and, false_and, and_true, and_false, not_true_eq_false, not_false_eq_true, ne_eq, if_true, if_false, ↓reduceIte]
      refine e1.trans ?_
      refine Eq.trans (b := vrun mX7_isAt 21 [(1, x0), (0, x1), (0, x2)] [(0, (if h 902 x0 0 = x2 then 1 else 0))] h) rfl ?_
      simp only [c1, true_or, false_or, or_true, or_false, true_and, false_and, and_true, and_false, not_true_eq_false, not_false_eq_true, ne_eq, if_true, if_false, ↓reduceIte]
    · refine (if_neg c1).trans ?_
      refine (rn_iconst (pc := 20) (dd bX7_isAt dX7_isAt_20) (by decide)).trans ?_
      refine Eq.trans (b := vrun mX7_isAt 21 [(1, x0), (0, x1), (0, x2)] [(0, 0)] h) rfl ?_
      simp only [c1, true_or, false_or, or_true, or_false, true_and, false_and, and_true, and_false, not_true_eq_false, not_false_eq_true, ne_eq, if_true, if_false, ↓reduceIte]
  refine e2.trans ?_
  exact rn_ireturn (pc := 21) (dd bX7_isAt dX7_isAt_21) (Or.inr ⟨rfl, b01⟩)
def fX7_isAt (h : vH) (x0 : Int) (x1 : Int) (x2 : Int) : Int := (if h 901 x0 0 = x1 ∧ h 902 x0 0 = x2 then 1 else 0)
theorem spX7_isAt {x0 : Int} {x1 : Int} {x2 : Int} {h : vH} (s1 : shPlace h x0) : vcl mX7_isAt [(1, x0), (0, x1), (0, x2)] h = some (.inl (some (0, fX7_isAt h x0 x1 x2)), h) := by
  refine (show _ = _ from rX7_isAt_0 s1).trans ?_
  rfl

