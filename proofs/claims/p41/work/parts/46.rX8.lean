theorem bX8_lineBroke : vmB mX8_lineBroke = cX8_lineBroke := rfl
theorem rX8_lineBroke_0 {x0 : Int} {x1 : Int} {x2 : Int} {h : vH} (s1 : shSpan h x0) : vrun mX8_lineBroke 0 [(1, x0), (0, x1), (0, x2)] [] h = vret vrun mX8_lineBroke 6 [(1, x0), (0, x1), (0, x2)] [] (vcl mX7_lineBroke [(1, x0 + 1), (0, x1), (0, x2)] h) := by
  refine (rn_aload_n (pc := 0) (dd bX8_lineBroke dX8_lineBroke_0) rfl).trans ?_
  refine (rg_gf (pc := 1) (dd bX8_lineBroke dX8_lineBroke_1) (ci := 9) (j := 0) rfl rfl (key := 1000) rfl (kc := 29) rfl s1.1 s1.2.1).trans ?_
  refine (rn_iload_n (pc := 4) (dd bX8_lineBroke dX8_lineBroke_4) rfl).trans ?_
  refine (rn_iload_n (pc := 5) (dd bX8_lineBroke dX8_lineBroke_5) rfl).trans ?_
  exact rg_virtual (pc := 6) (dd bX8_lineBroke dX8_lineBroke_6) rfl rfl (by decide) (kc := 28) rfl s1.2.2.1 (as := [(1, x0 + 1), (0, x1), (0, x2)]) rfl ⟨Nat.le_of_ble_eq_true rfl, Nat.le_of_ble_eq_true rfl, Nat.le_of_ble_eq_true rfl, Nat.le_of_ble_eq_true rfl⟩
theorem rX8_lineBroke_9 {x0 : Int} {x1 : Int} {x2 : Int} {h : vH} (s1 : shSpan h x0) : vrun mX8_lineBroke 9 [(1, x0), (0, x1), (0, x2)] [] h = vret vrun mX8_lineBroke 15 [(1, x0), (0, x1), (0, x2)] [] (vcl mX7_lineBroke [(1, x0 + 2), (0, x1), (0, x2)] h) := by
  refine (rn_aload_n (pc := 9) (dd bX8_lineBroke dX8_lineBroke_9) rfl).trans ?_
  refine (rg_gf (pc := 10) (dd bX8_lineBroke dX8_lineBroke_10) (ci := 9) (j := 1) rfl rfl (key := 1001) rfl (kc := 29) rfl s1.1 s1.2.2.2.1).trans ?_
  refine (rn_iload_n (pc := 13) (dd bX8_lineBroke dX8_lineBroke_13) rfl).trans ?_
  refine (rn_iload_n (pc := 14) (dd bX8_lineBroke dX8_lineBroke_14) rfl).trans ?_
  exact rg_virtual (pc := 15) (dd bX8_lineBroke dX8_lineBroke_15) rfl rfl (by decide) (kc := 28) rfl s1.2.2.2.2 (as := [(1, x0 + 2), (0, x1), (0, x2)]) rfl ⟨Nat.le_of_ble_eq_true rfl, Nat.le_of_ble_eq_true rfl, Nat.le_of_ble_eq_true rfl, Nat.le_of_ble_eq_true rfl⟩
theorem rX8_lineBroke_18 {x0 : Int} {x1 : Int} {x2 : Int} {h : vH} (s1 : shSpan h x0) : vrun mX8_lineBroke 18 [(1, x0), (0, x1), (0, x2)] [] h = if h 901 (x0 + 2) 0 ≤ h 901 (x0 + 1) 0 then some (.inl none, h) else vret vrun mX8_lineBroke 47 [(1, x0), (0, x1), (0, x2)] [] (vcl mX7_set [(1, x0 + 2), (0, h 901 (x0 + 1) 0), (0, x2)] h) := by
  refine (rn_aload_n (pc := 18) (dd bX8_lineBroke dX8_lineBroke_18) rfl).trans ?_
  refine (rg_gf (pc := 19) (dd bX8_lineBroke dX8_lineBroke_19) (ci := 9) (j := 1) rfl rfl (key := 1001) rfl (kc := 29) rfl s1.1 s1.2.2.2.1).trans ?_
  refine (rg_gf (pc := 22) (dd bX8_lineBroke dX8_lineBroke_22) (ci := 8) (j := 1) rfl rfl (key := 901) rfl (kc := 28) rfl s1.2.2.2.2 rfl).trans ?_
  refine (rn_aload_n (pc := 25) (dd bX8_lineBroke dX8_lineBroke_25) rfl).trans ?_
  refine (rg_gf (pc := 26) (dd bX8_lineBroke dX8_lineBroke_26) (ci := 9) (j := 0) rfl rfl (key := 1000) rfl (kc := 29) rfl s1.1 s1.2.1).trans ?_
  refine (rg_gf (pc := 29) (dd bX8_lineBroke dX8_lineBroke_29) (ci := 8) (j := 1) rfl rfl (key := 901) rfl (kc := 28) rfl s1.2.2.1 rfl).trans ?_
  refine (rn_icmp_le (t := 50) (pc := 32) (dd bX8_lineBroke dX8_lineBroke_32) rfl).trans (itec (fun c1 => ?_) (fun c1 => ?_))
  · exact rn_return (pc := 50) (dd bX8_lineBroke dX8_lineBroke_50) rfl
  · refine (rn_aload_n (pc := 35) (dd bX8_lineBroke dX8_lineBroke_35) rfl).trans ?_
    refine (rg_gf (pc := 36) (dd bX8_lineBroke dX8_lineBroke_36) (ci := 9) (j := 1) rfl rfl (key := 1001) rfl (kc := 29) rfl s1.1 s1.2.2.2.1).trans ?_
    refine (rn_aload_n (pc := 39) (dd bX8_lineBroke dX8_lineBroke_39) rfl).trans ?_
    refine (rg_gf (pc := 40) (dd bX8_lineBroke dX8_lineBroke_40) (ci := 9) (j := 0) rfl rfl (key := 1000) rfl (kc := 29) rfl s1.1 s1.2.1).trans ?_
    refine (rg_gf (pc := 43) (dd bX8_lineBroke dX8_lineBroke_43) (ci := 8) (j := 1) rfl rfl (key := 901) rfl (kc := 28) rfl s1.2.2.1 rfl).trans ?_
    refine (rn_iload_n (pc := 46) (dd bX8_lineBroke dX8_lineBroke_46) rfl).trans ?_
    exact rg_virtual (pc := 47) (dd bX8_lineBroke dX8_lineBroke_47) rfl rfl (by decide) (kc := 28) rfl s1.2.2.2.2 (as := [(1, x0 + 2), (0, h 901 (x0 + 1) 0), (0, x2)]) rfl ⟨Nat.le_of_ble_eq_true rfl, Nat.le_of_ble_eq_true rfl, Nat.le_of_ble_eq_true rfl, Nat.le_of_ble_eq_true rfl⟩
theorem rX8_lineBroke_50 {x0 : Int} {x1 : Int} {x2 : Int} {h : vH} : vrun mX8_lineBroke 50 [(1, x0), (0, x1), (0, x2)] [] h = some (.inl none, h) := by
  exact rn_return (pc := 50) (dd bX8_lineBroke dX8_lineBroke_50) rfl
theorem bX8_holds : vmB mX8_holds = cX8_holds := rfl
theorem rX8_holds_0 {x0 : Int} {x1 : Int} {x2 : Int} {h : vH} (s1 : shSpan h x0) : vrun mX8_holds 0 [(1, x0), (0, x1), (0, x2)] [] h = some (.inl (some (0, (if h 901 (x0 + 1) 0 = x1 ∧ ¬ (x2 < h 902 (x0 + 1) 0) ∧ ¬ (h 902 (x0 + 2) 0 ≤ x2) then 1 else 0))), h) := by
  refine (rn_aload_n (pc := 0) (dd bX8_holds dX8_holds_0) rfl).trans ?_
  refine (rg_gf (pc := 1) (dd bX8_holds dX8_holds_1) (ci := 9) (j := 0) rfl rfl (key := 1000) rfl (kc := 29) rfl s1.1 s1.2.1).trans ?_
  refine (rg_gf (pc := 4) (dd bX8_holds dX8_holds_4) (ci := 8) (j := 1) rfl rfl (key := 901) rfl (kc := 28) rfl s1.2.2.1 rfl).trans ?_
  refine (rn_iload_n (pc := 7) (dd bX8_holds dX8_holds_7) rfl).trans ?_
  have e3 : vrun mX8_holds 8 [(1, x0), (0, x1), (0, x2)] [(0, x1), (0, h 901 (x0 + 1) 0)] h = vrun mX8_holds 38 [(1, x0), (0, x1), (0, x2)] [(0, (if h 901 (x0 + 1) 0 = x1 ∧ ¬ (x2 < h 902 (x0 + 1) 0) ∧ ¬ (h 902 (x0 + 2) 0 ≤ x2) then 1 else 0))] h := by
    refine (rg_icmp_ne (t := 37) (pc := 8) (dd bX8_holds dX8_holds_8) rfl).trans ?_
    by_cases c1 : h 901 (x0 + 1) 0 = x1
    · refine (if_pos c1).trans ?_
      refine (rn_aload_n (pc := 11) (dd bX8_holds dX8_holds_11) rfl).trans ?_
      refine (rg_gf (pc := 12) (dd bX8_holds dX8_holds_12) (ci := 9) (j := 0) rfl rfl (key := 1000) rfl (kc := 29) rfl s1.1 s1.2.1).trans ?_
      refine (rg_gf (pc := 15) (dd bX8_holds dX8_holds_15) (ci := 8) (j := 2) rfl rfl (key := 902) rfl (kc := 28) rfl s1.2.2.1 rfl).trans ?_
      refine (rn_iload_n (pc := 18) (dd bX8_holds dX8_holds_18) rfl).trans ?_
      have e2 : vrun mX8_holds 19 [(1, x0), (0, x1), (0, x2)] [(0, x2), (0, h 902 (x0 + 1) 0)] h = vrun mX8_holds 38 [(1, x0), (0, x1), (0, x2)] [(0, (if ¬ (x2 < h 902 (x0 + 1) 0) ∧ ¬ (h 902 (x0 + 2) 0 ≤ x2) then 1 else 0))] h := by
        refine (rn_icmp_gt (t := 37) (pc := 19) (dd bX8_holds dX8_holds_19) rfl).trans ?_
        by_cases c2 : x2 < h 902 (x0 + 1) 0
        · refine (if_pos c2).trans ?_
          refine (rn_iconst (pc := 37) (dd bX8_holds dX8_holds_37) (by decide)).trans ?_
          refine Eq.trans (b := vrun mX8_holds 38 [(1, x0), (0, x1), (0, x2)] [(0, 0)] h) rfl ?_
          simp only [c2, true_or, false_or, or_true, or_false, true_and, false_and, and_true, and_false, not_true_eq_false, not_false_eq_true, ne_eq, if_true, if_false, ↓reduceIte]
        · refine (if_neg c2).trans ?_
          refine (rn_iload_n (pc := 22) (dd bX8_holds dX8_holds_22) rfl).trans ?_
          refine (rn_aload_n (pc := 23) (dd bX8_holds dX8_holds_23) rfl).trans ?_
          refine (rg_gf (pc := 24) (dd bX8_holds dX8_holds_24) (ci := 9) (j := 1) rfl rfl (key := 1001) rfl (kc := 29) rfl s1.1 s1.2.2.2.1).trans ?_
          refine (rg_gf (pc := 27) (dd bX8_holds dX8_holds_27) (ci := 8) (j := 2) rfl rfl (key := 902) rfl (kc := 28) rfl s1.2.2.2.2 rfl).trans ?_
          have e1 : vrun mX8_holds 30 [(1, x0), (0, x1), (0, x2)] [(0, h 902 (x0 + 2) 0), (0, x2)] h = vrun mX8_holds 38 [(1, x0), (0, x1), (0, x2)] [(0, (if ¬ (h 902 (x0 + 2) 0 ≤ x2) then 1 else 0))] h := by
            refine (rn_icmp_ge (t := 37) (pc := 30) (dd bX8_holds dX8_holds_30) rfl).trans ?_
            by_cases c3 : h 902 (x0 + 2) 0 ≤ x2
            · refine (if_pos c3).trans ?_
              refine (rn_iconst (pc := 37) (dd bX8_holds dX8_holds_37) (by decide)).trans ?_
              refine Eq.trans (b := vrun mX8_holds 38 [(1, x0), (0, x1), (0, x2)] [(0, 0)] h) rfl ?_
              simp only [c3, true_or, false_or, or_true, or_false, true_and, false_and, and_true, and_false, not_true_eq_false, not_false_eq_true, ne_eq, if_true, if_false, ↓reduceIte]
            · refine (if_neg c3).trans ?_
              refine (rn_iconst (pc := 33) (dd bX8_holds dX8_holds_33) (by decide)).trans ?_
              refine (rn_goto (t := 38) (pc := 34) (dd bX8_holds dX8_holds_34) rfl).trans ?_
              refine Eq.trans (b := vrun mX8_holds 38 [(1, x0), (0, x1), (0, x2)] [(0, 1)] h) rfl ?_
              simp only [c3, true_or, false_or, or_true, or_false, true_and, false_and, and_true, and_false, not_true_eq_false, not_false_eq_true, ne_eq, if_true, if_false, ↓reduceIte]
          refine e1.trans ?_
          refine Eq.trans (b := vrun mX8_holds 38 [(1, x0), (0, x1), (0, x2)] [(0, (if ¬ (h 902 (x0 + 2) 0 ≤ x2) then 1 else 0))] h) rfl ?_
          simp only [c2, true_or, false_or, or_true, or_false, true_and, false_and, and_true, and_false, not_true_eq_false, not_false_eq_true, ne_eq, if_true, if_false, ↓reduceIte]
      refine e2.trans ?_
      refine Eq.trans (b := vrun mX8_holds 38 [(1, x0), (0, x1), (0, x2)] [(0, (if ¬ (x2 < h 902 (x0 + 1) 0) ∧ ¬ (h 902 (x0 + 2) 0 ≤ x2) then 1 else 0))] h) rfl ?_
      simp only [c1, true_or, false_or, or_true, or_false, true_and, false_and, and_true, and_false, not_true_eq_false, not_false_eq_true, ne_eq, if_true, if_false, ↓reduceIte]
    · refine (if_neg c1).trans ?_
      refine (rn_iconst (pc := 37) (dd bX8_holds dX8_holds_37) (by decide)).trans ?_
      refine Eq.trans (b := vrun mX8_holds 38 [(1, x0), (0, x1), (0, x2)] [(0, 0)] h) rfl ?_
      simp only [c1, true_or, false_or, or_true, or_false, true_and, false_and, and_true, and_false, not_true_eq_false, not_false_eq_true, ne_eq, if_true, if_false, ↓reduceIte]
  refine e3.trans ?_
  exact rn_ireturn (pc := 38) (dd bX8_holds dX8_holds_38) (Or.inr ⟨rfl, b01⟩)
def fX8_holds (h : vH) (x0 : Int) (x1 : Int) (x2 : Int) : Int := (if h 901 (x0 + 1) 0 = x1 ∧ ¬ (x2 < h 902 (x0 + 1) 0) ∧ ¬ (h 902 (x0 + 2) 0 ≤ x2) then 1 else 0)
theorem spX8_holds {x0 : Int} {x1 : Int} {x2 : Int} {h : vH} (s1 : shSpan h x0) : vcl mX8_holds [(1, x0), (0, x1), (0, x2)] h = some (.inl (some (0, fX8_holds h x0 x1 x2)), h) := by
  refine (show _ = _ from rX8_holds_0 s1).trans ?_
  rfl

