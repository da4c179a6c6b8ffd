theorem bX13_isLocked : vmB mX13_isLocked = cX13_isLocked := rfl
theorem rX13_isLocked_0 {x1 : Int} {h : vH} : vrun mX13_isLocked 0 [(1, 282), (0, x1), (9, 0), (9, 0), (9, 0)] [] h = vrun mX13_isLocked 7 [(1, 282), (0, x1), (0, 0), (0, (-1)), (0, 0)] [] h := by
  refine (rn_iconst (pc := 0) (dd bX13_isLocked dX13_isLocked_0) (by decide)).trans ?_
  refine (rn_istore_n (pc := 1) (dd bX13_isLocked dX13_isLocked_1) (Nat.le_of_ble_eq_true rfl) rfl).trans ?_
  refine (rn_iconst (pc := 2) (dd bX13_isLocked dX13_isLocked_2) (by decide)).trans ?_
  refine (rn_istore_n (pc := 3) (dd bX13_isLocked dX13_isLocked_3) (Nat.le_of_ble_eq_true rfl) rfl).trans ?_
  refine (rn_iconst (pc := 4) (dd bX13_isLocked dX13_isLocked_4) (by decide)).trans ?_
  refine (rn_istore (pc := 5) (dd bX13_isLocked dX13_isLocked_5) (Nat.le_of_ble_eq_true rfl) rfl).trans ?_
  rfl
theorem rX13_isLocked_7 {x1 : Int} {x2 : Int} {x3 : Int} {x4 : Int} {h : vH} (s1 : shModel h) (p2 : 4 ≤ x4 → 0 ≤ x1) (p3 : 4 ≤ x4 → x1 < 4) (p4 : ¬ (4 ≤ x4) → x2 = 0 → 0 ≤ x4) (p5 : ¬ (4 ≤ x4) → 0 ≤ x4) : vrun mX13_isLocked 7 [(1, 282), (0, x1), (0, x2), (0, x3), (0, x4)] [] h = if 4 ≤ x4 then some (.inl (some (0, (if ¬ (h 2 292 x1 = (-1)) ∧ (¬ (x2 = 0) ∨ ¬ (x1 = x3)) then 1 else 0))), h) else vrun mX13_isLocked 7 [(1, 282), (0, x1), (0, (if ¬ (x2 = 0) ∨ ¬ (h 2 289 x4 = 0) ∧ h 2 292 x4 = (-1) then 1 else 0)), (0, (if h 2 289 x4 = 0 then x3 else x4)), (0, x4 + 1)] [] h := by
  refine (rn_iload (pc := 7) (dd bX13_isLocked dX13_isLocked_7) rfl).trans ?_
  refine (rn_iconst (pc := 9) (dd bX13_isLocked dX13_isLocked_9) (by decide)).trans ?_
  refine (rn_icmp_ge (t := 67) (pc := 10) (dd bX13_isLocked dX13_isLocked_10) rfl).trans (itec (fun c1 => ?_) (fun c1 => ?_))
  · refine (rn_aload_n (pc := 67) (dd bX13_isLocked dX13_isLocked_67) rfl).trans ?_
    refine (rg_gf (pc := 68) (dd bX13_isLocked dX13_isLocked_68) (ci := 14) (j := 11) rfl rfl (key := 1511) rfl (kc := 34) rfl s1.1 s1.2.2.2.2.2.2.2.2.2.2.2.2.2.2.2.2.2.2.2.2.2.2.2.2.2.2.2.2.1).trans ?_
    refine (rn_iload_n (pc := 71) (dd bX13_isLocked dX13_isLocked_71) rfl).trans ?_
    refine (rg_iaload (pc := 72) (dd bX13_isLocked dX13_isLocked_72) s1.2.2.2.2.2.2.2.2.2.2.2.2.2.2.2.2.2.2.2.2.2.2.2.2.2.2.2.2.2.1 s1.2.2.2.2.2.2.2.2.2.2.2.2.2.2.2.2.2.2.2.2.2.2.2.2.2.2.2.2.2.2.1 (p2 c1) (p3 c1) rfl).trans ?_
    refine (rn_iconst (pc := 73) (dd bX13_isLocked dX13_isLocked_73) (by decide)).trans ?_
    have e3 : vrun mX13_isLocked 74 [(1, 282), (0, x1), (0, x2), (0, x3), (0, x4)] [(0, (-1)), (0, h 2 292 x1)] h = vrun mX13_isLocked 91 [(1, 282), (0, x1), (0, x2), (0, x3), (0, x4)] [(0, (if ¬ (h 2 292 x1 = (-1)) ∧ (¬ (x2 = 0) ∨ ¬ (x1 = x3)) then 1 else 0))] h := by
      refine (rn_icmp_eq (t := 90) (pc := 74) (dd bX13_isLocked dX13_isLocked_74) rfl).trans ?_
      by_cases c2 : h 2 292 x1 = (-1)
      · refine (if_pos c2).trans ?_
        refine (rn_iconst (pc := 90) (dd bX13_isLocked dX13_isLocked_90) (by decide)).trans ?_
        refine Eq.trans (b := vrun mX13_isLocked 91 [(1, 282), (0, x1), (0, x2), (0, x3), (0, x4)] [(0, 0)] h) rfl ?_
        simp only [c2, true_or, false_or, or_true, or_false, true_and, false_and, and_true, and_false, not_true_eq_false, not_false_eq_true, ne_eq, if_true, if_false, ↓reduceIte]
      · refine (if_neg c2).trans ?_
        refine (rn_iload_n (pc := 77) (dd bX13_isLocked dX13_isLocked_77) rfl).trans ?_
        have e2 : vrun mX13_isLocked 78 [(1, 282), (0, x1), (0, x2), (0, x3), (0, x4)] [(0, x2)] h = vrun mX13_isLocked 91 [(1, 282), (0, x1), (0, x2), (0, x3), (0, x4)] [(0, (if ¬ (x2 = 0) ∨ ¬ (x1 = x3) then 1 else 0))] h := by
          refine (rg_if_ne (t := 86) (pc := 78) (dd bX13_isLocked dX13_isLocked_78) rfl).trans ?_
          by_cases c3 : x2 = 0
          · refine (if_pos c3).trans ?_
            refine (rn_iload_n (pc := 81) (dd bX13_isLocked dX13_isLocked_81) rfl).trans ?_
            refine (rn_iload_n (pc := 82) (dd bX13_isLocked dX13_isLocked_82) rfl).trans ?_
            have e1 : vrun mX13_isLocked 83 [(1, 282), (0, x1), (0, x2), (0, x3), (0, x4)] [(0, x3), (0, x1)] h = vrun mX13_isLocked 91 [(1, 282), (0, x1), (0, x2), (0, x3), (0, x4)] [(0, (if ¬ (x1 = x3) then 1 else 0))] h := by
              refine (rn_icmp_eq (t := 90) (pc := 83) (dd bX13_isLocked dX13_isLocked_83) rfl).trans ?_
              by_cases c4 : x1 = x3
              · refine (if_pos c4).trans ?_
                refine (rn_iconst (pc := 90) (dd bX13_isLocked dX13_isLocked_90) (by decide)).trans ?_
                refine Eq.trans (b := vrun mX13_isLocked 91 [(1, 282), (0, x1), (0, x2), (0, x3), (0, x4)] [(0, 0)] h) rfl ?_
                simp only [c4, true_or, false_or, or_true, or_false, true_and, false_and, and_true, and_false, not_true_eq_false, not_false_eq_true, ne_eq, if_true, if_false, ↓reduceIte]
              · refine (if_neg c4).trans ?_
                refine (rn_iconst (pc := 86) (dd bX13_isLocked dX13_isLocked_86) (by decide)).trans ?_
                refine (rn_goto (t := 91) (pc := 87) (dd bX13_isLocked dX13_isLocked_87) rfl).trans ?_
                refine Eq.trans (b := vrun mX13_isLocked 91 [(1, 282), (0, x1), (0, x2), (0, x3), (0, x4)] [(0, 1)] h) rfl ?_
                simp only [c4, true_or, false_or, or_true, or_false, true_and, false_and, and_true, and_false, not_true_eq_false, not_false_eq_true, ne_eq, if_true, if_false, ↓reduceIte]
            refine e1.trans ?_
            refine Eq.trans (b := vrun mX13_isLocked 91 [(1, 282), (0, x1), (0, x2), (0, x3), (0, x4)] [(0, (if ¬ (x1 = x3) then 1 else 0))] h) rfl ?_
            simp only [c3, true_or, false_or, or_true, or_false, true_and, false_and, and_true, and_false, not_true_eq_false, not_false_eq_true, ne_eq, if_true, if_false, ↓reduceIte]
          · refine (if_neg c3).trans ?_
            refine (rn_iconst (pc := 86) (dd bX13_isLocked dX13_isLocked_86) (by decide)).trans ?_
            refine (rn_goto (t := 91) (pc := 87) (dd bX13_isLocked dX13_isLocked_87) rfl).trans ?_
            refine Eq.trans (b := vrun mX13_isLocked 91 [(1, 282), (0, x1), (0, x2), (0, x3), (0, x4)] [(0, 1)] h) rfl ?_
            simp only [c3, true_or, false_or, or_true, or_false, true_and, false_and, and_true, and_false, not_true_eq_false, not_false_eq_true, ne_eq, if_true, if_false, ↓reduceIte]
        refine e2.trans ?_
        refine Eq.trans (b := vrun mX13_isLocked 91 [(1, 282), (0, x1), (0, x2), (0, x3), (0, x4)] [(0, (if ¬ (x2 = 0) ∨ ¬ (x1 = x3) then 1 else 0))] h) rfl ?_
        simp only [c2, true_or, false_or, or_true, or_false, true_and, false_and, and_true, and_false, not_true_eq_false, not_false_eq_true, ne_eq, if_true, if_false, ↓reduceIte]
    refine e3.trans ?_
    exact rn_ireturn (pc := 91) (dd bX13_isLocked dX13_isLocked_91) (Or.inr ⟨rfl, b01⟩)
  · refine (rn_iload_n (pc := 13) (dd bX13_isLocked dX13_isLocked_13) rfl).trans ?_
    have e6 : vrun mX13_isLocked 14 [(1, 282), (0, x1), (0, x2), (0, x3), (0, x4)] [(0, x2)] h = vrun mX13_isLocked 43 [(1, 282), (0, x1), (0, x2), (0, x3), (0, x4)] [(0, (if ¬ (x2 = 0) ∨ ¬ (h 2 289 x4 = 0) ∧ h 2 292 x4 = (-1) then 1 else 0))] h := by
      refine (rg_if_ne (t := 38) (pc := 14) (dd bX13_isLocked dX13_isLocked_14) rfl).trans ?_
      by_cases c5 : x2 = 0
      · refine (if_pos c5).trans ?_
        refine (rn_aload_n (pc := 17) (dd bX13_isLocked dX13_isLocked_17) rfl).trans ?_
        refine (rg_gf (pc := 18) (dd bX13_isLocked dX13_isLocked_18) (ci := 14) (j := 8) rfl rfl (key := 1508) rfl (kc := 34) rfl s1.1 s1.2.2.2.2.2.2.2.2.2.2.2.2.2.2.2.2.2.2.2.1).trans ?_
        refine (rn_iload (pc := 21) (dd bX13_isLocked dX13_isLocked_21) rfl).trans ?_
        refine (rg_baload (pc := 23) (dd bX13_isLocked dX13_isLocked_23) s1.2.2.2.2.2.2.2.2.2.2.2.2.2.2.2.2.2.2.2.2.1 s1.2.2.2.2.2.2.2.2.2.2.2.2.2.2.2.2.2.2.2.2.2.1 (p4 c1 c5) (Int.not_le.mp c1) rfl).trans ?_
        have e5 : vrun mX13_isLocked 24 [(1, 282), (0, x1), (0, x2), (0, x3), (0, x4)] [(0, h 2 289 x4)] h = vrun mX13_isLocked 43 [(1, 282), (0, x1), (0, x2), (0, x3), (0, x4)] [(0, (if ¬ (h 2 289 x4 = 0) ∧ h 2 292 x4 = (-1) then 1 else 0))] h := by
          refine (rn_if_eq (t := 42) (pc := 24) (dd bX13_isLocked dX13_isLocked_24) rfl).trans ?_
          by_cases c6 : h 2 289 x4 = 0
          · refine (if_pos c6).trans ?_
            refine (rn_iconst (pc := 42) (dd bX13_isLocked dX13_isLocked_42) (by decide)).trans ?_
            refine Eq.trans (b := vrun mX13_isLocked 43 [(1, 282), (0, x1), (0, x2), (0, x3), (0, x4)] [(0, 0)] h) rfl ?_
            simp only [c6, true_or, false_or, or_true, or_false, true_and, false_and, and_true, and_false, not_true_eq_false, not_false_eq_true, ne_eq, if_true, if_false, ↓reduceIte]
          · refine (if_neg c6).trans ?_
            refine (rn_aload_n (pc := 27) (dd bX13_isLocked dX13_isLocked_27) rfl).trans ?_
            refine (rg_gf (pc := 28) (dd bX13_isLocked dX13_isLocked_28) (ci := 14) (j := 11) rfl rfl (key := 1511) rfl (kc := 34) rfl s1.1 s1.2.2.2.2.2.2.2.2.2.2.2.2.2.2.2.2.2.2.2.2.2.2.2.2.2.2.2.2.1).trans ?_
            refine (rn_iload (pc := 31) (dd bX13_isLocked dX13_isLocked_31) rfl).trans ?_
            refine (rg_iaload (pc := 33) (dd bX13_isLocked dX13_isLocked_33) s1.2.2.2.2.2.2.2.2.2.2.2.2.2.2.2.2.2.2.2.2.2.2.2.2.2.2.2.2.2.1 s1.2.2.2.2.2.2.2.2.2.2.2.2.2.2.2.2.2.2.2.2.2.2.2.2.2.2.2.2.2.2.1 (by have z0 := p4 c1 c5; omega) (Int.not_le.mp c1) rfl).trans ?_
            refine (rn_iconst (pc := 34) (dd bX13_isLocked dX13_isLocked_34) (by decide)).trans ?_
            have e4 : vrun mX13_isLocked 35 [(1, 282), (0, x1), (0, x2), (0, x3), (0, x4)] [(0, (-1)), (0, h 2 292 x4)] h = vrun mX13_isLocked 43 [(1, 282), (0, x1), (0, x2), (0, x3), (0, x4)] [(0, (if h 2 292 x4 = (-1) then 1 else 0))] h := by
              refine (rg_icmp_ne (t := 42) (pc := 35) (dd bX13_isLocked dX13_isLocked_35) rfl).trans ?_
              by_cases c7 : h 2 292 x4 = (-1)
              · refine (if_pos c7).trans ?_
                refine (rn_iconst (pc := 38) (dd bX13_isLocked dX13_isLocked_38) (by decide)).trans ?_
                refine (rn_goto (t := 43) (pc := 39) (dd bX13_isLocked dX13_isLocked_39) rfl).trans ?_
                refine Eq.trans (b := vrun mX13_isLocked 43 [(1, 282), (0, x1), (0, x2), (0, x3), (0, x4)] [(0, 1)] h) rfl ?_
                simp only [c7, true_or, false_or, or_true, or_false, true_and, false_and, and_true, and_false, not_true_eq_false, not_false_eq_true, ne_eq, if_true, if_false, ↓reduceIte]
              · refine (if_neg c7).trans ?_
                refine (rn_iconst (pc := 42) (dd bX13_isLocked dX13_isLocked_42) (by decide)).trans ?_
                refine Eq.trans (b := vrun mX13_isLocked 43 [(1, 282), (0, x1), (0, x2), (0, x3), (0, x4)] [(0, 0)] h) rfl ?_
                simp only [c7, true_or, false_or, or_true, or_false, true_and, false_and, and_true, and_false, not_true_eq_false, not_false_eq_true, ne_eq, if_true, if_false, ↓reduceIte]
            refine e4.trans ?_
            refine Eq.trans (b := vrun mX13_isLocked 43 [(1, 282), (0, x1), (0, x2), (0, x3), (0, x4)] [(0, (if h 2 292 x4 = (-1) then 1 else 0))] h) rfl ?_
            simp only [c6, true_or, false_or, or_true, or_false, true_and, false_and, and_true, and_false, not_true_eq_false, not_false_eq_true, ne_eq, if_true, if_false, ↓reduceIte]
        refine e5.trans ?_
        refine Eq.trans (b := vrun mX13_isLocked 43 [(1, 282), (0, x1), (0, x2), (0, x3), (0, x4)] [(0, (if ¬ (h 2 289 x4 = 0) ∧ h 2 292 x4 = (-1) then 1 else 0))] h) rfl ?_
        simp only [c5, true_or, false_or, or_true, or_false, true_and, false_and, and_true, and_false, not_true_eq_false, not_false_eq_true, ne_eq, if_true, if_false, ↓reduceIte]
      · refine (if_neg c5).trans ?_
        refine (rn_iconst (pc := 38) (dd bX13_isLocked dX13_isLocked_38) (by decide)).trans ?_
        refine (rn_goto (t := 43) (pc := 39) (dd bX13_isLocked dX13_isLocked_39) rfl).trans ?_
        refine Eq.trans (b := vrun mX13_isLocked 43 [(1, 282), (0, x1), (0, x2), (0, x3), (0, x4)] [(0, 1)] h) rfl ?_
        simp only [c5, true_or, false_or, or_true, or_false, true_and, false_and, and_true, and_false, not_true_eq_false, not_false_eq_true, ne_eq, if_true, if_false, ↓reduceIte]
    refine e6.trans ?_
    refine (rn_istore_n (pc := 43) (dd bX13_isLocked dX13_isLocked_43) (Nat.le_of_ble_eq_true rfl) rfl).trans ?_
    refine (rn_aload_n (pc := 44) (dd bX13_isLocked dX13_isLocked_44) rfl).trans ?_
    refine (rg_gf (pc := 45) (dd bX13_isLocked dX13_isLocked_45) (ci := 14) (j := 8) rfl rfl (key := 1508) rfl (kc := 34) rfl s1.1 s1.2.2.2.2.2.2.2.2.2.2.2.2.2.2.2.2.2.2.2.1).trans ?_
    refine (rn_iload (pc := 48) (dd bX13_isLocked dX13_isLocked_48) rfl).trans ?_
    refine (rg_baload (pc := 50) (dd bX13_isLocked dX13_isLocked_50) s1.2.2.2.2.2.2.2.2.2.2.2.2.2.2.2.2.2.2.2.2.1 s1.2.2.2.2.2.2.2.2.2.2.2.2.2.2.2.2.2.2.2.2.2.1 (p5 c1) (Int.not_le.mp c1) rfl).trans ?_
    have e7 : vrun mX13_isLocked 51 [(1, 282), (0, x1), (0, (if ¬ (x2 = 0) ∨ ¬ (h 2 289 x4 = 0) ∧ h 2 292 x4 = (-1) then 1 else 0)), (0, x3), (0, x4)] [(0, h 2 289 x4)] h = vrun mX13_isLocked 60 [(1, 282), (0, x1), (0, (if ¬ (x2 = 0) ∨ ¬ (h 2 289 x4 = 0) ∧ h 2 292 x4 = (-1) then 1 else 0)), (0, x3), (0, x4)] [(0, (if h 2 289 x4 = 0 then x3 else x4))] h := by
      refine (rn_if_eq (t := 59) (pc := 51) (dd bX13_isLocked dX13_isLocked_51) rfl).trans ?_
      by_cases c8 : h 2 289 x4 = 0
      · refine (if_pos c8).trans ?_
        refine (rn_iload_n (pc := 59) (dd bX13_isLocked dX13_isLocked_59) rfl).trans ?_
        refine Eq.trans (b := vrun mX13_isLocked 60 [(1, 282), (0, x1), (0, (if ¬ (x2 = 0) ∨ ¬ (h 2 289 x4 = 0) ∧ h 2 292 x4 = (-1) then 1 else 0)), (0, x3), (0, x4)] [(0, x3)] h) rfl ?_
        simp only [if_pos c8]
      · refine (if_neg c8).trans ?_
        refine (rn_iload (pc := 54) (dd bX13_isLocked dX13_isLocked_54) rfl).trans ?_
        refine (rn_goto (t := 60) (pc := 56) (dd bX13_isLocked dX13_isLocked_56) rfl).trans ?_
        refine Eq.trans (b := vrun mX13_isLocked 60 [(1, 282), (0, x1), (0, (if ¬ (x2 = 0) ∨ ¬ (h 2 289 x4 = 0) ∧ h 2 292 x4 = (-1) then 1 else 0)), (0, x3), (0, x4)] [(0, x4)] h) rfl ?_
        simp only [if_neg c8]
    refine e7.trans ?_
    refine (rn_istore_n (pc := 60) (dd bX13_isLocked dX13_isLocked_60) (Nat.le_of_ble_eq_true rfl) rfl).trans ?_
    refine (rg_iinc (pc := 61) (dd bX13_isLocked dX13_isLocked_61) rfl (Nat.le_of_ble_eq_true rfl) (by have z0 := p5 c1; omega) (by have z0 := p5 c1; omega) rfl).trans ?_
    refine (rn_goto (t := 7) (pc := 64) (dd bX13_isLocked dX13_isLocked_64) rfl).trans ?_
    rfl
theorem bX13_greater : vmB mX13_greater = cX13_greater := rfl
theorem rX13_greater_0 {x0 : Int} {x1 : Int} {h : vH} : vrun mX13_greater 0 [(0, x0), (0, x1)] [] h = some (.inl (some (0, (if x0 ≤ x1 then x1 else x0))), h) := by
  refine (rn_iload_n (pc := 0) (dd bX13_greater dX13_greater_0) rfl).trans ?_
  refine (rn_iload_n (pc := 1) (dd bX13_greater dX13_greater_1) rfl).trans ?_
  have e1 : vrun mX13_greater 2 [(0, x0), (0, x1)] [(0, x1), (0, x0)] h = vrun mX13_greater 10 [(0, x0), (0, x1)] [(0, (if x0 ≤ x1 then x1 else x0))] h := by
    refine (rn_icmp_le (t := 9) (pc := 2) (dd bX13_greater dX13_greater_2) rfl).trans ?_
    by_cases c1 : x0 ≤ x1
    · refine (if_pos c1).trans ?_
      refine (rn_iload_n (pc := 9) (dd bX13_greater dX13_greater_9) rfl).trans ?_
      refine Eq.trans (b := vrun mX13_greater 10 [(0, x0), (0, x1)] [(0, x1)] h) rfl ?_
      simp only [if_pos c1]
    · refine (if_neg c1).trans ?_
      refine (rn_iload_n (pc := 5) (dd bX13_greater dX13_greater_5) rfl).trans ?_
      refine (rn_goto (t := 10) (pc := 6) (dd bX13_greater dX13_greater_6) rfl).trans ?_
      refine Eq.trans (b := vrun mX13_greater 10 [(0, x0), (0, x1)] [(0, x0)] h) rfl ?_
      simp only [if_neg c1]
  refine e1.trans ?_
  exact rn_ireturn (pc := 10) (dd bX13_greater dX13_greater_10) (Or.inl rfl)
theorem spX13_greater {x0 : Int} {x1 : Int} {h : vH} : vcl mX13_greater [(0, x0), (0, x1)] h = some (.inl (some (0, (if x0 ≤ x1 then x1 else x0))), h) := by
  refine (show _ = _ from rX13_greater_0).trans ?_
  rfl
theorem bX13_poorest : vmB mX13_poorest = cX13_poorest := rfl
theorem rX13_poorest_0 {h : vH} : vrun mX13_poorest 0 [(1, 282), (9, 0), (9, 0)] [] h = vrun mX13_poorest 4 [(1, 282), (0, (-1)), (0, 3)] [] h := by
  refine (rn_iconst (pc := 0) (dd bX13_poorest dX13_poorest_0) (by decide)).trans ?_
  refine (rn_istore_n (pc := 1) (dd bX13_poorest dX13_poorest_1) (Nat.le_of_ble_eq_true rfl) rfl).trans ?_
  refine (rn_iconst (pc := 2) (dd bX13_poorest dX13_poorest_2) (by decide)).trans ?_
  refine (rn_istore_n (pc := 3) (dd bX13_poorest dX13_poorest_3) (Nat.le_of_ble_eq_true rfl) rfl).trans ?_
  rfl
theorem rX13_poorest_4 {x1 : Int} {x2 : Int} {h : vH} (s1 : shModel h) (p2 : ¬ (x2 < 0) → x2 < 4) : vrun mX13_poorest 4 [(1, 282), (0, x1), (0, x2)] [] h = if x2 < 0 then some (.inl (some (0, x1)), h) else if h 2 289 x2 = 0 then vrun mX13_poorest 4 [(1, 282), (0, x1), (0, x2 + (-1))] [] h else vret vrun mX13_poorest 19 [(1, 282), (0, x1), (0, x2)] [] (vcl mX13_isLocked [(1, 282), (0, x2)] h) := by
  refine (rn_iload_n (pc := 4) (dd bX13_poorest dX13_poorest_4) rfl).trans ?_
  refine (rn_if_lt (t := 52) (pc := 5) (dd bX13_poorest dX13_poorest_5) rfl).trans (itec (fun c1 => ?_) (fun c1 => ?_))
  · refine (rn_iload_n (pc := 52) (dd bX13_poorest dX13_poorest_52) rfl).trans ?_
    exact rn_ireturn (pc := 53) (dd bX13_poorest dX13_poorest_53) (Or.inl rfl)
  · refine (rn_aload_n (pc := 8) (dd bX13_poorest dX13_poorest_8) rfl).trans ?_
    refine (rg_gf (pc := 9) (dd bX13_poorest dX13_poorest_9) (ci := 14) (j := 8) rfl rfl (key := 1508) rfl (kc := 34) rfl s1.1 s1.2.2.2.2.2.2.2.2.2.2.2.2.2.2.2.2.2.2.2.1).trans ?_
    refine (rn_iload_n (pc := 12) (dd bX13_poorest dX13_poorest_12) rfl).trans ?_
    refine (rg_baload (pc := 13) (dd bX13_poorest dX13_poorest_13) s1.2.2.2.2.2.2.2.2.2.2.2.2.2.2.2.2.2.2.2.2.1 s1.2.2.2.2.2.2.2.2.2.2.2.2.2.2.2.2.2.2.2.2.2.1 (Int.not_lt.mp c1) (p2 c1) rfl).trans ?_
    refine (rn_if_eq (t := 44) (pc := 14) (dd bX13_poorest dX13_poorest_14) rfl).trans (itec (fun c2 => ?_) (fun c2 => ?_))
    · refine (rn_iload_n (pc := 44) (dd bX13_poorest dX13_poorest_44) rfl).trans ?_
      refine (rn_istore_n (pc := 45) (dd bX13_poorest dX13_poorest_45) (Nat.le_of_ble_eq_true rfl) rfl).trans ?_
      refine (rg_iinc (pc := 46) (dd bX13_poorest dX13_poorest_46) rfl (Nat.le_of_ble_eq_true rfl) (by have z0 := p2 c1; omega) (by have z0 := p2 c1; omega) rfl).trans ?_
      refine (rn_goto (t := 4) (pc := 49) (dd bX13_poorest dX13_poorest_49) rfl).trans ?_
      rfl
    · refine (rn_aload_n (pc := 17) (dd bX13_poorest dX13_poorest_17) rfl).trans ?_
      refine (rn_iload_n (pc := 18) (dd bX13_poorest dX13_poorest_18) rfl).trans ?_
      exact rg_virtual (pc := 19) (dd bX13_poorest dX13_poorest_19) rfl rfl (by decide) (kc := 34) rfl s1.1 (as := [(1, 282), (0, x2)]) rfl ⟨Nat.le_of_ble_eq_true rfl, Nat.le_of_ble_eq_true rfl, Nat.le_of_ble_eq_true rfl, Nat.le_of_ble_eq_true rfl⟩
theorem rX13_poorest_22 {x1 : Int} {x2 : Int} {y0 : Int} {h : vH} (s1 : shModel h) (p2 : y0 = 0 → 0 ≤ x2) (p3 : y0 = 0 → x2 < 4) (p4 : (-2147483648) ≤ x2 + (-1)) (p5 : x2 + (-1) < 2147483648) : vrun mX13_poorest 22 [(1, 282), (0, x1), (0, x2)] [(0, y0)] h = vrun mX13_poorest 4 [(1, 282), (0, (if y0 = 0 then (if h 2 291 x2 ≤ h 2 310 x2 then x1 else x2) else x1)), (0, x2 + (-1))] [] h := by
  have e2 : vrun mX13_poorest 22 [(1, 282), (0, x1), (0, x2)] [(0, y0)] h = vrun mX13_poorest 45 [(1, 282), (0, x1), (0, x2)] [(0, (if y0 = 0 then (if h 2 291 x2 ≤ h 2 310 x2 then x1 else x2) else x1))] h := by
    refine (rg_if_ne (t := 44) (pc := 22) (dd bX13_poorest dX13_poorest_22) rfl).trans ?_
    by_cases c1 : y0 = 0
    · refine (if_pos c1).trans ?_
      refine (rn_aload_n (pc := 25) (dd bX13_poorest dX13_poorest_25) rfl).trans ?_
      refine (rg_gf (pc := 26) (dd bX13_poorest dX13_poorest_26) (ci := 14) (j := 29) rfl rfl (key := 1529) rfl (kc := 34) rfl s1.1 s1.2.2.2.2.2.2.2.2.2.2.2.2.2.2.2.2.2.2.2.2.2.2.2.2.2.2.2.2.2.2.2.2.2.2.2.2.2.2.2.2.2.2.2.2.2.2.2.2.2.2.2.2.2.2.2.2.2.2.2.2.2.2.2.2.2.2.2.2.2.2.2.2.2.2.2.2.2.2.2.2.2.2.1).trans ?_
      refine (rn_iload_n (pc := 29) (dd bX13_poorest dX13_poorest_29) rfl).trans ?_
      refine (rg_iaload (pc := 30) (dd bX13_poorest dX13_poorest_30) s1.2.2.2.2.2.2.2.2.2.2.2.2.2.2.2.2.2.2.2.2.2.2.2.2.2.2.2.2.2.2.2.2.2.2.2.2.2.2.2.2.2.2.2.2.2.2.2.2.2.2.2.2.2.2.2.2.2.2.2.2.2.2.2.2.2.2.2.2.2.2.2.2.2.2.2.2.2.2.2.2.2.2.2.1 s1.2.2.2.2.2.2.2.2.2.2.2.2.2.2.2.2.2.2.2.2.2.2.2.2.2.2.2.2.2.2.2.2.2.2.2.2.2.2.2.2.2.2.2.2.2.2.2.2.2.2.2.2.2.2.2.2.2.2.2.2.2.2.2.2.2.2.2.2.2.2.2.2.2.2.2.2.2.2.2.2.2.2.2.2.1 (p2 c1) (p3 c1) rfl).trans ?_
      refine (rn_aload_n (pc := 31) (dd bX13_poorest dX13_poorest_31) rfl).trans ?_
      refine (rg_gf (pc := 32) (dd bX13_poorest dX13_poorest_32) (ci := 14) (j := 10) rfl rfl (key := 1510) rfl (kc := 34) rfl s1.1 s1.2.2.2.2.2.2.2.2.2.2.2.2.2.2.2.2.2.2.2.2.2.2.2.2.2.1).trans ?_
      refine (rn_iload_n (pc := 35) (dd bX13_poorest dX13_poorest_35) rfl).trans ?_
      refine (rg_iaload (pc := 36) (dd bX13_poorest dX13_poorest_36) s1.2.2.2.2.2.2.2.2.2.2.2.2.2.2.2.2.2.2.2.2.2.2.2.2.2.2.1 s1.2.2.2.2.2.2.2.2.2.2.2.2.2.2.2.2.2.2.2.2.2.2.2.2.2.2.2.1 (by have z0 := p2 c1; have z1 := p3 c1; omega) (by have z0 := p2 c1; have z1 := p3 c1; omega) rfl).trans ?_
      have e1 : vrun mX13_poorest 37 [(1, 282), (0, x1), (0, x2)] [(0, h 2 291 x2), (0, h 2 310 x2)] h = vrun mX13_poorest 45 [(1, 282), (0, x1), (0, x2)] [(0, (if h 2 291 x2 ≤ h 2 310 x2 then x1 else x2))] h := by
        refine (rn_icmp_ge (t := 44) (pc := 37) (dd bX13_poorest dX13_poorest_37) rfl).trans ?_
        by_cases c2 : h 2 291 x2 ≤ h 2 310 x2
        · refine (if_pos c2).trans ?_
          refine (rn_iload_n (pc := 44) (dd bX13_poorest dX13_poorest_44) rfl).trans ?_
          refine Eq.trans (b := vrun mX13_poorest 45 [(1, 282), (0, x1), (0, x2)] [(0, x1)] h) rfl ?_
          simp only [if_pos c2]
        · refine (if_neg c2).trans ?_
          refine (rn_iload_n (pc := 40) (dd bX13_poorest dX13_poorest_40) rfl).trans ?_
          refine (rn_goto (t := 45) (pc := 41) (dd bX13_poorest dX13_poorest_41) rfl).trans ?_
          refine Eq.trans (b := vrun mX13_poorest 45 [(1, 282), (0, x1), (0, x2)] [(0, x2)] h) rfl ?_
          simp only [if_neg c2]
      refine e1.trans ?_
      refine Eq.trans (b := vrun mX13_poorest 45 [(1, 282), (0, x1), (0, x2)] [(0, (if h 2 291 x2 ≤ h 2 310 x2 then x1 else x2))] h) rfl ?_
      simp only [if_pos c1]
    · refine (if_neg c1).trans ?_
      refine (rn_iload_n (pc := 44) (dd bX13_poorest dX13_poorest_44) rfl).trans ?_
      refine Eq.trans (b := vrun mX13_poorest 45 [(1, 282), (0, x1), (0, x2)] [(0, x1)] h) rfl ?_
      simp only [if_neg c1]
  refine e2.trans ?_
  refine (rn_istore_n (pc := 45) (dd bX13_poorest dX13_poorest_45) (Nat.le_of_ble_eq_true rfl) rfl).trans ?_
  refine (rg_iinc (pc := 46) (dd bX13_poorest dX13_poorest_46) rfl (Nat.le_of_ble_eq_true rfl) p4 p5 rfl).trans ?_
  refine (rn_goto (t := 4) (pc := 49) (dd bX13_poorest dX13_poorest_49) rfl).trans ?_
  rfl
theorem bX13_richest : vmB mX13_richest = cX13_richest := rfl
theorem rX13_richest_0 {h : vH} : vrun mX13_richest 0 [(1, 282), (9, 0), (9, 0), (9, 0)] [] h = vrun mX13_richest 4 [(1, 282), (0, (-1)), (0, 0), (9, 0)] [] h := by
  refine (rn_iconst (pc := 0) (dd bX13_richest dX13_richest_0) (by decide)).trans ?_
  refine (rn_istore_n (pc := 1) (dd bX13_richest dX13_richest_1) (Nat.le_of_ble_eq_true rfl) rfl).trans ?_
  refine (rn_iconst (pc := 2) (dd bX13_richest dX13_richest_2) (by decide)).trans ?_
  refine (rn_istore_n (pc := 3) (dd bX13_richest dX13_richest_3) (Nat.le_of_ble_eq_true rfl) rfl).trans ?_
  rfl
theorem rX13_richest_4 {x1 : Int} {x2 : Int} {v3 : vv} {h : vH} (s1 : shModel h) (p2 : ¬ (4 ≤ x2) → 0 ≤ x2) : vrun mX13_richest 4 [(1, 282), (0, x1), (0, x2), v3] [] h = if 4 ≤ x2 then some (.inl (some (0, x1)), h) else if h 2 289 x2 = 0 then vrun mX13_richest 4 [(1, 282), (0, x1), (0, x2 + 1), (0, 0)] [] h else vret vrun mX13_richest 20 [(1, 282), (0, x1), (0, x2), v3] [] (vcl mX13_isLocked [(1, 282), (0, x2)] h) := by
  refine (rn_iload_n (pc := 4) (dd bX13_richest dX13_richest_4) rfl).trans ?_
  refine (rn_iconst (pc := 5) (dd bX13_richest dX13_richest_5) (by decide)).trans ?_
  refine (rn_icmp_ge (t := 97) (pc := 6) (dd bX13_richest dX13_richest_6) rfl).trans (itec (fun c1 => ?_) (fun c1 => ?_))
  · refine (rn_iload_n (pc := 97) (dd bX13_richest dX13_richest_97) rfl).trans ?_
    exact rn_ireturn (pc := 98) (dd bX13_richest dX13_richest_98) (Or.inl rfl)
  · refine (rn_aload_n (pc := 9) (dd bX13_richest dX13_richest_9) rfl).trans ?_
    refine (rg_gf (pc := 10) (dd bX13_richest dX13_richest_10) (ci := 14) (j := 8) rfl rfl (key := 1508) rfl (kc := 34) rfl s1.1 s1.2.2.2.2.2.2.2.2.2.2.2.2.2.2.2.2.2.2.2.1).trans ?_
    refine (rn_iload_n (pc := 13) (dd bX13_richest dX13_richest_13) rfl).trans ?_
    refine (rg_baload (pc := 14) (dd bX13_richest dX13_richest_14) s1.2.2.2.2.2.2.2.2.2.2.2.2.2.2.2.2.2.2.2.2.1 s1.2.2.2.2.2.2.2.2.2.2.2.2.2.2.2.2.2.2.2.2.2.1 (p2 c1) (Int.not_le.mp c1) rfl).trans ?_
    refine (rn_if_eq (t := 45) (pc := 15) (dd bX13_richest dX13_richest_15) rfl).trans (itec (fun c2 => ?_) (fun c2 => ?_))
    · refine (rn_iconst (pc := 45) (dd bX13_richest dX13_richest_45) (by decide)).trans ?_
      refine (rn_istore_n (pc := 46) (dd bX13_richest dX13_richest_46) (Nat.le_of_ble_eq_true rfl) rfl).trans ?_
      refine (rn_iload_n (pc := 47) (dd bX13_richest dX13_richest_47) rfl).trans ?_
      refine (rn_if_eq (t := 89) (pc := 48) (dd bX13_richest dX13_richest_48) rfl).trans ((if_pos (by decide)).trans ?_)
      refine (rn_iload_n (pc := 89) (dd bX13_richest dX13_richest_89) rfl).trans ?_
      refine (rn_istore_n (pc := 90) (dd bX13_richest dX13_richest_90) (Nat.le_of_ble_eq_true rfl) rfl).trans ?_
      refine (rg_iinc (pc := 91) (dd bX13_richest dX13_richest_91) rfl (Nat.le_of_ble_eq_true rfl) (by have z0 := p2 c1; omega) (by have z0 := p2 c1; omega) rfl).trans ?_
      refine (rn_goto (t := 4) (pc := 94) (dd bX13_richest dX13_richest_94) rfl).trans ?_
      rfl
    · refine (rn_aload_n (pc := 18) (dd bX13_richest dX13_richest_18) rfl).trans ?_
      refine (rn_iload_n (pc := 19) (dd bX13_richest dX13_richest_19) rfl).trans ?_
      exact rg_virtual (pc := 20) (dd bX13_richest dX13_richest_20) rfl rfl (by decide) (kc := 34) rfl s1.1 (as := [(1, 282), (0, x2)]) rfl ⟨Nat.le_of_ble_eq_true rfl, Nat.le_of_ble_eq_true rfl, Nat.le_of_ble_eq_true rfl, Nat.le_of_ble_eq_true rfl⟩
theorem rX13_richest_23 {x1 : Int} {x2 : Int} {v3 : vv} {y0 : Int} {h : vH} (s1 : shModel h) (p2 : y0 = 0 → 0 ≤ x2) (p3 : y0 = 0 → x2 < 4) (p4 : y0 = 0 ∧ ¬ (h 2 310 x2 ≤ h 2 291 x2) → ¬ (x1 = (-1)) → 0 ≤ x2) (p5 : y0 = 0 ∧ ¬ (h 2 310 x2 ≤ h 2 291 x2) → ¬ (x1 = (-1)) → x2 < 4) (p6 : y0 = 0 ∧ ¬ (h 2 310 x2 ≤ h 2 291 x2) → ¬ (x1 = (-1)) → (-2147483648) ≤ h 2 310 x2 - h 2 291 x2) (p7 : y0 = 0 ∧ ¬ (h 2 310 x2 ≤ h 2 291 x2) → ¬ (x1 = (-1)) → h 2 310 x2 - h 2 291 x2 < 2147483648) (p8 : y0 = 0 ∧ ¬ (h 2 310 x2 ≤ h 2 291 x2) → ¬ (x1 = (-1)) → 0 ≤ x1) (p9 : y0 = 0 ∧ ¬ (h 2 310 x2 ≤ h 2 291 x2) → ¬ (x1 = (-1)) → x1 < 4) (p10 : y0 = 0 ∧ ¬ (h 2 310 x2 ≤ h 2 291 x2) → ¬ (x1 = (-1)) → (-2147483648) ≤ h 2 310 x1 - h 2 291 x1) (p11 : y0 = 0 ∧ ¬ (h 2 310 x2 ≤ h 2 291 x2) → ¬ (x1 = (-1)) → h 2 310 x1 - h 2 291 x1 < 2147483648) (p12 : (-2147483648) ≤ x2 + 1) (p13 : x2 + 1 < 2147483648) : vrun mX13_richest 23 [(1, 282), (0, x1), (0, x2), v3] [(0, y0)] h = vrun mX13_richest 4 [(1, 282), (0, (if y0 = 0 ∧ ¬ (h 2 310 x2 ≤ h 2 291 x2) then (if x1 = (-1) then x2 else (if h 2 310 x2 - h 2 291 x2 ≤ h 2 310 x1 - h 2 291 x1 then x1 else x2)) else x1)), (0, x2 + 1), (0, (if y0 = 0 ∧ ¬ (h 2 310 x2 ≤ h 2 291 x2) then 1 else 0))] [] h := by
  have e2 : vrun mX13_richest 23 [(1, 282), (0, x1), (0, x2), v3] [(0, y0)] h = vrun mX13_richest 46 [(1, 282), (0, x1), (0, x2), v3] [(0, (if y0 = 0 ∧ ¬ (h 2 310 x2 ≤ h 2 291 x2) then 1 else 0))] h := by
    refine (rg_if_ne (t := 45) (pc := 23) (dd bX13_richest dX13_richest_23) rfl).trans ?_
    by_cases c1 : y0 = 0
    · refine (if_pos c1).trans ?_
      refine (rn_aload_n (pc := 26) (dd bX13_richest dX13_richest_26) rfl).trans ?_
      refine (rg_gf (pc := 27) (dd bX13_richest dX13_richest_27) (ci := 14) (j := 29) rfl rfl (key := 1529) rfl (kc := 34) rfl s1.1 s1.2.2.2.2.2.2.2.2.2.2.2.2.2.2.2.2.2.2.2.2.2.2.2.2.2.2.2.2.2.2.2.2.2.2.2.2.2.2.2.2.2.2.2.2.2.2.2.2.2.2.2.2.2.2.2.2.2.2.2.2.2.2.2.2.2.2.2.2.2.2.2.2.2.2.2.2.2.2.2.2.2.2.1).trans ?_
      refine (rn_iload_n (pc := 30) (dd bX13_richest dX13_richest_30) rfl).trans ?_
      refine (rg_iaload (pc := 31) (dd bX13_richest dX13_richest_31) s1.2.2.2.2.2.2.2.2.2.2.2.2.2.2.2.2.2.2.2.2.2.2.2.2.2.2.2.2.2.2.2.2.2.2.2.2.2.2.2.2.2.2.2.2.2.2.2.2.2.2.2.2.2.2.2.2.2.2.2.2.2.2.2.2.2.2.2.2.2.2.2.2.2.2.2.2.2.2.2.2.2.2.2.1 s1.2.2.2.2.2.2.2.2.2.2.2.2.2.2.2.2.2.2.2.2.2.2.2.2.2.2.2.2.2.2.2.2.2.2.2.2.2.2.2.2.2.2.2.2.2.2.2.2.2.2.2.2.2.2.2.2.2.2.2.2.2.2.2.2.2.2.2.2.2.2.2.2.2.2.2.2.2.2.2.2.2.2.2.2.1 (p2 c1) (p3 c1) rfl).trans ?_
      refine (rn_aload_n (pc := 32) (dd bX13_richest dX13_richest_32) rfl).trans ?_
      refine (rg_gf (pc := 33) (dd bX13_richest dX13_richest_33) (ci := 14) (j := 10) rfl rfl (key := 1510) rfl (kc := 34) rfl s1.1 s1.2.2.2.2.2.2.2.2.2.2.2.2.2.2.2.2.2.2.2.2.2.2.2.2.2.1).trans ?_
      refine (rn_iload_n (pc := 36) (dd bX13_richest dX13_richest_36) rfl).trans ?_
      refine (rg_iaload (pc := 37) (dd bX13_richest dX13_richest_37) s1.2.2.2.2.2.2.2.2.2.2.2.2.2.2.2.2.2.2.2.2.2.2.2.2.2.2.1 s1.2.2.2.2.2.2.2.2.2.2.2.2.2.2.2.2.2.2.2.2.2.2.2.2.2.2.2.1 (by have z0 := p2 c1; have z1 := p3 c1; omega) (by have z0 := p2 c1; have z1 := p3 c1; omega) rfl).trans ?_
      have e1 : vrun mX13_richest 38 [(1, 282), (0, x1), (0, x2), v3] [(0, h 2 291 x2), (0, h 2 310 x2)] h = vrun mX13_richest 46 [(1, 282), (0, x1), (0, x2), v3] [(0, (if ¬ (h 2 310 x2 ≤ h 2 291 x2) then 1 else 0))] h := by
        refine (rn_icmp_le (t := 45) (pc := 38) (dd bX13_richest dX13_richest_38) rfl).trans ?_
        by_cases c2 : h 2 310 x2 ≤ h 2 291 x2
        · refine (if_pos c2).trans ?_
          refine (rn_iconst (pc := 45) (dd bX13_richest dX13_richest_45) (by decide)).trans ?_
          refine Eq.trans (b := vrun mX13_richest 46 [(1, 282), (0, x1), (0, x2), v3] [(0, 0)] h) rfl ?_
          simp only [c2, true_or, false_or, or_true, or_false, true_and, false_and, and_true, and_false, not_true_eq_false, not_false_eq_true, ne_eq, if_true, if_false, ↓reduceIte]
        · refine (if_neg c2).trans ?_
          refine (rn_iconst (pc := 41) (dd bX13_richest dX13_richest_41) (by decide)).trans ?_
          refine (rn_goto (t := 46) (pc := 42) (dd bX13_richest dX13_richest_42) rfl).trans ?_
          refine Eq.trans (b := vrun mX13_richest 46 [(1, 282), (0, x1), (0, x2), v3] [(0, 1)] h) rfl ?_
          simp only [c2, true_or, false_or, or_true, or_false, true_and, false_and, and_true, and_false, not_true_eq_false, not_false_eq_true, ne_eq, if_true, if_false, ↓reduceIte]
      refine e1.trans ?_
      refine Eq.trans (b := vrun mX13_richest 46 [(1, 282), (0, x1), (0, x2), v3] [(0, (if ¬ (h 2 310 x2 ≤ h 2 291 x2) then 1 else 0))] h) rfl ?_
      simp only [c1, true_or, false_or, or_true, or_false, true_and, false_and, and_true, and_false, not_true_eq_false, not_false_eq_true, ne_eq, if_true, if_false, ↓reduceIte]
    · refine (if_neg c1).trans ?_
      refine (rn_iconst (pc := 45) (dd bX13_richest dX13_richest_45) (by decide)).trans ?_
      refine Eq.trans (b := vrun mX13_richest 46 [(1, 282), (0, x1), (0, x2), v3] [(0, 0)] h) rfl ?_
      simp only [c1, true_or, false_or, or_true, or_false, true_and, false_and, and_true, and_false, not_true_eq_false, not_false_eq_true, ne_eq, if_true, if_false, ↓reduceIte]
  refine e2.trans ?_
  refine (rn_istore_n (pc := 46) (dd bX13_richest dX13_richest_46) (Nat.le_of_ble_eq_true rfl) rfl).trans ?_
  refine (rn_iload_n (pc := 47) (dd bX13_richest dX13_richest_47) rfl).trans ?_
  have e5 : vrun mX13_richest 48 [(1, 282), (0, x1), (0, x2), (0, (if y0 = 0 ∧ ¬ (h 2 310 x2 ≤ h 2 291 x2) then 1 else 0))] [(0, (if y0 = 0 ∧ ¬ (h 2 310 x2 ≤ h 2 291 x2) then 1 else 0))] h = vrun mX13_richest 90 [(1, 282), (0, x1), (0, x2), (0, (if y0 = 0 ∧ ¬ (h 2 310 x2 ≤ h 2 291 x2) then 1 else 0))] [(0, (if y0 = 0 ∧ ¬ (h 2 310 x2 ≤ h 2 291 x2) then (if x1 = (-1) then x2 else (if h 2 310 x2 - h 2 291 x2 ≤ h 2 310 x1 - h 2 291 x1 then x1 else x2)) else x1))] h := by
    refine (rg_beq (t := 89) (pc := 48) (dd bX13_richest dX13_richest_48) rfl).trans ?_
    by_cases c3 : y0 = 0 ∧ ¬ (h 2 310 x2 ≤ h 2 291 x2)
    · refine (if_pos c3).trans ?_
      refine (rn_iload_n (pc := 51) (dd bX13_richest dX13_richest_51) rfl).trans ?_
      refine (rn_iconst (pc := 52) (dd bX13_richest dX13_richest_52) (by decide)).trans ?_
      have e4 : vrun mX13_richest 53 [(1, 282), (0, x1), (0, x2), (0, (if y0 = 0 ∧ ¬ (h 2 310 x2 ≤ h 2 291 x2) then 1 else 0))] [(0, (-1)), (0, x1)] h = vrun mX13_richest 90 [(1, 282), (0, x1), (0, x2), (0, (if y0 = 0 ∧ ¬ (h 2 310 x2 ≤ h 2 291 x2) then 1 else 0))] [(0, (if x1 = (-1) then x2 else (if h 2 310 x2 - h 2 291 x2 ≤ h 2 310 x1 - h 2 291 x1 then x1 else x2)))] h := by
        refine (rn_icmp_eq (t := 85) (pc := 53) (dd bX13_richest dX13_richest_53) rfl).trans ?_
        by_cases c4 : x1 = (-1)
        · refine (if_pos c4).trans ?_
          refine (rn_iload_n (pc := 85) (dd bX13_richest dX13_richest_85) rfl).trans ?_
          refine (rn_goto (t := 90) (pc := 86) (dd bX13_richest dX13_richest_86) rfl).trans ?_
          refine Eq.trans (b := vrun mX13_richest 90 [(1, 282), (0, x1), (0, x2), (0, (if y0 = 0 ∧ ¬ (h 2 310 x2 ≤ h 2 291 x2) then 1 else 0))] [(0, x2)] h) rfl ?_
          simp only [if_pos c4]
        · refine (if_neg c4).trans ?_
          refine (rn_aload_n (pc := 56) (dd bX13_richest dX13_richest_56) rfl).trans ?_
          refine (rg_gf (pc := 57) (dd bX13_richest dX13_richest_57) (ci := 14) (j := 29) rfl rfl (key := 1529) rfl (kc := 34) rfl s1.1 s1.2.2.2.2.2.2.2.2.2.2.2.2.2.2.2.2.2.2.2.2.2.2.2.2.2.2.2.2.2.2.2.2.2.2.2.2.2.2.2.2.2.2.2.2.2.2.2.2.2.2.2.2.2.2.2.2.2.2.2.2.2.2.2.2.2.2.2.2.2.2.2.2.2.2.2.2.2.2.2.2.2.2.1).trans ?_
          refine (rn_iload_n (pc := 60) (dd bX13_richest dX13_richest_60) rfl).trans ?_
          refine (rg_iaload (pc := 61) (dd bX13_richest dX13_richest_61) s1.2.2.2.2.2.2.2.2.2.2.2.2.2.2.2.2.2.2.2.2.2.2.2.2.2.2.2.2.2.2.2.2.2.2.2.2.2.2.2.2.2.2.2.2.2.2.2.2.2.2.2.2.2.2.2.2.2.2.2.2.2.2.2.2.2.2.2.2.2.2.2.2.2.2.2.2.2.2.2.2.2.2.2.1 s1.2.2.2.2.2.2.2.2.2.2.2.2.2.2.2.2.2.2.2.2.2.2.2.2.2.2.2.2.2.2.2.2.2.2.2.2.2.2.2.2.2.2.2.2.2.2.2.2.2.2.2.2.2.2.2.2.2.2.2.2.2.2.2.2.2.2.2.2.2.2.2.2.2.2.2.2.2.2.2.2.2.2.2.2.1 (p4 c3 c4) (p5 c3 c4) rfl).trans ?_
          refine (rn_aload_n (pc := 62) (dd bX13_richest dX13_richest_62) rfl).trans ?_
          refine (rg_gf (pc := 63) (dd bX13_richest dX13_richest_63) (ci := 14) (j := 10) rfl rfl (key := 1510) rfl (kc := 34) rfl s1.1 s1.2.2.2.2.2.2.2.2.2.2.2.2.2.2.2.2.2.2.2.2.2.2.2.2.2.1).trans ?_
          refine (rn_iload_n (pc := 66) (dd bX13_richest dX13_richest_66) rfl).trans ?_
          refine (rg_iaload (pc := 67) (dd bX13_richest dX13_richest_67) s1.2.2.2.2.2.2.2.2.2.2.2.2.2.2.2.2.2.2.2.2.2.2.2.2.2.2.1 s1.2.2.2.2.2.2.2.2.2.2.2.2.2.2.2.2.2.2.2.2.2.2.2.2.2.2.2.1 (by have z0 := p4 c3 c4; have z1 := p5 c3 c4; omega) (by have z0 := p4 c3 c4; have z1 := p5 c3 c4; omega) rfl).trans ?_
          refine (rg_isub (pc := 68) (dd bX13_richest dX13_richest_68) (p6 c3 c4) (p7 c3 c4)).trans ?_
          refine (rn_aload_n (pc := 69) (dd bX13_richest dX13_richest_69) rfl).trans ?_
          refine (rg_gf (pc := 70) (dd bX13_richest dX13_richest_70) (ci := 14) (j := 29) rfl rfl (key := 1529) rfl (kc := 34) rfl s1.1 s1.2.2.2.2.2.2.2.2.2.2.2.2.2.2.2.2.2.2.2.2.2.2.2.2.2.2.2.2.2.2.2.2.2.2.2.2.2.2.2.2.2.2.2.2.2.2.2.2.2.2.2.2.2.2.2.2.2.2.2.2.2.2.2.2.2.2.2.2.2.2.2.2.2.2.2.2.2.2.2.2.2.2.1).trans ?_
          refine (rn_iload_n (pc := 73) (dd bX13_richest dX13_richest_73) rfl).trans ?_
          refine (rg_iaload (pc := 74) (dd bX13_richest dX13_richest_74) s1.2.2.2.2.2.2.2.2.2.2.2.2.2.2.2.2.2.2.2.2.2.2.2.2.2.2.2.2.2.2.2.2.2.2.2.2.2.2.2.2.2.2.2.2.2.2.2.2.2.2.2.2.2.2.2.2.2.2.2.2.2.2.2.2.2.2.2.2.2.2.2.2.2.2.2.2.2.2.2.2.2.2.2.1 s1.2.2.2.2.2.2.2.2.2.2.2.2.2.2.2.2.2.2.2.2.2.2.2.2.2.2.2.2.2.2.2.2.2.2.2.2.2.2.2.2.2.2.2.2.2.2.2.2.2.2.2.2.2.2.2.2.2.2.2.2.2.2.2.2.2.2.2.2.2.2.2.2.2.2.2.2.2.2.2.2.2.2.2.2.1 (p8 c3 c4) (p9 c3 c4) rfl).trans ?_
          refine (rn_aload_n (pc := 75) (dd bX13_richest dX13_richest_75) rfl).trans ?_
          refine (rg_gf (pc := 76) (dd bX13_richest dX13_richest_76) (ci := 14) (j := 10) rfl rfl (key := 1510) rfl (kc := 34) rfl s1.1 s1.2.2.2.2.2.2.2.2.2.2.2.2.2.2.2.2.2.2.2.2.2.2.2.2.2.1).trans ?_
          refine (rn_iload_n (pc := 79) (dd bX13_richest dX13_richest_79) rfl).trans ?_
          refine (rg_iaload (pc := 80) (dd bX13_richest dX13_richest_80) s1.2.2.2.2.2.2.2.2.2.2.2.2.2.2.2.2.2.2.2.2.2.2.2.2.2.2.1 s1.2.2.2.2.2.2.2.2.2.2.2.2.2.2.2.2.2.2.2.2.2.2.2.2.2.2.2.1 (by have z0 := p8 c3 c4; have z1 := p9 c3 c4; omega) (by have z0 := p8 c3 c4; have z1 := p9 c3 c4; omega) rfl).trans ?_
          refine (rg_isub (pc := 81) (dd bX13_richest dX13_richest_81) (p10 c3 c4) (p11 c3 c4)).trans ?_
          have e3 : vrun mX13_richest 82 [(1, 282), (0, x1), (0, x2), (0, (if y0 = 0 ∧ ¬ (h 2 310 x2 ≤ h 2 291 x2) then 1 else 0))] [(0, h 2 310 x1 - h 2 291 x1), (0, h 2 310 x2 - h 2 291 x2)] h = vrun mX13_richest 90 [(1, 282), (0, x1), (0, x2), (0, (if y0 = 0 ∧ ¬ (h 2 310 x2 ≤ h 2 291 x2) then 1 else 0))] [(0, (if h 2 310 x2 - h 2 291 x2 ≤ h 2 310 x1 - h 2 291 x1 then x1 else x2))] h := by
            refine (rn_icmp_le (t := 89) (pc := 82) (dd bX13_richest dX13_richest_82) rfl).trans ?_
            by_cases c5 : h 2 310 x2 - h 2 291 x2 ≤ h 2 310 x1 - h 2 291 x1
            · refine (if_pos c5).trans ?_
              refine (rn_iload_n (pc := 89) (dd bX13_richest dX13_richest_89) rfl).trans ?_
              refine Eq.trans (b := vrun mX13_richest 90 [(1, 282), (0, x1), (0, x2), (0, (if y0 = 0 ∧ ¬ (h 2 310 x2 ≤ h 2 291 x2) then 1 else 0))] [(0, x1)] h) rfl ?_
              simp only [if_pos c5]
            · refine (if_neg c5).trans ?_
              refine (rn_iload_n (pc := 85) (dd bX13_richest dX13_richest_85) rfl).trans ?_
              refine (rn_goto (t := 90) (pc := 86) (dd bX13_richest dX13_richest_86) rfl).trans ?_
              refine Eq.trans (b := vrun mX13_richest 90 [(1, 282), (0, x1), (0, x2), (0, (if y0 = 0 ∧ ¬ (h 2 310 x2 ≤ h 2 291 x2) then 1 else 0))] [(0, x2)] h) rfl ?_
              simp only [if_neg c5]
          refine e3.trans ?_
          refine Eq.trans (b := vrun mX13_richest 90 [(1, 282), (0, x1), (0, x2), (0, (if y0 = 0 ∧ ¬ (h 2 310 x2 ≤ h 2 291 x2) then 1 else 0))] [(0, (if h 2 310 x2 - h 2 291 x2 ≤ h 2 310 x1 - h 2 291 x1 then x1 else x2))] h) rfl ?_
          simp only [if_neg c4]
      refine e4.trans ?_
      refine Eq.trans (b := vrun mX13_richest 90 [(1, 282), (0, x1), (0, x2), (0, (if y0 = 0 ∧ ¬ (h 2 310 x2 ≤ h 2 291 x2) then 1 else 0))] [(0, (if x1 = (-1) then x2 else (if h 2 310 x2 - h 2 291 x2 ≤ h 2 310 x1 - h 2 291 x1 then x1 else x2)))] h) rfl ?_
      simp only [if_pos c3]
    · refine (if_neg c3).trans ?_
      refine (rn_iload_n (pc := 89) (dd bX13_richest dX13_richest_89) rfl).trans ?_
      refine Eq.trans (b := vrun mX13_richest 90 [(1, 282), (0, x1), (0, x2), (0, (if y0 = 0 ∧ ¬ (h 2 310 x2 ≤ h 2 291 x2) then 1 else 0))] [(0, x1)] h) rfl ?_
      simp only [if_neg c3]
  refine e5.trans ?_
  refine (rn_istore_n (pc := 90) (dd bX13_richest dX13_richest_90) (Nat.le_of_ble_eq_true rfl) rfl).trans ?_
  refine (rg_iinc (pc := 91) (dd bX13_richest dX13_richest_91) rfl (Nat.le_of_ble_eq_true rfl) p12 p13 rfl).trans ?_
  refine (rn_goto (t := 4) (pc := 94) (dd bX13_richest dX13_richest_94) rfl).trans ?_
  rfl
theorem bX13_shares : vmB mX13_shares = cX13_shares := rfl
theorem rX13_shares_0 {h : vH} : vrun mX13_shares 0 [(1, 282), (9, 0), (9, 0), (9, 0), (9, 0), (9, 0)] [] h = vrun mX13_shares 7 [(1, 282), (0, 24), (0, 0), (0, 0), (9, 0), (9, 0)] [] h := by
  refine (rn_bipush (pc := 0) (dd bX13_shares dX13_shares_0) (by decide)).trans ?_
  refine (rn_istore_n (pc := 2) (dd bX13_shares dX13_shares_2) (Nat.le_of_ble_eq_true rfl) rfl).trans ?_
  refine (rn_iconst (pc := 3) (dd bX13_shares dX13_shares_3) (by decide)).trans ?_
  refine (rn_istore_n (pc := 4) (dd bX13_shares dX13_shares_4) (Nat.le_of_ble_eq_true rfl) rfl).trans ?_
  refine (rn_iconst (pc := 5) (dd bX13_shares dX13_shares_5) (by decide)).trans ?_
  refine (rn_istore_n (pc := 6) (dd bX13_shares dX13_shares_6) (Nat.le_of_ble_eq_true rfl) rfl).trans ?_
  rfl
theorem rX13_shares_7 {x1 : Int} {x2 : Int} {x3 : Int} {h : vH} (s1 : shModel h) (p2 : ¬ (4 ≤ x3) → 0 ≤ x3) (p3 : ¬ (4 ≤ x3) → h 2 289 x3 = 0 → (-2147483648) ≤ x1 - (vup h 2 310 x3 0) 2 310 x3) (p4 : ¬ (4 ≤ x3) → h 2 289 x3 = 0 → x1 - (vup h 2 310 x3 0) 2 310 x3 < 2147483648) (p5 : ¬ (4 ≤ x3) → h 2 289 x3 = 0 → h 2 289 x3 = 0 → (-2147483648) ≤ x2 + 0) (p6 : ¬ (4 ≤ x3) → h 2 289 x3 = 0 → h 2 289 x3 = 0 → x2 + 0 < 2147483648) : vrun mX13_shares 7 [(1, 282), (0, x1), (0, x2), (0, x3), (9, 0), (9, 0)] [] h = if 4 ≤ x3 then vrun mX13_shares 101 [(1, 282), (0, (if x1 ≤ 0 then 0 else x1)), (0, x2), (0, (if x1 ≤ 0 then 0 else x1)), (0, 0), (9, 0)] [] h else if h 2 289 x3 = 0 then if h 2 289 x3 = 0 then vrun mX13_shares 7 [(1, 282), (0, x1 - (vup h 2 310 x3 0) 2 310 x3), (0, x2 + 0), (0, x3 + 1), (9, 0), (9, 0)] [] (vup h 2 310 x3 0) else vret vrun mX13_shares 66 [(1, 282), (0, x1 - (vup h 2 310 x3 0) 2 310 x3), (0, x2), (0, x3), (9, 0), (9, 0)] [(0, x2)] (vcl mX13_isLocked [(1, 282), (0, x3)] (vup h 2 310 x3 0)) else vret vrun mX13_shares 28 [(1, 282), (0, x1), (0, x2), (0, x3), (9, 0), (9, 0)] [(0, x3), (1, 310)] (vcl mX13_isLocked [(1, 282), (0, x3)] h) := by
  refine (rn_iload_n (pc := 7) (dd bX13_shares dX13_shares_7) rfl).trans ?_
  refine (rn_iconst (pc := 8) (dd bX13_shares dX13_shares_8) (by decide)).trans ?_
  refine (rn_icmp_ge (t := 90) (pc := 9) (dd bX13_shares dX13_shares_9) rfl).trans (itec (fun c1 => ?_) (fun c1 => ?_))
  · refine (rn_iload_n (pc := 90) (dd bX13_shares dX13_shares_90) rfl).trans ?_
    refine (rn_iconst (pc := 91) (dd bX13_shares dX13_shares_91) (by decide)).trans ?_
    refine (rg_static (pc := 92) (dd bX13_shares dX13_shares_92) rfl (by decide) (Nat.le_of_ble_eq_true rfl) (as := [(0, x1), (0, 0)]) rfl rfl ⟨Nat.le_of_ble_eq_true rfl, Nat.le_of_ble_eq_true rfl, Nat.le_of_ble_eq_true rfl, Nat.le_of_ble_eq_true rfl⟩).trans ?_
    refine (vret_v spX13_greater).trans ?_
    refine (rn_istore_n (pc := 95) (dd bX13_shares dX13_shares_95) (Nat.le_of_ble_eq_true rfl) rfl).trans ?_
    refine (rn_iload_n (pc := 96) (dd bX13_shares dX13_shares_96) rfl).trans ?_
    refine (rn_istore_n (pc := 97) (dd bX13_shares dX13_shares_97) (Nat.le_of_ble_eq_true rfl) rfl).trans ?_
    refine (rn_iconst (pc := 98) (dd bX13_shares dX13_shares_98) (by decide)).trans ?_
    refine (rn_istore (pc := 99) (dd bX13_shares dX13_shares_99) (Nat.le_of_ble_eq_true rfl) rfl).trans ?_
    rfl
  · refine (rn_aload_n (pc := 12) (dd bX13_shares dX13_shares_12) rfl).trans ?_
    refine (rg_gf (pc := 13) (dd bX13_shares dX13_shares_13) (ci := 14) (j := 29) rfl rfl (key := 1529) rfl (kc := 34) rfl s1.1 s1.2.2.2.2.2.2.2.2.2.2.2.2.2.2.2.2.2.2.2.2.2.2.2.2.2.2.2.2.2.2.2.2.2.2.2.2.2.2.2.2.2.2.2.2.2.2.2.2.2.2.2.2.2.2.2.2.2.2.2.2.2.2.2.2.2.2.2.2.2.2.2.2.2.2.2.2.2.2.2.2.2.2.1).trans ?_
    refine (rn_iload_n (pc := 16) (dd bX13_shares dX13_shares_16) rfl).trans ?_
    refine (rn_aload_n (pc := 17) (dd bX13_shares dX13_shares_17) rfl).trans ?_
    refine (rg_gf (pc := 18) (dd bX13_shares dX13_shares_18) (ci := 14) (j := 8) rfl rfl (key := 1508) rfl (kc := 34) rfl s1.1 s1.2.2.2.2.2.2.2.2.2.2.2.2.2.2.2.2.2.2.2.1).trans ?_
    refine (rn_iload_n (pc := 21) (dd bX13_shares dX13_shares_21) rfl).trans ?_
    refine (rg_baload (pc := 22) (dd bX13_shares dX13_shares_22) s1.2.2.2.2.2.2.2.2.2.2.2.2.2.2.2.2.2.2.2.2.1 s1.2.2.2.2.2.2.2.2.2.2.2.2.2.2.2.2.2.2.2.2.2.1 (p2 c1) (Int.not_le.mp c1) rfl).trans ?_
    refine (rn_if_eq (t := 43) (pc := 23) (dd bX13_shares dX13_shares_23) rfl).trans (itec (fun c2 => ?_) (fun c2 => ?_))
    · refine (rn_iconst (pc := 43) (dd bX13_shares dX13_shares_43) (by decide)).trans ?_
      refine (rg_iastore (pc := 44) (dd bX13_shares dX13_shares_44) s1.2.2.2.2.2.2.2.2.2.2.2.2.2.2.2.2.2.2.2.2.2.2.2.2.2.2.2.2.2.2.2.2.2.2.2.2.2.2.2.2.2.2.2.2.2.2.2.2.2.2.2.2.2.2.2.2.2.2.2.2.2.2.2.2.2.2.2.2.2.2.2.2.2.2.2.2.2.2.2.2.2.2.2.1 s1.2.2.2.2.2.2.2.2.2.2.2.2.2.2.2.2.2.2.2.2.2.2.2.2.2.2.2.2.2.2.2.2.2.2.2.2.2.2.2.2.2.2.2.2.2.2.2.2.2.2.2.2.2.2.2.2.2.2.2.2.2.2.2.2.2.2.2.2.2.2.2.2.2.2.2.2.2.2.2.2.2.2.2.2.1 (by have z0 := p2 c1; omega) (Int.not_le.mp c1)).trans ?_
      refine (rn_iload_n (pc := 45) (dd bX13_shares dX13_shares_45) rfl).trans ?_
      refine (rn_aload_n (pc := 46) (dd bX13_shares dX13_shares_46) rfl).trans ?_
      refine (rg_gf (pc := 47) (dd bX13_shares dX13_shares_47) (ci := 14) (j := 29) rfl rfl (key := 1529) rfl (kc := 34) rfl ((vup_k (by decide)).trans s1.1) ((vup_k (by decide)).trans s1.2.2.2.2.2.2.2.2.2.2.2.2.2.2.2.2.2.2.2.2.2.2.2.2.2.2.2.2.2.2.2.2.2.2.2.2.2.2.2.2.2.2.2.2.2.2.2.2.2.2.2.2.2.2.2.2.2.2.2.2.2.2.2.2.2.2.2.2.2.2.2.2.2.2.2.2.2.2.2.2.2.2.1)).trans ?_
      refine (rn_iload_n (pc := 50) (dd bX13_shares dX13_shares_50) rfl).trans ?_
      refine (rg_iaload (pc := 51) (dd bX13_shares dX13_shares_51) ((vup_k (by decide)).trans s1.2.2.2.2.2.2.2.2.2.2.2.2.2.2.2.2.2.2.2.2.2.2.2.2.2.2.2.2.2.2.2.2.2.2.2.2.2.2.2.2.2.2.2.2.2.2.2.2.2.2.2.2.2.2.2.2.2.2.2.2.2.2.2.2.2.2.2.2.2.2.2.2.2.2.2.2.2.2.2.2.2.2.2.1) ((vup_k (by decide)).trans s1.2.2.2.2.2.2.2.2.2.2.2.2.2.2.2.2.2.2.2.2.2.2.2.2.2.2.2.2.2.2.2.2.2.2.2.2.2.2.2.2.2.2.2.2.2.2.2.2.2.2.2.2.2.2.2.2.2.2.2.2.2.2.2.2.2.2.2.2.2.2.2.2.2.2.2.2.2.2.2.2.2.2.2.2.1) (by have z0 := p2 c1; omega) (Int.not_le.mp c1) rfl).trans ?_
      refine (rg_isub (pc := 52) (dd bX13_shares dX13_shares_52) (p3 c1 c2) (p4 c1 c2)).trans ?_
      refine (rn_istore_n (pc := 53) (dd bX13_shares dX13_shares_53) (Nat.le_of_ble_eq_true rfl) rfl).trans ?_
      refine (rn_iload_n (pc := 54) (dd bX13_shares dX13_shares_54) rfl).trans ?_
      refine (rn_aload_n (pc := 55) (dd bX13_shares dX13_shares_55) rfl).trans ?_
      refine (rg_gf (pc := 56) (dd bX13_shares dX13_shares_56) (ci := 14) (j := 8) rfl rfl (key := 1508) rfl (kc := 34) rfl ((vup_k (by decide)).trans s1.1) ((vup_k (by decide)).trans s1.2.2.2.2.2.2.2.2.2.2.2.2.2.2.2.2.2.2.2.1)).trans ?_
      refine (rn_iload_n (pc := 59) (dd bX13_shares dX13_shares_59) rfl).trans ?_
      refine (rg_baload (pc := 60) (dd bX13_shares dX13_shares_60) ((vup_k (by decide)).trans s1.2.2.2.2.2.2.2.2.2.2.2.2.2.2.2.2.2.2.2.2.1) ((vup_k (by decide)).trans s1.2.2.2.2.2.2.2.2.2.2.2.2.2.2.2.2.2.2.2.2.2.1) (by have z0 := p2 c1; omega) (Int.not_le.mp c1) ((vup_r (by omega)).trans rfl)).trans ?_
      refine (rn_if_eq (t := 81) (pc := 61) (dd bX13_shares dX13_shares_61) rfl).trans (itec (fun c3 => ?_) (fun c3 => ?_))
      · refine (rn_iconst (pc := 81) (dd bX13_shares dX13_shares_81) (by decide)).trans ?_
        refine (rg_iadd (pc := 82) (dd bX13_shares dX13_shares_82) (p5 c1 c2 c3) (p6 c1 c2 c3)).trans ?_
        refine (rn_istore_n (pc := 83) (dd bX13_shares dX13_shares_83) (Nat.le_of_ble_eq_true rfl) rfl).trans ?_
        refine (rg_iinc (pc := 84) (dd bX13_shares dX13_shares_84) rfl (Nat.le_of_ble_eq_true rfl) (by have z0 := p2 c1; omega) (by have z0 := p2 c1; omega) rfl).trans ?_
        refine (rn_goto (t := 7) (pc := 87) (dd bX13_shares dX13_shares_87) rfl).trans ?_
        rfl
      · refine (rn_aload_n (pc := 64) (dd bX13_shares dX13_shares_64) rfl).trans ?_
        refine (rn_iload_n (pc := 65) (dd bX13_shares dX13_shares_65) rfl).trans ?_
        exact rg_virtual (pc := 66) (dd bX13_shares dX13_shares_66) rfl rfl (by decide) (kc := 34) rfl ((vup_k (by decide)).trans s1.1) (as := [(1, 282), (0, x3)]) rfl ⟨Nat.le_of_ble_eq_true rfl, Nat.le_of_ble_eq_true rfl, Nat.le_of_ble_eq_true rfl, Nat.le_of_ble_eq_true rfl⟩
    · refine (rn_aload_n (pc := 26) (dd bX13_shares dX13_shares_26) rfl).trans ?_
      refine (rn_iload_n (pc := 27) (dd bX13_shares dX13_shares_27) rfl).trans ?_
      exact rg_virtual (pc := 28) (dd bX13_shares dX13_shares_28) rfl rfl (by decide) (kc := 34) rfl s1.1 (as := [(1, 282), (0, x3)]) rfl ⟨Nat.le_of_ble_eq_true rfl, Nat.le_of_ble_eq_true rfl, Nat.le_of_ble_eq_true rfl, Nat.le_of_ble_eq_true rfl⟩
theorem rX13_shares_101 {x1 : Int} {x2 : Int} {x3 : Int} {x4 : Int} {h : vH} (s1 : shModel h) (p2 : ¬ (4 ≤ x4) → 0 ≤ x4) : vrun mX13_shares 101 [(1, 282), (0, x1), (0, x2), (0, x3), (0, x4), (9, 0)] [] h = if 4 ≤ x4 then vrun mX13_shares 163 [(1, 282), (0, x1), (0, x2), (0, x3), (0, 0), (9, 0)] [] h else if h 2 289 x4 = 0 then vrun mX13_shares 101 [(1, 282), (0, x1), (0, x2), (0, x3), (0, x4 + 1), (9, 0)] [] h else vret vrun mX13_shares 120 [(1, 282), (0, x1), (0, x2), (0, x3), (0, x4), (9, 0)] [] (vcl mX13_isLocked [(1, 282), (0, x4)] h) := by
  refine (rn_iload (pc := 101) (dd bX13_shares dX13_shares_101) rfl).trans ?_
  refine (rn_iconst (pc := 103) (dd bX13_shares dX13_shares_103) (by decide)).trans ?_
  refine (rn_icmp_ge (t := 160) (pc := 104) (dd bX13_shares dX13_shares_104) rfl).trans (itec (fun c1 => ?_) (fun c1 => ?_))
  · refine (rn_iconst (pc := 160) (dd bX13_shares dX13_shares_160) (by decide)).trans ?_
    refine (rn_istore (pc := 161) (dd bX13_shares dX13_shares_161) (Nat.le_of_ble_eq_true rfl) rfl).trans ?_
    rfl
  · refine (rn_aload_n (pc := 107) (dd bX13_shares dX13_shares_107) rfl).trans ?_
    refine (rg_gf (pc := 108) (dd bX13_shares dX13_shares_108) (ci := 14) (j := 8) rfl rfl (key := 1508) rfl (kc := 34) rfl s1.1 s1.2.2.2.2.2.2.2.2.2.2.2.2.2.2.2.2.2.2.2.1).trans ?_
    refine (rn_iload (pc := 111) (dd bX13_shares dX13_shares_111) rfl).trans ?_
    refine (rg_baload (pc := 113) (dd bX13_shares dX13_shares_113) s1.2.2.2.2.2.2.2.2.2.2.2.2.2.2.2.2.2.2.2.2.1 s1.2.2.2.2.2.2.2.2.2.2.2.2.2.2.2.2.2.2.2.2.2.1 (p2 c1) (Int.not_le.mp c1) rfl).trans ?_
    refine (rn_if_eq (t := 154) (pc := 114) (dd bX13_shares dX13_shares_114) rfl).trans (itec (fun c2 => ?_) (fun c2 => ?_))
    · refine (rg_iinc (pc := 154) (dd bX13_shares dX13_shares_154) rfl (Nat.le_of_ble_eq_true rfl) (by have z0 := p2 c1; omega) (by have z0 := p2 c1; omega) rfl).trans ?_
      refine (rn_goto (t := 101) (pc := 157) (dd bX13_shares dX13_shares_157) rfl).trans ?_
      rfl
    · refine (rn_aload_n (pc := 117) (dd bX13_shares dX13_shares_117) rfl).trans ?_
      refine (rn_iload (pc := 118) (dd bX13_shares dX13_shares_118) rfl).trans ?_
      exact rg_virtual (pc := 120) (dd bX13_shares dX13_shares_120) rfl rfl (by decide) (kc := 34) rfl s1.1 (as := [(1, 282), (0, x4)]) rfl ⟨Nat.le_of_ble_eq_true rfl, Nat.le_of_ble_eq_true rfl, Nat.le_of_ble_eq_true rfl, Nat.le_of_ble_eq_true rfl⟩
theorem rX13_shares_69 {x1 : Int} {x2 : Int} {x3 : Int} {y0 : Int} {y1 : Int} {h : vH} (s1 : shModel h) (p2 : y0 = 0 → 0 ≤ x3) (p3 : y0 = 0 → x3 < 4) (p4 : (-2147483648) ≤ y1 + (if y0 = 0 then h 2 290 x3 else 0)) (p5 : y1 + (if y0 = 0 then h 2 290 x3 else 0) < 2147483648) (p6 : (-2147483648) ≤ x3 + 1) (p7 : x3 + 1 < 2147483648) : vrun mX13_shares 69 [(1, 282), (0, x1), (0, x2), (0, x3), (9, 0), (9, 0)] [(0, y0), (0, y1)] h = vrun mX13_shares 7 [(1, 282), (0, x1), (0, y1 + (if y0 = 0 then h 2 290 x3 else 0)), (0, x3 + 1), (9, 0), (9, 0)] [] h := by
  have e1 : vrun mX13_shares 69 [(1, 282), (0, x1), (0, x2), (0, x3), (9, 0), (9, 0)] [(0, y0), (0, y1)] h = vrun mX13_shares 82 [(1, 282), (0, x1), (0, x2), (0, x3), (9, 0), (9, 0)] [(0, (if y0 = 0 then h 2 290 x3 else 0)), (0, y1)] h := by
    refine (rg_if_ne (t := 81) (pc := 69) (dd bX13_shares dX13_shares_69) rfl).trans ?_
    by_cases c1 : y0 = 0
    · refine (if_pos c1).trans ?_
      refine (rn_aload_n (pc := 72) (dd bX13_shares dX13_shares_72) rfl).trans ?_
      refine (rg_gf (pc := 73) (dd bX13_shares dX13_shares_73) (ci := 14) (j := 9) rfl rfl (key := 1509) rfl (kc := 34) rfl s1.1 s1.2.2.2.2.2.2.2.2.2.2.2.2.2.2.2.2.2.2.2.2.2.2.1).trans ?_
      refine (rn_iload_n (pc := 76) (dd bX13_shares dX13_shares_76) rfl).trans ?_
      refine (rg_iaload (pc := 77) (dd bX13_shares dX13_shares_77) s1.2.2.2.2.2.2.2.2.2.2.2.2.2.2.2.2.2.2.2.2.2.2.2.1 s1.2.2.2.2.2.2.2.2.2.2.2.2.2.2.2.2.2.2.2.2.2.2.2.2.1 (p2 c1) (p3 c1) rfl).trans ?_
      refine (rn_goto (t := 82) (pc := 78) (dd bX13_shares dX13_shares_78) rfl).trans ?_
      refine Eq.trans (b := vrun mX13_shares 82 [(1, 282), (0, x1), (0, x2), (0, x3), (9, 0), (9, 0)] [(0, h 2 290 x3), (0, y1)] h) rfl ?_
      simp only [if_pos c1]
    · refine (if_neg c1).trans ?_
      refine (rn_iconst (pc := 81) (dd bX13_shares dX13_shares_81) (by decide)).trans ?_
      refine Eq.trans (b := vrun mX13_shares 82 [(1, 282), (0, x1), (0, x2), (0, x3), (9, 0), (9, 0)] [(0, 0), (0, y1)] h) rfl ?_
      simp only [if_neg c1]
  refine e1.trans ?_
  refine (rg_iadd (pc := 82) (dd bX13_shares dX13_shares_82) p4 p5).trans ?_
  refine (rn_istore_n (pc := 83) (dd bX13_shares dX13_shares_83) (Nat.le_of_ble_eq_true rfl) rfl).trans ?_
  refine (rg_iinc (pc := 84) (dd bX13_shares dX13_shares_84) rfl (Nat.le_of_ble_eq_true rfl) p6 p7 rfl).trans ?_
  refine (rn_goto (t := 7) (pc := 87) (dd bX13_shares dX13_shares_87) rfl).trans ?_
  rfl
theorem rX13_shares_31 {x1 : Int} {x2 : Int} {x3 : Int} {y0 : Int} {y1 : Int} {y2 : Int} {h : vH} (s1 : shModel h) (p2 : ¬ (y0 = 0) → 0 ≤ x3) (p3 : ¬ (y0 = 0) → x3 < 4) (p4 : h 0 y2 0 = 1) (p5 : 0 ≤ y1) (p6 : y1 < h 1 y2 0) (p7 : 0 ≤ x3) (p8 : x3 < 4) (p9 : (-2147483648) ≤ x1 - (vup h 2 y2 y1 (if y0 = 0 then 0 else h 2 292 x3)) 2 310 x3) (p10 : x1 - (vup h 2 y2 y1 (if y0 = 0 then 0 else h 2 292 x3)) 2 310 x3 < 2147483648) (p11 : (vup h 2 y2 y1 (if y0 = 0 then 0 else h 2 292 x3)) 2 289 x3 = 0 → (-2147483648) ≤ x2 + 0) (p12 : (vup h 2 y2 y1 (if y0 = 0 then 0 else h 2 292 x3)) 2 289 x3 = 0 → x2 + 0 < 2147483648) : vrun mX13_shares 31 [(1, 282), (0, x1), (0, x2), (0, x3), (9, 0), (9, 0)] [(0, y0), (0, y1), (1, y2)] h = if (vup h 2 y2 y1 (if y0 = 0 then 0 else h 2 292 x3)) 2 289 x3 = 0 then vrun mX13_shares 7 [(1, 282), (0, x1 - (vup h 2 y2 y1 (if y0 = 0 then 0 else h 2 292 x3)) 2 310 x3), (0, x2 + 0), (0, x3 + 1), (9, 0), (9, 0)] [] (vup h 2 y2 y1 (if y0 = 0 then 0 else h 2 292 x3)) else vret vrun mX13_shares 66 [(1, 282), (0, x1 - (vup h 2 y2 y1 (if y0 = 0 then 0 else h 2 292 x3)) 2 310 x3), (0, x2), (0, x3), (9, 0), (9, 0)] [(0, x2)] (vcl mX13_isLocked [(1, 282), (0, x3)] (vup h 2 y2 y1 (if y0 = 0 then 0 else h 2 292 x3))) := by
  have e1 : vrun mX13_shares 31 [(1, 282), (0, x1), (0, x2), (0, x3), (9, 0), (9, 0)] [(0, y0), (0, y1), (1, y2)] h = vrun mX13_shares 44 [(1, 282), (0, x1), (0, x2), (0, x3), (9, 0), (9, 0)] [(0, (if y0 = 0 then 0 else h 2 292 x3)), (0, y1), (1, y2)] h := by
    refine (rn_if_eq (t := 43) (pc := 31) (dd bX13_shares dX13_shares_31) rfl).trans ?_
    by_cases c1 : y0 = 0
    · refine (if_pos c1).trans ?_
      refine (rn_iconst (pc := 43) (dd bX13_shares dX13_shares_43) (by decide)).trans ?_
      refine Eq.trans (b := vrun mX13_shares 44 [(1, 282), (0, x1), (0, x2), (0, x3), (9, 0), (9, 0)] [(0, 0), (0, y1), (1, y2)] h) rfl ?_
      simp only [if_pos c1]
    · refine (if_neg c1).trans ?_
      refine (rn_aload_n (pc := 34) (dd bX13_shares dX13_shares_34) rfl).trans ?_
      refine (rg_gf (pc := 35) (dd bX13_shares dX13_shares_35) (ci := 14) (j := 11) rfl rfl (key := 1511) rfl (kc := 34) rfl s1.1 s1.2.2.2.2.2.2.2.2.2.2.2.2.2.2.2.2.2.2.2.2.2.2.2.2.2.2.2.2.1).trans ?_
      refine (rn_iload_n (pc := 38) (dd bX13_shares dX13_shares_38) rfl).trans ?_
      refine (rg_iaload (pc := 39) (dd bX13_shares dX13_shares_39) s1.2.2.2.2.2.2.2.2.2.2.2.2.2.2.2.2.2.2.2.2.2.2.2.2.2.2.2.2.2.1 s1.2.2.2.2.2.2.2.2.2.2.2.2.2.2.2.2.2.2.2.2.2.2.2.2.2.2.2.2.2.2.1 (p2 c1) (p3 c1) rfl).trans ?_
      refine (rn_goto (t := 44) (pc := 40) (dd bX13_shares dX13_shares_40) rfl).trans ?_
      refine Eq.trans (b := vrun mX13_shares 44 [(1, 282), (0, x1), (0, x2), (0, x3), (9, 0), (9, 0)] [(0, h 2 292 x3), (0, y1), (1, y2)] h) rfl ?_
      simp only [if_neg c1]
  refine e1.trans ?_
  refine (rg_iastore (pc := 44) (dd bX13_shares dX13_shares_44) p4 rfl p5 p6).trans ?_
  refine (rn_iload_n (pc := 45) (dd bX13_shares dX13_shares_45) rfl).trans ?_
  refine (rn_aload_n (pc := 46) (dd bX13_shares dX13_shares_46) rfl).trans ?_
  refine (rg_gf (pc := 47) (dd bX13_shares dX13_shares_47) (ci := 14) (j := 29) rfl rfl (key := 1529) rfl (kc := 34) rfl ((vup_k (by decide)).trans s1.1) ((vup_k (by decide)).trans s1.2.2.2.2.2.2.2.2.2.2.2.2.2.2.2.2.2.2.2.2.2.2.2.2.2.2.2.2.2.2.2.2.2.2.2.2.2.2.2.2.2.2.2.2.2.2.2.2.2.2.2.2.2.2.2.2.2.2.2.2.2.2.2.2.2.2.2.2.2.2.2.2.2.2.2.2.2.2.2.2.2.2.1)).trans ?_
  refine (rn_iload_n (pc := 50) (dd bX13_shares dX13_shares_50) rfl).trans ?_
  refine (rg_iaload (pc := 51) (dd bX13_shares dX13_shares_51) ((vup_k (by decide)).trans s1.2.2.2.2.2.2.2.2.2.2.2.2.2.2.2.2.2.2.2.2.2.2.2.2.2.2.2.2.2.2.2.2.2.2.2.2.2.2.2.2.2.2.2.2.2.2.2.2.2.2.2.2.2.2.2.2.2.2.2.2.2.2.2.2.2.2.2.2.2.2.2.2.2.2.2.2.2.2.2.2.2.2.2.1) ((vup_k (by decide)).trans s1.2.2.2.2.2.2.2.2.2.2.2.2.2.2.2.2.2.2.2.2.2.2.2.2.2.2.2.2.2.2.2.2.2.2.2.2.2.2.2.2.2.2.2.2.2.2.2.2.2.2.2.2.2.2.2.2.2.2.2.2.2.2.2.2.2.2.2.2.2.2.2.2.2.2.2.2.2.2.2.2.2.2.2.2.1) p7 p8 rfl).trans ?_
  refine (rg_isub (pc := 52) (dd bX13_shares dX13_shares_52) p9 p10).trans ?_
  refine (rn_istore_n (pc := 53) (dd bX13_shares dX13_shares_53) (Nat.le_of_ble_eq_true rfl) rfl).trans ?_
  refine (rn_iload_n (pc := 54) (dd bX13_shares dX13_shares_54) rfl).trans ?_
  refine (rn_aload_n (pc := 55) (dd bX13_shares dX13_shares_55) rfl).trans ?_
  refine (rg_gf (pc := 56) (dd bX13_shares dX13_shares_56) (ci := 14) (j := 8) rfl rfl (key := 1508) rfl (kc := 34) rfl ((vup_k (by decide)).trans s1.1) ((vup_k (by decide)).trans s1.2.2.2.2.2.2.2.2.2.2.2.2.2.2.2.2.2.2.2.1)).trans ?_
  refine (rn_iload_n (pc := 59) (dd bX13_shares dX13_shares_59) rfl).trans ?_
  refine (rg_baload (pc := 60) (dd bX13_shares dX13_shares_60) ((vup_k (by decide)).trans s1.2.2.2.2.2.2.2.2.2.2.2.2.2.2.2.2.2.2.2.2.1) ((vup_k (by decide)).trans s1.2.2.2.2.2.2.2.2.2.2.2.2.2.2.2.2.2.2.2.2.2.1) (by omega) (by omega) rfl).trans ?_
  refine (rn_if_eq (t := 81) (pc := 61) (dd bX13_shares dX13_shares_61) rfl).trans (itec (fun c2 => ?_) (fun c2 => ?_))
  · refine (rn_iconst (pc := 81) (dd bX13_shares dX13_shares_81) (by decide)).trans ?_
    refine (rg_iadd (pc := 82) (dd bX13_shares dX13_shares_82) (p11 c2) (p12 c2)).trans ?_
    refine (rn_istore_n (pc := 83) (dd bX13_shares dX13_shares_83) (Nat.le_of_ble_eq_true rfl) rfl).trans ?_
    refine (rg_iinc (pc := 84) (dd bX13_shares dX13_shares_84) rfl (Nat.le_of_ble_eq_true rfl) (by omega) (by omega) rfl).trans ?_
    refine (rn_goto (t := 7) (pc := 87) (dd bX13_shares dX13_shares_87) rfl).trans ?_
    rfl
  · refine (rn_aload_n (pc := 64) (dd bX13_shares dX13_shares_64) rfl).trans ?_
    refine (rn_iload_n (pc := 65) (dd bX13_shares dX13_shares_65) rfl).trans ?_
    exact rg_virtual (pc := 66) (dd bX13_shares dX13_shares_66) rfl rfl (by decide) (kc := 34) rfl ((vup_k (by decide)).trans s1.1) (as := [(1, 282), (0, x3)]) rfl ⟨Nat.le_of_ble_eq_true rfl, Nat.le_of_ble_eq_true rfl, Nat.le_of_ble_eq_true rfl, Nat.le_of_ble_eq_true rfl⟩
theorem rX13_shares_163 {x1 : Int} {x2 : Int} {x3 : Int} {x4 : Int} {v5 : vv} {h : vH} (s1 : shModel h) (p2 : ¬ (4 ≤ x4) → 0 ≤ x4) (p3 : ¬ (4 ≤ x4) → h 2 289 x4 = 0 → (-2147483648) ≤ h 2 310 x4 + 0) (p4 : ¬ (4 ≤ x4) → h 2 289 x4 = 0 → h 2 310 x4 + 0 < 2147483648) (p5 : ¬ (4 ≤ x4) → h 2 289 x4 = 0 → (-2147483648) ≤ x3 - 0) (p6 : ¬ (4 ≤ x4) → h 2 289 x4 = 0 → x3 - 0 < 2147483648) : vrun mX13_shares 163 [(1, 282), (0, x1), (0, x2), (0, x3), (0, x4), v5] [] h = if 4 ≤ x4 then vrun mX13_shares 238 [(1, 282), (0, x1), (0, x2), (0, x3), (0, x4), v5] [] h else if h 2 289 x4 = 0 then vrun mX13_shares 163 [(1, 282), (0, x1), (0, x2), (0, x3 - 0), (0, x4 + 1), (0, 0)] [] (vup h 2 310 x4 (h 2 310 x4 + 0)) else vret vrun mX13_shares 182 [(1, 282), (0, x1), (0, x2), (0, x3), (0, x4), v5] [] (vcl mX13_isLocked [(1, 282), (0, x4)] h) := by
  refine (rn_iload (pc := 163) (dd bX13_shares dX13_shares_163) rfl).trans ?_
  refine (rn_iconst (pc := 165) (dd bX13_shares dX13_shares_165) (by decide)).trans ?_
  refine (rn_icmp_ge (t := 238) (pc := 166) (dd bX13_shares dX13_shares_166) rfl).trans (itec (fun c1 => ?_) (fun c1 => ?_))
  · rfl
  · refine (rn_aload_n (pc := 169) (dd bX13_shares dX13_shares_169) rfl).trans ?_
    refine (rg_gf (pc := 170) (dd bX13_shares dX13_shares_170) (ci := 14) (j := 8) rfl rfl (key := 1508) rfl (kc := 34) rfl s1.1 s1.2.2.2.2.2.2.2.2.2.2.2.2.2.2.2.2.2.2.2.1).trans ?_
    refine (rn_iload (pc := 173) (dd bX13_shares dX13_shares_173) rfl).trans ?_
    refine (rg_baload (pc := 175) (dd bX13_shares dX13_shares_175) s1.2.2.2.2.2.2.2.2.2.2.2.2.2.2.2.2.2.2.2.2.1 s1.2.2.2.2.2.2.2.2.2.2.2.2.2.2.2.2.2.2.2.2.2.1 (p2 c1) (Int.not_le.mp c1) rfl).trans ?_
    refine (rn_if_eq (t := 196) (pc := 176) (dd bX13_shares dX13_shares_176) rfl).trans (itec (fun c2 => ?_) (fun c2 => ?_))
    · refine (rn_iconst (pc := 196) (dd bX13_shares dX13_shares_196) (by decide)).trans ?_
      refine (rn_istore (pc := 197) (dd bX13_shares dX13_shares_197) (Nat.le_of_ble_eq_true rfl) rfl).trans ?_
      refine (rn_aload_n (pc := 199) (dd bX13_shares dX13_shares_199) rfl).trans ?_
      refine (rg_gf (pc := 200) (dd bX13_shares dX13_shares_200) (ci := 14) (j := 29) rfl rfl (key := 1529) rfl (kc := 34) rfl s1.1 s1.2.2.2.2.2.2.2.2.2.2.2.2.2.2.2.2.2.2.2.2.2.2.2.2.2.2.2.2.2.2.2.2.2.2.2.2.2.2.2.2.2.2.2.2.2.2.2.2.2.2.2.2.2.2.2.2.2.2.2.2.2.2.2.2.2.2.2.2.2.2.2.2.2.2.2.2.2.2.2.2.2.2.1).trans ?_
      refine (rn_iload (pc := 203) (dd bX13_shares dX13_shares_203) rfl).trans ?_
      refine (rn_dup2 (pc := 205) (dd bX13_shares dX13_shares_205) (by decide)).trans ?_
      refine (rg_iaload (pc := 206) (dd bX13_shares dX13_shares_206) s1.2.2.2.2.2.2.2.2.2.2.2.2.2.2.2.2.2.2.2.2.2.2.2.2.2.2.2.2.2.2.2.2.2.2.2.2.2.2.2.2.2.2.2.2.2.2.2.2.2.2.2.2.2.2.2.2.2.2.2.2.2.2.2.2.2.2.2.2.2.2.2.2.2.2.2.2.2.2.2.2.2.2.2.1 s1.2.2.2.2.2.2.2.2.2.2.2.2.2.2.2.2.2.2.2.2.2.2.2.2.2.2.2.2.2.2.2.2.2.2.2.2.2.2.2.2.2.2.2.2.2.2.2.2.2.2.2.2.2.2.2.2.2.2.2.2.2.2.2.2.2.2.2.2.2.2.2.2.2.2.2.2.2.2.2.2.2.2.2.2.1 (by have z0 := p2 c1; omega) (Int.not_le.mp c1) rfl).trans ?_
      refine (rn_iload (pc := 207) (dd bX13_shares dX13_shares_207) rfl).trans ?_
      refine (rn_if_eq (t := 216) (pc := 209) (dd bX13_shares dX13_shares_209) rfl).trans ((if_pos (by decide)).trans ?_)
      refine (rn_iconst (pc := 216) (dd bX13_shares dX13_shares_216) (by decide)).trans ?_
      refine (rg_iadd (pc := 217) (dd bX13_shares dX13_shares_217) (p3 c1 c2) (p4 c1 c2)).trans ?_
      refine (rg_iastore (pc := 218) (dd bX13_shares dX13_shares_218) s1.2.2.2.2.2.2.2.2.2.2.2.2.2.2.2.2.2.2.2.2.2.2.2.2.2.2.2.2.2.2.2.2.2.2.2.2.2.2.2.2.2.2.2.2.2.2.2.2.2.2.2.2.2.2.2.2.2.2.2.2.2.2.2.2.2.2.2.2.2.2.2.2.2.2.2.2.2.2.2.2.2.2.2.1 s1.2.2.2.2.2.2.2.2.2.2.2.2.2.2.2.2.2.2.2.2.2.2.2.2.2.2.2.2.2.2.2.2.2.2.2.2.2.2.2.2.2.2.2.2.2.2.2.2.2.2.2.2.2.2.2.2.2.2.2.2.2.2.2.2.2.2.2.2.2.2.2.2.2.2.2.2.2.2.2.2.2.2.2.2.1 (by have z0 := p2 c1; omega) (Int.not_le.mp c1)).trans ?_
      refine (rn_iload_n (pc := 219) (dd bX13_shares dX13_shares_219) rfl).trans ?_
      refine (rn_iload (pc := 220) (dd bX13_shares dX13_shares_220) rfl).trans ?_
      refine (rn_if_eq (t := 229) (pc := 222) (dd bX13_shares dX13_shares_222) rfl).trans ((if_pos (by decide)).trans ?_)
      refine (rn_iconst (pc := 229) (dd bX13_shares dX13_shares_229) (by decide)).trans ?_
      refine (rg_isub (pc := 230) (dd bX13_shares dX13_shares_230) (p5 c1 c2) (p6 c1 c2)).trans ?_
      refine (rn_istore_n (pc := 231) (dd bX13_shares dX13_shares_231) (Nat.le_of_ble_eq_true rfl) rfl).trans ?_
      refine (rg_iinc (pc := 232) (dd bX13_shares dX13_shares_232) rfl (Nat.le_of_ble_eq_true rfl) (by have z0 := p2 c1; omega) (by have z0 := p2 c1; omega) rfl).trans ?_
      refine (rn_goto (t := 163) (pc := 235) (dd bX13_shares dX13_shares_235) rfl).trans ?_
      rfl
    · refine (rn_aload_n (pc := 179) (dd bX13_shares dX13_shares_179) rfl).trans ?_
      refine (rn_iload (pc := 180) (dd bX13_shares dX13_shares_180) rfl).trans ?_
      exact rg_virtual (pc := 182) (dd bX13_shares dX13_shares_182) rfl rfl (by decide) (kc := 34) rfl s1.1 (as := [(1, 282), (0, x4)]) rfl ⟨Nat.le_of_ble_eq_true rfl, Nat.le_of_ble_eq_true rfl, Nat.le_of_ble_eq_true rfl, Nat.le_of_ble_eq_true rfl⟩
theorem rX13_shares_123 {x1 : Int} {x2 : Int} {x3 : Int} {x4 : Int} {y0 : Int} {h : vH} (s1 : shModel h) (p2 : y0 = 0 → 0 ≤ x4) (p3 : y0 = 0 → x4 < 4) (p4 : y0 = 0 → (-2147483648) ≤ x1 * h 2 290 x4) (p5 : y0 = 0 → x1 * h 2 290 x4 < 2147483648) (p6 : y0 = 0 → 0 < x2) (p7 : y0 = 0 → 0 ≤ x1 * h 2 290 x4) (p8 : y0 = 0 → (-2147483648) ≤ x3 - (vup h 2 310 x4 (x1 * h 2 290 x4 / x2)) 2 310 x4) (p9 : y0 = 0 → x3 - (vup h 2 310 x4 (x1 * h 2 290 x4 / x2)) 2 310 x4 < 2147483648) (p10 : (-2147483648) ≤ x4 + 1) (p11 : x4 + 1 < 2147483648) : vrun mX13_shares 123 [(1, 282), (0, x1), (0, x2), (0, x3), (0, x4), (9, 0)] [(0, y0)] h = vrun mX13_shares 101 [(1, 282), (0, x1), (0, x2), (0, (if y0 = 0 then x3 - (vup h 2 310 x4 (x1 * h 2 290 x4 / x2)) 2 310 x4 else x3)), (0, x4 + 1), (9, 0)] [] (if y0 = 0 then vup h 2 310 x4 (x1 * h 2 290 x4 / x2) else h) := by
  have e1 : vrun mX13_shares 123 [(1, 282), (0, x1), (0, x2), (0, x3), (0, x4), (9, 0)] [(0, y0)] h = vrun mX13_shares 154 [(1, 282), (0, x1), (0, x2), (0, (if y0 = 0 then x3 - (vup h 2 310 x4 (x1 * h 2 290 x4 / x2)) 2 310 x4 else x3)), (0, x4), (9, 0)] [] (if y0 = 0 then vup h 2 310 x4 (x1 * h 2 290 x4 / x2) else h) := by
    refine (rg_if_ne (t := 154) (pc := 123) (dd bX13_shares dX13_shares_123) rfl).trans ?_
    by_cases c1 : y0 = 0
    · refine (if_pos c1).trans ?_
      refine (rn_aload_n (pc := 126) (dd bX13_shares dX13_shares_126) rfl).trans ?_
      refine (rg_gf (pc := 127) (dd bX13_shares dX13_shares_127) (ci := 14) (j := 29) rfl rfl (key := 1529) rfl (kc := 34) rfl s1.1 s1.2.2.2.2.2.2.2.2.2.2.2.2.2.2.2.2.2.2.2.2.2.2.2.2.2.2.2.2.2.2.2.2.2.2.2.2.2.2.2.2.2.2.2.2.2.2.2.2.2.2.2.2.2.2.2.2.2.2.2.2.2.2.2.2.2.2.2.2.2.2.2.2.2.2.2.2.2.2.2.2.2.2.1).trans ?_
      refine (rn_iload (pc := 130) (dd bX13_shares dX13_shares_130) rfl).trans ?_
      refine (rn_iload_n (pc := 132) (dd bX13_shares dX13_shares_132) rfl).trans ?_
      refine (rn_aload_n (pc := 133) (dd bX13_shares dX13_shares_133) rfl).trans ?_
      refine (rg_gf (pc := 134) (dd bX13_shares dX13_shares_134) (ci := 14) (j := 9) rfl rfl (key := 1509) rfl (kc := 34) rfl s1.1 s1.2.2.2.2.2.2.2.2.2.2.2.2.2.2.2.2.2.2.2.2.2.2.1).trans ?_
      refine (rn_iload (pc := 137) (dd bX13_shares dX13_shares_137) rfl).trans ?_
      refine (rg_iaload (pc := 139) (dd bX13_shares dX13_shares_139) s1.2.2.2.2.2.2.2.2.2.2.2.2.2.2.2.2.2.2.2.2.2.2.2.1 s1.2.2.2.2.2.2.2.2.2.2.2.2.2.2.2.2.2.2.2.2.2.2.2.2.1 (p2 c1) (p3 c1) rfl).trans ?_
      refine (rg_imul (pc := 140) (dd bX13_shares dX13_shares_140) (p4 c1) (p5 c1)).trans ?_
      refine (rn_iload_n (pc := 141) (dd bX13_shares dX13_shares_141) rfl).trans ?_
      refine (rg_idiv (pc := 142) (dd bX13_shares dX13_shares_142) (p6 c1) (p7 c1) (by have z0 := p4 c1; have z1 := p5 c1; have z2 := p7 c1; omega)).trans ?_
      refine (rg_iastore (pc := 143) (dd bX13_shares dX13_shares_143) s1.2.2.2.2.2.2.2.2.2.2.2.2.2.2.2.2.2.2.2.2.2.2.2.2.2.2.2.2.2.2.2.2.2.2.2.2.2.2.2.2.2.2.2.2.2.2.2.2.2.2.2.2.2.2.2.2.2.2.2.2.2.2.2.2.2.2.2.2.2.2.2.2.2.2.2.2.2.2.2.2.2.2.2.1 s1.2.2.2.2.2.2.2.2.2.2.2.2.2.2.2.2.2.2.2.2.2.2.2.2.2.2.2.2.2.2.2.2.2.2.2.2.2.2.2.2.2.2.2.2.2.2.2.2.2.2.2.2.2.2.2.2.2.2.2.2.2.2.2.2.2.2.2.2.2.2.2.2.2.2.2.2.2.2.2.2.2.2.2.2.1 (by have z0 := p2 c1; have z1 := p3 c1; omega) (by have z0 := p2 c1; have z1 := p3 c1; omega)).trans ?_
      refine (rn_iload_n (pc := 144) (dd bX13_shares dX13_shares_144) rfl).trans ?_
      refine (rn_aload_n (pc := 145) (dd bX13_shares dX13_shares_145) rfl).trans ?_
      refine (rg_gf (pc := 146) (dd bX13_shares dX13_shares_146) (ci := 14) (j := 29) rfl rfl (key := 1529) rfl (kc := 34) rfl ((vup_k (by decide)).trans s1.1) ((vup_k (by decide)).trans s1.2.2.2.2.2.2.2.2.2.2.2.2.2.2.2.2.2.2.2.2.2.2.2.2.2.2.2.2.2.2.2.2.2.2.2.2.2.2.2.2.2.2.2.2.2.2.2.2.2.2.2.2.2.2.2.2.2.2.2.2.2.2.2.2.2.2.2.2.2.2.2.2.2.2.2.2.2.2.2.2.2.2.1)).trans ?_
      refine (rn_iload (pc := 149) (dd bX13_shares dX13_shares_149) rfl).trans ?_
      refine (rg_iaload (pc := 151) (dd bX13_shares dX13_shares_151) ((vup_k (by decide)).trans s1.2.2.2.2.2.2.2.2.2.2.2.2.2.2.2.2.2.2.2.2.2.2.2.2.2.2.2.2.2.2.2.2.2.2.2.2.2.2.2.2.2.2.2.2.2.2.2.2.2.2.2.2.2.2.2.2.2.2.2.2.2.2.2.2.2.2.2.2.2.2.2.2.2.2.2.2.2.2.2.2.2.2.2.1) ((vup_k (by decide)).trans s1.2.2.2.2.2.2.2.2.2.2.2.2.2.2.2.2.2.2.2.2.2.2.2.2.2.2.2.2.2.2.2.2.2.2.2.2.2.2.2.2.2.2.2.2.2.2.2.2.2.2.2.2.2.2.2.2.2.2.2.2.2.2.2.2.2.2.2.2.2.2.2.2.2.2.2.2.2.2.2.2.2.2.2.2.1) (by have z0 := p2 c1; have z1 := p3 c1; omega) (by have z0 := p2 c1; have z1 := p3 c1; omega) rfl).trans ?_
      refine (rg_isub (pc := 152) (dd bX13_shares dX13_shares_152) (p8 c1) (p9 c1)).trans ?_
      refine (rn_istore_n (pc := 153) (dd bX13_shares dX13_shares_153) (Nat.le_of_ble_eq_true rfl) rfl).trans ?_
      refine Eq.trans (b := vrun mX13_shares 154 [(1, 282), (0, x1), (0, x2), (0, x3 - (vup h 2 310 x4 (x1 * h 2 290 x4 / x2)) 2 310 x4), (0, x4), (9, 0)] [] (vup h 2 310 x4 (x1 * h 2 290 x4 / x2))) rfl ?_
      simp only [if_pos c1]
    · refine (if_neg c1).trans ?_
      refine Eq.trans (b := vrun mX13_shares 154 [(1, 282), (0, x1), (0, x2), (0, x3), (0, x4), (9, 0)] [] h) rfl ?_
      simp only [if_neg c1]
  refine e1.trans ?_
  refine (rg_iinc (pc := 154) (dd bX13_shares dX13_shares_154) rfl (Nat.le_of_ble_eq_true rfl) p10 p11 rfl).trans ?_
  refine (rn_goto (t := 101) (pc := 157) (dd bX13_shares dX13_shares_157) rfl).trans ?_
  rfl
theorem rX13_shares_238 {x1 : Int} {x2 : Int} {x3 : Int} {x4 : Int} {v5 : vv} {h : vH} (s1 : shModel h) : vrun mX13_shares 238 [(1, 282), (0, x1), (0, x2), (0, x3), (0, x4), v5] [] h = vret vrun mX13_shares 239 [(1, 282), (0, x1), (0, x2), (0, x3), (0, x4), v5] [] (vcl mX13_poorest [(1, 282)] h) := by
  refine (rn_aload_n (pc := 238) (dd bX13_shares dX13_shares_238) rfl).trans ?_
  exact rg_virtual (pc := 239) (dd bX13_shares dX13_shares_239) rfl rfl (by decide) (kc := 34) rfl s1.1 (as := [(1, 282)]) rfl ⟨Nat.le_of_ble_eq_true rfl, Nat.le_of_ble_eq_true rfl, Nat.le_of_ble_eq_true rfl, Nat.le_of_ble_eq_true rfl⟩
theorem rX13_shares_185 {x1 : Int} {x2 : Int} {x3 : Int} {x4 : Int} {v5 : vv} {y0 : Int} {h : vH} (s1 : shModel h) (p2 : 0 ≤ x4) (p3 : x4 < 4) (p4 : (-2147483648) ≤ h 2 310 x4 + (if y0 = 0 ∧ ¬ (x3 ≤ 0) then 1 else 0)) (p5 : h 2 310 x4 + (if y0 = 0 ∧ ¬ (x3 ≤ 0) then 1 else 0) < 2147483648) (p6 : (-2147483648) ≤ x3 - (if y0 = 0 ∧ ¬ (x3 ≤ 0) then 1 else 0)) (p7 : x3 - (if y0 = 0 ∧ ¬ (x3 ≤ 0) then 1 else 0) < 2147483648) : vrun mX13_shares 185 [(1, 282), (0, x1), (0, x2), (0, x3), (0, x4), v5] [(0, y0)] h = vrun mX13_shares 163 [(1, 282), (0, x1), (0, x2), (0, x3 - (if y0 = 0 ∧ ¬ (x3 ≤ 0) then 1 else 0)), (0, x4 + 1), (0, (if y0 = 0 ∧ ¬ (x3 ≤ 0) then 1 else 0))] [] (vup h 2 310 x4 (h 2 310 x4 + (if y0 = 0 ∧ ¬ (x3 ≤ 0) then 1 else 0))) := by
  have e2 : vrun mX13_shares 185 [(1, 282), (0, x1), (0, x2), (0, x3), (0, x4), v5] [(0, y0)] h = vrun mX13_shares 197 [(1, 282), (0, x1), (0, x2), (0, x3), (0, x4), v5] [(0, (if y0 = 0 ∧ ¬ (x3 ≤ 0) then 1 else 0))] h := by
    refine (rg_if_ne (t := 196) (pc := 185) (dd bX13_shares dX13_shares_185) rfl).trans ?_
    by_cases c1 : y0 = 0
    · refine (if_pos c1).trans ?_
      refine (rn_iload_n (pc := 188) (dd bX13_shares dX13_shares_188) rfl).trans ?_
      have e1 : vrun mX13_shares 189 [(1, 282), (0, x1), (0, x2), (0, x3), (0, x4), v5] [(0, x3)] h = vrun mX13_shares 197 [(1, 282), (0, x1), (0, x2), (0, x3), (0, x4), v5] [(0, (if ¬ (x3 ≤ 0) then 1 else 0))] h := by
        refine (rn_if_le (t := 196) (pc := 189) (dd bX13_shares dX13_shares_189) rfl).trans ?_
        by_cases c2 : x3 ≤ 0
        · refine (if_pos c2).trans ?_
          refine (rn_iconst (pc := 196) (dd bX13_shares dX13_shares_196) (by decide)).trans ?_
          refine Eq.trans (b := vrun mX13_shares 197 [(1, 282), (0, x1), (0, x2), (0, x3), (0, x4), v5] [(0, 0)] h) rfl ?_
          simp only [c2, true_or, false_or, or_true, or_false, true_and, false_and, and_true, and_false, not_true_eq_false, not_false_eq_true, ne_eq, if_true, if_false, ↓reduceIte]
        · refine (if_neg c2).trans ?_
          refine (rn_iconst (pc := 192) (dd bX13_shares dX13_shares_192) (by decide)).trans ?_
          refine (rn_goto (t := 197) (pc := 193) (dd bX13_shares dX13_shares_193) rfl).trans ?_
          refine Eq.trans (b := vrun mX13_shares 197 [(1, 282), (0, x1), (0, x2), (0, x3), (0, x4), v5] [(0, 1)] h) rfl ?_
          simp only [c2, true_or, false_or, or_true, or_false, true_and, false_and, and_true, and_false, not_true_eq_false, not_false_eq_true, ne_eq, if_true, if_false, ↓reduceIte]
      refine e1.trans ?_
      refine Eq.trans (b := vrun mX13_shares 197 [(1, 282), (0, x1), (0, x2), (0, x3), (0, x4), v5] [(0, (if ¬ (x3 ≤ 0) then 1 else 0))] h) rfl ?_
      simp only [c1, true_or, false_or, or_true, or_false, true_and, false_and, and_true, and_false, not_true_eq_false, not_false_eq_true, ne_eq, if_true, if_false, ↓reduceIte]
    · refine (if_neg c1).trans ?_
      refine (rn_iconst (pc := 196) (dd bX13_shares dX13_shares_196) (by decide)).trans ?_
      refine Eq.trans (b := vrun mX13_shares 197 [(1, 282), (0, x1), (0, x2), (0, x3), (0, x4), v5] [(0, 0)] h) rfl ?_
      simp only [c1, true_or, false_or, or_true, or_false, true_and, false_and, and_true, and_false, not_true_eq_false, not_false_eq_true, ne_eq, if_true, if_false, ↓reduceIte]
  refine e2.trans ?_
  refine (rn_istore (pc := 197) (dd bX13_shares dX13_shares_197) (Nat.le_of_ble_eq_true rfl) rfl).trans ?_
  refine (rn_aload_n (pc := 199) (dd bX13_shares dX13_shares_199) rfl).trans ?_
  refine (rg_gf (pc := 200) (dd bX13_shares dX13_shares_200) (ci := 14) (j := 29) rfl rfl (key := 1529) rfl (kc := 34) rfl s1.1 s1.2.2.2.2.2.2.2.2.2.2.2.2.2.2.2.2.2.2.2.2.2.2.2.2.2.2.2.2.2.2.2.2.2.2.2.2.2.2.2.2.2.2.2.2.2.2.2.2.2.2.2.2.2.2.2.2.2.2.2.2.2.2.2.2.2.2.2.2.2.2.2.2.2.2.2.2.2.2.2.2.2.2.1).trans ?_
  refine (rn_iload (pc := 203) (dd bX13_shares dX13_shares_203) rfl).trans ?_
  refine (rn_dup2 (pc := 205) (dd bX13_shares dX13_shares_205) (by decide)).trans ?_
  refine (rg_iaload (pc := 206) (dd bX13_shares dX13_shares_206) s1.2.2.2.2.2.2.2.2.2.2.2.2.2.2.2.2.2.2.2.2.2.2.2.2.2.2.2.2.2.2.2.2.2.2.2.2.2.2.2.2.2.2.2.2.2.2.2.2.2.2.2.2.2.2.2.2.2.2.2.2.2.2.2.2.2.2.2.2.2.2.2.2.2.2.2.2.2.2.2.2.2.2.2.1 s1.2.2.2.2.2.2.2.2.2.2.2.2.2.2.2.2.2.2.2.2.2.2.2.2.2.2.2.2.2.2.2.2.2.2.2.2.2.2.2.2.2.2.2.2.2.2.2.2.2.2.2.2.2.2.2.2.2.2.2.2.2.2.2.2.2.2.2.2.2.2.2.2.2.2.2.2.2.2.2.2.2.2.2.2.1 p2 p3 rfl).trans ?_
  refine (rn_iload (pc := 207) (dd bX13_shares dX13_shares_207) rfl).trans ?_
  have e3 : vrun mX13_shares 209 [(1, 282), (0, x1), (0, x2), (0, x3), (0, x4), (0, (if y0 = 0 ∧ ¬ (x3 ≤ 0) then 1 else 0))] [(0, (if y0 = 0 ∧ ¬ (x3 ≤ 0) then 1 else 0)), (0, h 2 310 x4), (0, x4), (1, 310)] h = vrun mX13_shares 217 [(1, 282), (0, x1), (0, x2), (0, x3), (0, x4), (0, (if y0 = 0 ∧ ¬ (x3 ≤ 0) then 1 else 0))] [(0, (if y0 = 0 ∧ ¬ (x3 ≤ 0) then 1 else 0)), (0, h 2 310 x4), (0, x4), (1, 310)] h := by
    refine (rg_beq (t := 216) (pc := 209) (dd bX13_shares dX13_shares_209) rfl).trans ?_
    by_cases c3 : y0 = 0 ∧ ¬ (x3 ≤ 0)
    · refine (if_pos c3).trans ?_
      refine (rn_iconst (pc := 212) (dd bX13_shares dX13_shares_212) (by decide)).trans ?_
      refine (rn_goto (t := 217) (pc := 213) (dd bX13_shares dX13_shares_213) rfl).trans ?_
      refine Eq.trans (b := vrun mX13_shares 217 [(1, 282), (0, x1), (0, x2), (0, x3), (0, x4), (0, (if y0 = 0 ∧ ¬ (x3 ≤ 0) then 1 else 0))] [(0, 1), (0, h 2 310 x4), (0, x4), (1, 310)] h) rfl ?_
      simp only [c3, true_or, false_or, or_true, or_false, true_and, false_and, and_true, and_false, not_true_eq_false, not_false_eq_true, ne_eq, if_true, if_false, ↓reduceIte]
    · refine (if_neg c3).trans ?_
      refine (rn_iconst (pc := 216) (dd bX13_shares dX13_shares_216) (by decide)).trans ?_
      refine Eq.trans (b := vrun mX13_shares 217 [(1, 282), (0, x1), (0, x2), (0, x3), (0, x4), (0, (if y0 = 0 ∧ ¬ (x3 ≤ 0) then 1 else 0))] [(0, 0), (0, h 2 310 x4), (0, x4), (1, 310)] h) rfl ?_
      simp only [c3, true_or, false_or, or_true, or_false, true_and, false_and, and_true, and_false, not_true_eq_false, not_false_eq_true, ne_eq, if_true, if_false, ↓reduceIte]
  refine e3.trans ?_
  refine (rg_iadd (pc := 217) (dd bX13_shares dX13_shares_217) p4 p5).trans ?_
  refine (rg_iastore (pc := 218) (dd bX13_shares dX13_shares_218) s1.2.2.2.2.2.2.2.2.2.2.2.2.2.2.2.2.2.2.2.2.2.2.2.2.2.2.2.2.2.2.2.2.2.2.2.2.2.2.2.2.2.2.2.2.2.2.2.2.2.2.2.2.2.2.2.2.2.2.2.2.2.2.2.2.2.2.2.2.2.2.2.2.2.2.2.2.2.2.2.2.2.2.2.1 s1.2.2.2.2.2.2.2.2.2.2.2.2.2.2.2.2.2.2.2.2.2.2.2.2.2.2.2.2.2.2.2.2.2.2.2.2.2.2.2.2.2.2.2.2.2.2.2.2.2.2.2.2.2.2.2.2.2.2.2.2.2.2.2.2.2.2.2.2.2.2.2.2.2.2.2.2.2.2.2.2.2.2.2.2.1 (by omega) (by omega)).trans ?_
  refine (rn_iload_n (pc := 219) (dd bX13_shares dX13_shares_219) rfl).trans ?_
  refine (rn_iload (pc := 220) (dd bX13_shares dX13_shares_220) rfl).trans ?_
  have e4 : vrun mX13_shares 222 [(1, 282), (0, x1), (0, x2), (0, x3), (0, x4), (0, (if y0 = 0 ∧ ¬ (x3 ≤ 0) then 1 else 0))] [(0, (if y0 = 0 ∧ ¬ (x3 ≤ 0) then 1 else 0)), (0, x3)] (vup h 2 310 x4 (h 2 310 x4 + (if y0 = 0 ∧ ¬ (x3 ≤ 0) then 1 else 0))) = vrun mX13_shares 230 [(1, 282), (0, x1), (0, x2), (0, x3), (0, x4), (0, (if y0 = 0 ∧ ¬ (x3 ≤ 0) then 1 else 0))] [(0, (if y0 = 0 ∧ ¬ (x3 ≤ 0) then 1 else 0)), (0, x3)] (vup h 2 310 x4 (h 2 310 x4 + (if y0 = 0 ∧ ¬ (x3 ≤ 0) then 1 else 0))) := by
    refine (rg_beq (t := 229) (pc := 222) (dd bX13_shares dX13_shares_222) rfl).trans ?_
    by_cases c4 : y0 = 0 ∧ ¬ (x3 ≤ 0)
    · refine (if_pos c4).trans ?_
      refine (rn_iconst (pc := 225) (dd bX13_shares dX13_shares_225) (by decide)).trans ?_
      refine (rn_goto (t := 230) (pc := 226) (dd bX13_shares dX13_shares_226) rfl).trans ?_
      refine Eq.trans (b := vrun mX13_shares 230 [(1, 282), (0, x1), (0, x2), (0, x3), (0, x4), (0, (if y0 = 0 ∧ ¬ (x3 ≤ 0) then 1 else 0))] [(0, 1), (0, x3)] (vup h 2 310 x4 (h 2 310 x4 + (if y0 = 0 ∧ ¬ (x3 ≤ 0) then 1 else 0)))) rfl ?_
      simp only [c4, true_or, false_or, or_true, or_false, true_and, false_and, and_true, and_false, not_true_eq_false, not_false_eq_true, ne_eq, if_true, if_false, ↓reduceIte]
    · refine (if_neg c4).trans ?_
      refine (rn_iconst (pc := 229) (dd bX13_shares dX13_shares_229) (by decide)).trans ?_
      refine Eq.trans (b := vrun mX13_shares 230 [(1, 282), (0, x1), (0, x2), (0, x3), (0, x4), (0, (if y0 = 0 ∧ ¬ (x3 ≤ 0) then 1 else 0))] [(0, 0), (0, x3)] (vup h 2 310 x4 (h 2 310 x4 + (if y0 = 0 ∧ ¬ (x3 ≤ 0) then 1 else 0)))) rfl ?_
      simp only [c4, true_or, false_or, or_true, or_false, true_and, false_and, and_true, and_false, not_true_eq_false, not_false_eq_true, ne_eq, if_true, if_false, ↓reduceIte]
  refine e4.trans ?_
  refine (rg_isub (pc := 230) (dd bX13_shares dX13_shares_230) p6 p7).trans ?_
  refine (rn_istore_n (pc := 231) (dd bX13_shares dX13_shares_231) (Nat.le_of_ble_eq_true rfl) rfl).trans ?_
  refine (rg_iinc (pc := 232) (dd bX13_shares dX13_shares_232) rfl (Nat.le_of_ble_eq_true rfl) (by omega) (by omega) rfl).trans ?_
  refine (rn_goto (t := 163) (pc := 235) (dd bX13_shares dX13_shares_235) rfl).trans ?_
  rfl
theorem rX13_shares_242 {x1 : Int} {x2 : Int} {x3 : Int} {x4 : Int} {v5 : vv} {y0 : Int} {h : vH} (s1 : shModel h) : vrun mX13_shares 242 [(1, 282), (0, x1), (0, x2), (0, x3), (0, x4), v5] [(0, y0)] h = if y0 = (-1) then some (.inl none, h) else vret vrun mX13_shares 247 [(1, 282), (0, x1), (0, x2), (0, x3), (0, x4), v5] [] (vcl mX13_richest [(1, 282)] h) := by
  refine (rn_iconst (pc := 242) (dd bX13_shares dX13_shares_242) (by decide)).trans ?_
  refine (rn_icmp_eq (t := 287) (pc := 243) (dd bX13_shares dX13_shares_243) rfl).trans (itec (fun c1 => ?_) (fun c1 => ?_))
  · exact rn_return (pc := 287) (dd bX13_shares dX13_shares_287) rfl
  · refine (rn_aload_n (pc := 246) (dd bX13_shares dX13_shares_246) rfl).trans ?_
    exact rg_virtual (pc := 247) (dd bX13_shares dX13_shares_247) rfl rfl (by decide) (kc := 34) rfl s1.1 (as := [(1, 282)]) rfl ⟨Nat.le_of_ble_eq_true rfl, Nat.le_of_ble_eq_true rfl, Nat.le_of_ble_eq_true rfl, Nat.le_of_ble_eq_true rfl⟩
theorem rX13_shares_250 {x1 : Int} {x2 : Int} {x3 : Int} {x4 : Int} {v5 : vv} {y0 : Int} {h : vH} (s1 : shModel h) : vrun mX13_shares 250 [(1, 282), (0, x1), (0, x2), (0, x3), (0, x4), v5] [(0, y0)] h = if y0 = (-1) then some (.inl none, h) else vret vrun mX13_shares 255 [(1, 282), (0, x1), (0, x2), (0, x3), (0, x4), v5] [] (vcl mX13_poorest [(1, 282)] h) := by
  refine (rn_iconst (pc := 250) (dd bX13_shares dX13_shares_250) (by decide)).trans ?_
  refine (rn_icmp_eq (t := 287) (pc := 251) (dd bX13_shares dX13_shares_251) rfl).trans (itec (fun c1 => ?_) (fun c1 => ?_))
  · exact rn_return (pc := 287) (dd bX13_shares dX13_shares_287) rfl
  · refine (rn_aload_n (pc := 254) (dd bX13_shares dX13_shares_254) rfl).trans ?_
    exact rg_virtual (pc := 255) (dd bX13_shares dX13_shares_255) rfl rfl (by decide) (kc := 34) rfl s1.1 (as := [(1, 282)]) rfl ⟨Nat.le_of_ble_eq_true rfl, Nat.le_of_ble_eq_true rfl, Nat.le_of_ble_eq_true rfl, Nat.le_of_ble_eq_true rfl⟩
theorem rX13_shares_258 {x1 : Int} {x2 : Int} {x3 : Int} {x4 : Int} {v5 : vv} {y0 : Int} {h : vH} (s1 : shModel h) : vrun mX13_shares 258 [(1, 282), (0, x1), (0, x2), (0, x3), (0, x4), v5] [(0, y0)] h = vret vrun mX13_shares 265 [(1, 282), (0, x1), (0, x2), (0, x3), (0, y0), v5] [(1, 310)] (vcl mX13_richest [(1, 282)] h) := by
  refine (rn_istore (pc := 258) (dd bX13_shares dX13_shares_258) (Nat.le_of_ble_eq_true rfl) rfl).trans ?_
  refine (rn_aload_n (pc := 260) (dd bX13_shares dX13_shares_260) rfl).trans ?_
  refine (rg_gf (pc := 261) (dd bX13_shares dX13_shares_261) (ci := 14) (j := 29) rfl rfl (key := 1529) rfl (kc := 34) rfl s1.1 s1.2.2.2.2.2.2.2.2.2.2.2.2.2.2.2.2.2.2.2.2.2.2.2.2.2.2.2.2.2.2.2.2.2.2.2.2.2.2.2.2.2.2.2.2.2.2.2.2.2.2.2.2.2.2.2.2.2.2.2.2.2.2.2.2.2.2.2.2.2.2.2.2.2.2.2.2.2.2.2.2.2.2.1).trans ?_
  refine (rn_aload_n (pc := 264) (dd bX13_shares dX13_shares_264) rfl).trans ?_
  exact rg_virtual (pc := 265) (dd bX13_shares dX13_shares_265) rfl rfl (by decide) (kc := 34) rfl s1.1 (as := [(1, 282)]) rfl ⟨Nat.le_of_ble_eq_true rfl, Nat.le_of_ble_eq_true rfl, Nat.le_of_ble_eq_true rfl, Nat.le_of_ble_eq_true rfl⟩
theorem rX13_shares_268 {x1 : Int} {x2 : Int} {x3 : Int} {x4 : Int} {v5 : vv} {y0 : Int} {y1 : Int} {h : vH} (p1 : h 0 y1 0 = 1) (p2 : 0 ≤ y0) (p3 : y0 < h 1 y1 0) (p4 : (-2147483648) ≤ h 2 y1 y0 - 1) (p5 : h 2 y1 y0 - 1 < 2147483648) (s6 : shModel h) (p7 : 0 ≤ x4) (p8 : x4 < 4) (p9 : (-2147483648) ≤ (vup h 2 y1 y0 (h 2 y1 y0 - 1)) 2 310 x4 + 1) (p10 : (vup h 2 y1 y0 (h 2 y1 y0 - 1)) 2 310 x4 + 1 < 2147483648) : vrun mX13_shares 268 [(1, 282), (0, x1), (0, x2), (0, x3), (0, x4), v5] [(0, y0), (1, y1)] h = vrun mX13_shares 238 [(1, 282), (0, x1), (0, x2), (0, x3), (0, x4), v5] [] (vup (vup h 2 y1 y0 (h 2 y1 y0 - 1)) 2 310 x4 ((vup h 2 y1 y0 (h 2 y1 y0 - 1)) 2 310 x4 + 1)) := by
  refine (rn_dup2 (pc := 268) (dd bX13_shares dX13_shares_268) (by decide)).trans ?_
  refine (rg_iaload (pc := 269) (dd bX13_shares dX13_shares_269) p1 rfl p2 p3 rfl).trans ?_
  refine (rn_iconst (pc := 270) (dd bX13_shares dX13_shares_270) (by decide)).trans ?_
  refine (rg_isub (pc := 271) (dd bX13_shares dX13_shares_271) p4 p5).trans ?_
  refine (rg_iastore (pc := 272) (dd bX13_shares dX13_shares_272) p1 rfl (by omega) p3).trans ?_
  refine (rn_aload_n (pc := 273) (dd bX13_shares dX13_shares_273) rfl).trans ?_
  refine (rg_gf (pc := 274) (dd bX13_shares dX13_shares_274) (ci := 14) (j := 29) rfl rfl (key := 1529) rfl (kc := 34) rfl ((vup_k (by decide)).trans s6.1) ((vup_k (by decide)).trans s6.2.2.2.2.2.2.2.2.2.2.2.2.2.2.2.2.2.2.2.2.2.2.2.2.2.2.2.2.2.2.2.2.2.2.2.2.2.2.2.2.2.2.2.2.2.2.2.2.2.2.2.2.2.2.2.2.2.2.2.2.2.2.2.2.2.2.2.2.2.2.2.2.2.2.2.2.2.2.2.2.2.2.1)).trans ?_
  refine (rn_iload (pc := 277) (dd bX13_shares dX13_shares_277) rfl).trans ?_
  refine (rn_dup2 (pc := 279) (dd bX13_shares dX13_shares_279) (by decide)).trans ?_
  refine (rg_iaload (pc := 280) (dd bX13_shares dX13_shares_280) ((vup_k (by decide)).trans s6.2.2.2.2.2.2.2.2.2.2.2.2.2.2.2.2.2.2.2.2.2.2.2.2.2.2.2.2.2.2.2.2.2.2.2.2.2.2.2.2.2.2.2.2.2.2.2.2.2.2.2.2.2.2.2.2.2.2.2.2.2.2.2.2.2.2.2.2.2.2.2.2.2.2.2.2.2.2.2.2.2.2.2.1) ((vup_k (by decide)).trans s6.2.2.2.2.2.2.2.2.2.2.2.2.2.2.2.2.2.2.2.2.2.2.2.2.2.2.2.2.2.2.2.2.2.2.2.2.2.2.2.2.2.2.2.2.2.2.2.2.2.2.2.2.2.2.2.2.2.2.2.2.2.2.2.2.2.2.2.2.2.2.2.2.2.2.2.2.2.2.2.2.2.2.2.2.1) p7 p8 rfl).trans ?_
  refine (rn_iconst (pc := 281) (dd bX13_shares dX13_shares_281) (by decide)).trans ?_
  refine (rg_iadd (pc := 282) (dd bX13_shares dX13_shares_282) p9 p10).trans ?_
  refine (rg_iastore (pc := 283) (dd bX13_shares dX13_shares_283) ((vup_k (by decide)).trans s6.2.2.2.2.2.2.2.2.2.2.2.2.2.2.2.2.2.2.2.2.2.2.2.2.2.2.2.2.2.2.2.2.2.2.2.2.2.2.2.2.2.2.2.2.2.2.2.2.2.2.2.2.2.2.2.2.2.2.2.2.2.2.2.2.2.2.2.2.2.2.2.2.2.2.2.2.2.2.2.2.2.2.2.1) ((vup_k (by decide)).trans s6.2.2.2.2.2.2.2.2.2.2.2.2.2.2.2.2.2.2.2.2.2.2.2.2.2.2.2.2.2.2.2.2.2.2.2.2.2.2.2.2.2.2.2.2.2.2.2.2.2.2.2.2.2.2.2.2.2.2.2.2.2.2.2.2.2.2.2.2.2.2.2.2.2.2.2.2.2.2.2.2.2.2.2.2.1) (by omega) (by omega)).trans ?_
  refine (rn_goto (t := 238) (pc := 284) (dd bX13_shares dX13_shares_284) rfl).trans ?_
  rfl
theorem bX13_thrown : vmB mX13_thrown = cX13_thrown := rfl
theorem rX13_thrown_0 {h : vH} (s1 : shModel h) : vrun mX13_thrown 0 [(1, 282)] [] h = some (.inl (some (0, h 1500 282 0)), h) := by
  refine (rn_aload_n (pc := 0) (dd bX13_thrown dX13_thrown_0) rfl).trans ?_
  refine (rg_gf (pc := 1) (dd bX13_thrown dX13_thrown_1) (ci := 14) (j := 0) rfl rfl (key := 1500) rfl (kc := 34) rfl s1.1 rfl).trans ?_
  exact rn_ireturn (pc := 4) (dd bX13_thrown dX13_thrown_4) (Or.inl rfl)
theorem spX13_thrown {h : vH} (s1 : shModel h) : vcl mX13_thrown [(1, 282)] h = some (.inl (some (0, h 1500 282 0)), h) := by
  refine (show _ = _ from rX13_thrown_0 s1).trans ?_
  rfl
theorem bX13_lines : vmB mX13_lines = cX13_lines := rfl
theorem rX13_lines_0 {h : vH} (s1 : shModel h) : vrun mX13_lines 0 [(1, 282)] [] h = some (.inl (some (0, h 1504 282 0)), vup h 1500 282 0 0) := by
  refine (rn_aload_n (pc := 0) (dd bX13_lines dX13_lines_0) rfl).trans ?_
  refine (rn_iconst (pc := 1) (dd bX13_lines dX13_lines_1) (by decide)).trans ?_
  refine (rg_pf (pc := 2) (dd bX13_lines dX13_lines_2) (ci := 14) (j := 0) rfl (key := 1500) rfl (kc := 34) rfl s1.1 rfl (by intro z; cases z) (by decide)).trans ?_
  refine (rn_aload_n (pc := 5) (dd bX13_lines dX13_lines_5) rfl).trans ?_
  refine (rg_gf (pc := 6) (dd bX13_lines dX13_lines_6) (ci := 14) (j := 4) rfl rfl (key := 1504) rfl (kc := 34) rfl ((vup_k (by decide)).trans s1.1) ((vup_k (by decide)).trans rfl)).trans ?_
  exact rn_ireturn (pc := 9) (dd bX13_lines dX13_lines_9) (Or.inl rfl)
theorem bX13_isIn : vmB mX13_isIn = cX13_isIn := rfl
theorem rX13_isIn_0 {x0 : Int} {x1 : Int} {x2 : Int} {h : vH} : vrun mX13_isIn 0 [(0, x0), (0, x1), (0, x2)] [] h = some (.inl (some (0, (if ¬ (x0 < x1) ∧ ¬ (x2 < x0) then 1 else 0))), h) := by
  refine (rn_iload_n (pc := 0) (dd bX13_isIn dX13_isIn_0) rfl).trans ?_
  refine (rn_iload_n (pc := 1) (dd bX13_isIn dX13_isIn_1) rfl).trans ?_
  have e2 : vrun mX13_isIn 2 [(0, x0), (0, x1), (0, x2)] [(0, x1), (0, x0)] h = vrun mX13_isIn 15 [(0, x0), (0, x1), (0, x2)] [(0, (if ¬ (x0 < x1) ∧ ¬ (x2 < x0) then 1 else 0))] h := by
    refine (rn_icmp_lt (t := 14) (pc := 2) (dd bX13_isIn dX13_isIn_2) rfl).trans ?_
    by_cases c1 : x0 < x1
    · refine (if_pos c1).trans ?_
      refine (rn_iconst (pc := 14) (dd bX13_isIn dX13_isIn_14) (by decide)).trans ?_
      refine Eq.trans (b := vrun mX13_isIn 15 [(0, x0), (0, x1), (0, x2)] [(0, 0)] h) rfl ?_
      simp only [c1, true_or, false_or, or_true, or_false, true_and, false_and, and_true, and_false, not_true_eq_false, not_false_eq_true, ne_eq, if_true, if_false, ↓reduceIte]
    · refine (if_neg c1).trans ?_
      refine (rn_iload_n (pc := 5) (dd bX13_isIn dX13_isIn_5) rfl).trans ?_
      refine (rn_iload_n (pc := 6) (dd bX13_isIn dX13_isIn_6) rfl).trans ?_
      have e1 : vrun mX13_isIn 7 [(0, x0), (0, x1), (0, x2)] [(0, x2), (0, x0)] h = vrun mX13_isIn 15 [(0, x0), (0, x1), (0, x2)] [(0, (if ¬ (x2 < x0) then 1 else 0))] h := by
        refine (rn_icmp_gt (t := 14) (pc := 7) (dd bX13_isIn dX13_isIn_7) rfl).trans ?_
        by_cases c2 : x2 < x0
        · refine (if_pos c2).trans ?_
          refine (rn_iconst (pc := 14) (dd bX13_isIn dX13_isIn_14) (by decide)).trans ?_
          refine Eq.trans (b := vrun mX13_isIn 15 [(0, x0), (0, x1), (0, x2)] [(0, 0)] h) rfl ?_
          simp only [c2, true_or, false_or, or_true, or_false, true_and, false_and, and_true, and_false, not_true_eq_false, not_false_eq_true, ne_eq, if_true, if_false, ↓reduceIte]
        · refine (if_neg c2).trans ?_
          refine (rn_iconst (pc := 10) (dd bX13_isIn dX13_isIn_10) (by decide)).trans ?_
          refine (rn_goto (t := 15) (pc := 11) (dd bX13_isIn dX13_isIn_11) rfl).trans ?_
          refine Eq.trans (b := vrun mX13_isIn 15 [(0, x0), (0, x1), (0, x2)] [(0, 1)] h) rfl ?_
          simp only [c2, true_or, false_or, or_true, or_false, true_and, false_and, and_true, and_false, not_true_eq_false, not_false_eq_true, ne_eq, if_true, if_false, ↓reduceIte]
      refine e1.trans ?_
      refine Eq.trans (b := vrun mX13_isIn 15 [(0, x0), (0, x1), (0, x2)] [(0, (if ¬ (x2 < x0) then 1 else 0))] h) rfl ?_
      simp only [c1, true_or, false_or, or_true, or_false, true_and, false_and, and_true, and_false, not_true_eq_false, not_false_eq_true, ne_eq, if_true, if_false, ↓reduceIte]
  refine e2.trans ?_
  exact rn_ireturn (pc := 15) (dd bX13_isIn dX13_isIn_15) (Or.inr ⟨rfl, b01⟩)
theorem spX13_isIn {x0 : Int} {x1 : Int} {x2 : Int} {h : vH} : vcl mX13_isIn [(0, x0), (0, x1), (0, x2)] h = some (.inl (some (0, (if ¬ (x0 < x1) ∧ ¬ (x2 < x0) then 1 else 0))), h) := by
  refine (show _ = _ from rX13_isIn_0).trans ?_
  rfl
theorem bX13_isLine : vmB mX13_isLine = cX13_isLine := rfl
theorem rX13_isLine_0 {x1 : Int} {h : vH} (s1 : shModel h) (p2 : (-2147483648) ≤ h 1504 282 0 - 1) (p3 : h 1504 282 0 - 1 < 2147483648) : vrun mX13_isLine 0 [(1, 282), (0, x1)] [] h = some (.inl (some (0, (if ¬ (x1 < 0) ∧ ¬ (h 1504 282 0 - 1 < x1) then 1 else 0))), h) := by
  refine (rn_iload_n (pc := 0) (dd bX13_isLine dX13_isLine_0) rfl).trans ?_
  refine (rn_iconst (pc := 1) (dd bX13_isLine dX13_isLine_1) (by decide)).trans ?_
  refine (rn_aload_n (pc := 2) (dd bX13_isLine dX13_isLine_2) rfl).trans ?_
  refine (rg_gf (pc := 3) (dd bX13_isLine dX13_isLine_3) (ci := 14) (j := 4) rfl rfl (key := 1504) rfl (kc := 34) rfl s1.1 rfl).trans ?_
  refine (rn_iconst (pc := 6) (dd bX13_isLine dX13_isLine_6) (by decide)).trans ?_
  refine (rg_isub (pc := 7) (dd bX13_isLine dX13_isLine_7) p2 p3).trans ?_
  refine (rg_static (pc := 8) (dd bX13_isLine dX13_isLine_8) rfl (by decide) (Nat.le_of_ble_eq_true rfl) (as := [(0, x1), (0, 0), (0, h 1504 282 0 - 1)]) rfl rfl ⟨Nat.le_of_ble_eq_true rfl, Nat.le_of_ble_eq_true rfl, Nat.le_of_ble_eq_true rfl, Nat.le_of_ble_eq_true rfl⟩).trans ?_
  refine (vret_v spX13_isIn).trans ?_
  exact rn_ireturn (pc := 11) (dd bX13_isLine dX13_isLine_11) (Or.inr ⟨rfl, b01⟩)
def fX13_isLine (h : vH) (x1 : Int) : Int := (if ¬ (x1 < 0) ∧ ¬ (h 1504 282 0 - 1 < x1) then 1 else 0)
theorem spX13_isLine {x1 : Int} {h : vH} (s1 : shModel h) (p2 : (-2147483648) ≤ h 1504 282 0 - 1) (p3 : h 1504 282 0 - 1 < 2147483648) : vcl mX13_isLine [(1, 282), (0, x1)] h = some (.inl (some (0, fX13_isLine h x1)), h) := by
  refine (show _ = _ from rX13_isLine_0 s1 p2 p3).trans ?_
  rfl
theorem bX13_isFine : vmB mX13_isFine = cX13_isFine := rfl
theorem rX13_isFine_0 {x1 : Int} {h : vH} (s1 : shModel h) : vrun mX13_isFine 0 [(1, 282), (0, x1)] [] h = some (.inl (some (0, (if x1 = 0 then 1 else 0))), vup h 1500 282 0 x1) := by
  refine (rn_aload_n (pc := 0) (dd bX13_isFine dX13_isFine_0) rfl).trans ?_
  refine (rn_iload_n (pc := 1) (dd bX13_isFine dX13_isFine_1) rfl).trans ?_
  refine (rg_pf (pc := 2) (dd bX13_isFine dX13_isFine_2) (ci := 14) (j := 0) rfl (key := 1500) rfl (kc := 34) rfl s1.1 rfl (by intro z; cases z) (by decide)).trans ?_
  refine (rn_iload_n (pc := 5) (dd bX13_isFine dX13_isFine_5) rfl).trans ?_
  have e1 : vrun mX13_isFine 6 [(1, 282), (0, x1)] [(0, x1)] (vup h 1500 282 0 x1) = vrun mX13_isFine 14 [(1, 282), (0, x1)] [(0, (if x1 = 0 then 1 else 0))] (vup h 1500 282 0 x1) := by
    refine (rg_if_ne (t := 13) (pc := 6) (dd bX13_isFine dX13_isFine_6) rfl).trans ?_
    by_cases c1 : x1 = 0
    · refine (if_pos c1).trans ?_
      refine (rn_iconst (pc := 9) (dd bX13_isFine dX13_isFine_9) (by decide)).trans ?_
      refine (rn_goto (t := 14) (pc := 10) (dd bX13_isFine dX13_isFine_10) rfl).trans ?_
      refine Eq.trans (b := vrun mX13_isFine 14 [(1, 282), (0, x1)] [(0, 1)] (vup h 1500 282 0 x1)) rfl ?_
      simp only [c1, true_or, false_or, or_true, or_false, true_and, false_and, and_true, and_false, not_true_eq_false, not_false_eq_true, ne_eq, if_true, if_false, ↓reduceIte]
    · refine (if_neg c1).trans ?_
      refine (rn_iconst (pc := 13) (dd bX13_isFine dX13_isFine_13) (by decide)).trans ?_
      refine Eq.trans (b := vrun mX13_isFine 14 [(1, 282), (0, x1)] [(0, 0)] (vup h 1500 282 0 x1)) rfl ?_
      simp only [c1, true_or, false_or, or_true, or_false, true_and, false_and, and_true, and_false, not_true_eq_false, not_false_eq_true, ne_eq, if_true, if_false, ↓reduceIte]
  refine e1.trans ?_
  exact rn_ireturn (pc := 14) (dd bX13_isFine dX13_isFine_14) (Or.inr ⟨rfl, b01⟩)
theorem bX13_length : vmB mX13_length = cX13_length := rfl
theorem rX13_length_0 {x1 : Int} {h : vH} (s1 : shModel h) (p2 : (-2147483648) ≤ h 1504 282 0 - 1) (p3 : h 1504 282 0 - 1 < 2147483648) : vrun mX13_length 0 [(1, 282), (0, x1)] [] h = vret vrun mX13_length 14 [(1, 282), (0, x1)] [] (vcl mX13_isFine [(1, 282), (0, (if fX13_isLine h x1 = 0 then 1 else 0))] h) := by
  refine (rn_aload_n (pc := 0) (dd bX13_length dX13_length_0) rfl).trans ?_
  refine (rn_aload_n (pc := 1) (dd bX13_length dX13_length_1) rfl).trans ?_
  refine (rn_iload_n (pc := 2) (dd bX13_length dX13_length_2) rfl).trans ?_
  refine (rg_virtual (pc := 3) (dd bX13_length dX13_length_3) rfl rfl (by decide) (kc := 34) rfl s1.1 (as := [(1, 282), (0, x1)]) rfl ⟨Nat.le_of_ble_eq_true rfl, Nat.le_of_ble_eq_true rfl, Nat.le_of_ble_eq_true rfl, Nat.le_of_ble_eq_true rfl⟩).trans ?_
  refine (vret_v (spX13_isLine s1 p2 p3)).trans ?_
  have e1 : vrun mX13_length 6 [(1, 282), (0, x1)] [(0, fX13_isLine h x1), (1, 282)] h = vrun mX13_length 14 [(1, 282), (0, x1)] [(0, (if fX13_isLine h x1 = 0 then 1 else 0)), (1, 282)] h := by
    refine (rn_if_eq (t := 13) (pc := 6) (dd bX13_length dX13_length_6) rfl).trans ?_
    by_cases c1 : fX13_isLine h x1 = 0
    · refine (if_pos c1).trans ?_
      refine (rn_iconst (pc := 13) (dd bX13_length dX13_length_13) (by decide)).trans ?_
      refine Eq.trans (b := vrun mX13_length 14 [(1, 282), (0, x1)] [(0, 1), (1, 282)] h) rfl ?_
      simp only [c1, true_or, false_or, or_true, or_false, true_and, false_and, and_true, and_false, not_true_eq_false, not_false_eq_true, ne_eq, if_true, if_false, ↓reduceIte]
    · refine (if_neg c1).trans ?_
      refine (rn_iconst (pc := 9) (dd bX13_length dX13_length_9) (by decide)).trans ?_
      refine (rn_goto (t := 14) (pc := 10) (dd bX13_length dX13_length_10) rfl).trans ?_
      refine Eq.trans (b := vrun mX13_length 14 [(1, 282), (0, x1)] [(0, 0), (1, 282)] h) rfl ?_
      simp only [c1, true_or, false_or, or_true, or_false, true_and, false_and, and_true, and_false, not_true_eq_false, not_false_eq_true, ne_eq, if_true, if_false, ↓reduceIte]
  refine e1.trans ?_
  exact rg_virtual (pc := 14) (dd bX13_length dX13_length_14) rfl rfl (by decide) (kc := 34) rfl s1.1 (as := [(1, 282), (0, (if fX13_isLine h x1 = 0 then 1 else 0))]) rfl ⟨Nat.le_of_ble_eq_true rfl, Nat.le_of_ble_eq_true rfl, Nat.le_of_ble_eq_true rfl, Nat.le_of_ble_eq_true rfl⟩
theorem rX13_length_17 {x1 : Int} {y0 : Int} {h : vH} (s1 : shModel h) (p2 : ¬ (y0 = 0) → 0 ≤ x1) (p3 : ¬ (y0 = 0) → x1 < 60) : vrun mX13_length 17 [(1, 282), (0, x1)] [(0, y0)] h = some (.inl (some (0, (if y0 = 0 then 0 else h 2 284 x1))), h) := by
  have e1 : vrun mX13_length 17 [(1, 282), (0, x1)] [(0, y0)] h = vrun mX13_length 30 [(1, 282), (0, x1)] [(0, (if y0 = 0 then 0 else h 2 284 x1))] h := by
    refine (rn_if_eq (t := 29) (pc := 17) (dd bX13_length dX13_length_17) rfl).trans ?_
    by_cases c1 : y0 = 0
    · refine (if_pos c1).trans ?_
      refine (rn_iconst (pc := 29) (dd bX13_length dX13_length_29) (by decide)).trans ?_
      refine Eq.trans (b := vrun mX13_length 30 [(1, 282), (0, x1)] [(0, 0)] h) rfl ?_
      simp only [if_pos c1]
    · refine (if_neg c1).trans ?_
      refine (rn_aload_n (pc := 20) (dd bX13_length dX13_length_20) rfl).trans ?_
      refine (rg_gf (pc := 21) (dd bX13_length dX13_length_21) (ci := 14) (j := 2) rfl rfl (key := 1502) rfl (kc := 34) rfl s1.1 s1.2.2.2.2.1).trans ?_
      refine (rn_iload_n (pc := 24) (dd bX13_length dX13_length_24) rfl).trans ?_
      refine (rg_iaload (pc := 25) (dd bX13_length dX13_length_25) s1.2.2.2.2.2.1 s1.2.2.2.2.2.2.1 (p2 c1) (p3 c1) rfl).trans ?_
      refine (rn_goto (t := 30) (pc := 26) (dd bX13_length dX13_length_26) rfl).trans ?_
      refine Eq.trans (b := vrun mX13_length 30 [(1, 282), (0, x1)] [(0, h 2 284 x1)] h) rfl ?_
      simp only [if_neg c1]
  refine e1.trans ?_
  exact rn_ireturn (pc := 30) (dd bX13_length dX13_length_30) (Or.inl rfl)
theorem bX13_sign : vmB mX13_sign = cX13_sign := rfl
theorem rX13_sign_0 {x1 : Int} {x2 : Int} {h : vH} (s1 : shModel h) (p2 : (-2147483648) ≤ h 1504 282 0 - 1) (p3 : h 1504 282 0 - 1 < 2147483648) (p4 : ¬ (fX13_isLine h x1 = 0) → 0 ≤ x1) (p5 : ¬ (fX13_isLine h x1 = 0) → x1 < 60) (p6 : ¬ (fX13_isLine h x1 = 0) → (-2147483648) ≤ h 2 284 x1 - 1) (p7 : ¬ (fX13_isLine h x1 = 0) → h 2 284 x1 - 1 < 2147483648) : vrun mX13_sign 0 [(1, 282), (0, x1), (0, x2), (9, 0)] [] h = vret vrun mX13_sign 36 [(1, 282), (0, x1), (0, x2), (0, fX13_isLine h x1)] [] (vcl mX13_isFine [(1, 282), (0, (if fX13_isLine h x1 = 0 then 1 else (if ¬ (x2 < 0) ∧ ¬ (h 2 284 x1 - 1 < x2) then 0 else 2)))] h) := by
  refine (rn_aload_n (pc := 0) (dd bX13_sign dX13_sign_0) rfl).trans ?_
  refine (rn_iload_n (pc := 1) (dd bX13_sign dX13_sign_1) rfl).trans ?_
  refine (rg_virtual (pc := 2) (dd bX13_sign dX13_sign_2) rfl rfl (by decide) (kc := 34) rfl s1.1 (as := [(1, 282), (0, x1)]) rfl ⟨Nat.le_of_ble_eq_true rfl, Nat.le_of_ble_eq_true rfl, Nat.le_of_ble_eq_true rfl, Nat.le_of_ble_eq_true rfl⟩).trans ?_
  refine (vret_v (spX13_isLine s1 p2 p3)).trans ?_
  refine (rn_istore_n (pc := 5) (dd bX13_sign dX13_sign_5) (Nat.le_of_ble_eq_true rfl) rfl).trans ?_
  refine (rn_aload_n (pc := 6) (dd bX13_sign dX13_sign_6) rfl).trans ?_
  refine (rn_iload_n (pc := 7) (dd bX13_sign dX13_sign_7) rfl).trans ?_
  have e2 : vrun mX13_sign 8 [(1, 282), (0, x1), (0, x2), (0, fX13_isLine h x1)] [(0, fX13_isLine h x1), (1, 282)] h = vrun mX13_sign 36 [(1, 282), (0, x1), (0, x2), (0, fX13_isLine h x1)] [(0, (if fX13_isLine h x1 = 0 then 1 else (if ¬ (x2 < 0) ∧ ¬ (h 2 284 x1 - 1 < x2) then 0 else 2))), (1, 282)] h := by
    refine (rg_if_ne (t := 15) (pc := 8) (dd bX13_sign dX13_sign_8) rfl).trans ?_
    by_cases c1 : fX13_isLine h x1 = 0
    · refine (if_pos c1).trans ?_
      refine (rn_iconst (pc := 11) (dd bX13_sign dX13_sign_11) (by decide)).trans ?_
      refine (rn_goto (t := 36) (pc := 12) (dd bX13_sign dX13_sign_12) rfl).trans ?_
      refine Eq.trans (b := vrun mX13_sign 36 [(1, 282), (0, x1), (0, x2), (0, fX13_isLine h x1)] [(0, 1), (1, 282)] h) rfl ?_
      simp only [if_pos c1]
    · refine (if_neg c1).trans ?_
      refine (rn_iload_n (pc := 15) (dd bX13_sign dX13_sign_15) rfl).trans ?_
      refine (rn_iconst (pc := 16) (dd bX13_sign dX13_sign_16) (by decide)).trans ?_
      refine (rn_aload_n (pc := 17) (dd bX13_sign dX13_sign_17) rfl).trans ?_
      refine (rg_gf (pc := 18) (dd bX13_sign dX13_sign_18) (ci := 14) (j := 2) rfl rfl (key := 1502) rfl (kc := 34) rfl s1.1 s1.2.2.2.2.1).trans ?_
      refine (rn_iload_n (pc := 21) (dd bX13_sign dX13_sign_21) rfl).trans ?_
      refine (rg_iaload (pc := 22) (dd bX13_sign dX13_sign_22) s1.2.2.2.2.2.1 s1.2.2.2.2.2.2.1 (p4 c1) (p5 c1) rfl).trans ?_
      refine (rn_iconst (pc := 23) (dd bX13_sign dX13_sign_23) (by decide)).trans ?_
      refine (rg_isub (pc := 24) (dd bX13_sign dX13_sign_24) (p6 c1) (p7 c1)).trans ?_
      refine (rg_static (pc := 25) (dd bX13_sign dX13_sign_25) rfl (by decide) (Nat.le_of_ble_eq_true rfl) (as := [(0, x2), (0, 0), (0, h 2 284 x1 - 1)]) rfl rfl ⟨Nat.le_of_ble_eq_true rfl, Nat.le_of_ble_eq_true rfl, Nat.le_of_ble_eq_true rfl, Nat.le_of_ble_eq_true rfl⟩).trans ?_
      refine (vret_v spX13_isIn).trans ?_
      have e1 : vrun mX13_sign 28 [(1, 282), (0, x1), (0, x2), (0, fX13_isLine h x1)] [(0, (if ¬ (x2 < 0) ∧ ¬ (h 2 284 x1 - 1 < x2) then 1 else 0)), (1, 282)] h = vrun mX13_sign 36 [(1, 282), (0, x1), (0, x2), (0, fX13_isLine h x1)] [(0, (if ¬ (x2 < 0) ∧ ¬ (h 2 284 x1 - 1 < x2) then 0 else 2)), (1, 282)] h := by
        refine (rg_bne (t := 35) (pc := 28) (dd bX13_sign dX13_sign_28) rfl).trans ?_
        by_cases c2 : ¬ (x2 < 0) ∧ ¬ (h 2 284 x1 - 1 < x2)
        · refine (if_pos c2).trans ?_
          refine (rn_iconst (pc := 35) (dd bX13_sign dX13_sign_35) (by decide)).trans ?_
          refine Eq.trans (b := vrun mX13_sign 36 [(1, 282), (0, x1), (0, x2), (0, fX13_isLine h x1)] [(0, 0), (1, 282)] h) rfl ?_
          simp only [if_pos c2]
        · refine (if_neg c2).trans ?_
          refine (rn_iconst (pc := 31) (dd bX13_sign dX13_sign_31) (by decide)).trans ?_
          refine (rn_goto (t := 36) (pc := 32) (dd bX13_sign dX13_sign_32) rfl).trans ?_
          refine Eq.trans (b := vrun mX13_sign 36 [(1, 282), (0, x1), (0, x2), (0, fX13_isLine h x1)] [(0, 2), (1, 282)] h) rfl ?_
          simp only [if_neg c2]
      refine e1.trans ?_
      refine Eq.trans (b := vrun mX13_sign 36 [(1, 282), (0, x1), (0, x2), (0, fX13_isLine h x1)] [(0, (if ¬ (x2 < 0) ∧ ¬ (h 2 284 x1 - 1 < x2) then 0 else 2)), (1, 282)] h) rfl ?_
      simp only [if_neg c1]
  refine e2.trans ?_
  exact rg_virtual (pc := 36) (dd bX13_sign dX13_sign_36) rfl rfl (by decide) (kc := 34) rfl s1.1 (as := [(1, 282), (0, (if fX13_isLine h x1 = 0 then 1 else (if ¬ (x2 < 0) ∧ ¬ (h 2 284 x1 - 1 < x2) then 0 else 2)))]) rfl ⟨Nat.le_of_ble_eq_true rfl, Nat.le_of_ble_eq_true rfl, Nat.le_of_ble_eq_true rfl, Nat.le_of_ble_eq_true rfl⟩
theorem rX13_sign_39 {x1 : Int} {x2 : Int} {x3 : Int} {y0 : Int} {h : vH} (s1 : shModel h) (p2 : ¬ (y0 = 0) → (-2147483648) ≤ 80 * x1) (p3 : ¬ (y0 = 0) → 80 * x1 < 2147483648) (p4 : ¬ (y0 = 0) → (-2147483648) ≤ 80 * x1 + x2) (p5 : ¬ (y0 = 0) → 80 * x1 + x2 < 2147483648) (p6 : ¬ (y0 = 0) → 0 ≤ 80 * x1 + x2) (p7 : ¬ (y0 = 0) → 80 * x1 + x2 < 4800) : vrun mX13_sign 39 [(1, 282), (0, x1), (0, x2), (0, x3)] [(0, y0)] h = some (.inl (some (0, (if y0 = 0 then 0 else h 2 283 (80 * x1 + x2)))), h) := by
  have e1 : vrun mX13_sign 39 [(1, 282), (0, x1), (0, x2), (0, x3)] [(0, y0)] h = vrun mX13_sign 57 [(1, 282), (0, x1), (0, x2), (0, x3)] [(0, (if y0 = 0 then 0 else h 2 283 (80 * x1 + x2)))] h := by
    refine (rn_if_eq (t := 56) (pc := 39) (dd bX13_sign dX13_sign_39) rfl).trans ?_
    by_cases c1 : y0 = 0
    · refine (if_pos c1).trans ?_
      refine (rn_iconst (pc := 56) (dd bX13_sign dX13_sign_56) (by decide)).trans ?_
      refine Eq.trans (b := vrun mX13_sign 57 [(1, 282), (0, x1), (0, x2), (0, x3)] [(0, 0)] h) rfl ?_
      simp only [if_pos c1]
    · refine (if_neg c1).trans ?_
      refine (rn_aload_n (pc := 42) (dd bX13_sign dX13_sign_42) rfl).trans ?_
      refine (rg_gf (pc := 43) (dd bX13_sign dX13_sign_43) (ci := 14) (j := 1) rfl rfl (key := 1501) rfl (kc := 34) rfl s1.1 s1.2.1).trans ?_
      refine (rn_bipush (pc := 46) (dd bX13_sign dX13_sign_46) (by decide)).trans ?_
      refine (rn_iload_n (pc := 48) (dd bX13_sign dX13_sign_48) rfl).trans ?_
      refine (rg_imul (pc := 49) (dd bX13_sign dX13_sign_49) (p2 c1) (p3 c1)).trans ?_
      refine (rn_iload_n (pc := 50) (dd bX13_sign dX13_sign_50) rfl).trans ?_
      refine (rg_iadd (pc := 51) (dd bX13_sign dX13_sign_51) (p4 c1) (p5 c1)).trans ?_
      refine (rg_iaload (pc := 52) (dd bX13_sign dX13_sign_52) s1.2.2.1 s1.2.2.2.1 (p6 c1) (p7 c1) rfl).trans ?_
      refine (rn_goto (t := 57) (pc := 53) (dd bX13_sign dX13_sign_53) rfl).trans ?_
      refine Eq.trans (b := vrun mX13_sign 57 [(1, 282), (0, x1), (0, x2), (0, x3)] [(0, h 2 283 (80 * x1 + x2))] h) rfl ?_
      simp only [if_neg c1]
  refine e1.trans ?_
  exact rn_ireturn (pc := 57) (dd bX13_sign dX13_sign_57) (Or.inl rfl)
theorem bX13_isSign : vmB mX13_isSign = cX13_isSign := rfl
theorem rX13_isSign_0 {x0 : Int} {h : vH} : vrun mX13_isSign 0 [(0, x0)] [] h = some (.inl (some (0, (if ¬ (x0 < 32) ∧ ¬ (126 < x0) ∨ x0 = 9 then 1 else 0))), h) := by
  refine (rn_iload_n (pc := 0) (dd bX13_isSign dX13_isSign_0) rfl).trans ?_
  refine (rn_bipush (pc := 1) (dd bX13_isSign dX13_isSign_1) (by decide)).trans ?_
  refine (rn_bipush (pc := 3) (dd bX13_isSign dX13_isSign_3) (by decide)).trans ?_
  refine (rg_static (pc := 5) (dd bX13_isSign dX13_isSign_5) rfl (by decide) (Nat.le_of_ble_eq_true rfl) (as := [(0, x0), (0, 32), (0, 126)]) rfl rfl ⟨Nat.le_of_ble_eq_true rfl, Nat.le_of_ble_eq_true rfl, Nat.le_of_ble_eq_true rfl, Nat.le_of_ble_eq_true rfl⟩).trans ?_
  refine (vret_v spX13_isIn).trans ?_
  have e2 : vrun mX13_isSign 8 [(0, x0)] [(0, (if ¬ (x0 < 32) ∧ ¬ (126 < x0) then 1 else 0))] h = vrun mX13_isSign 22 [(0, x0)] [(0, (if ¬ (x0 < 32) ∧ ¬ (126 < x0) ∨ x0 = 9 then 1 else 0))] h := by
    refine (rg_bne (t := 17) (pc := 8) (dd bX13_isSign dX13_isSign_8) rfl).trans ?_
    by_cases c1 : ¬ (x0 < 32) ∧ ¬ (126 < x0)
    · refine (if_pos c1).trans ?_
      refine (rn_iconst (pc := 17) (dd bX13_isSign dX13_isSign_17) (by decide)).trans ?_
      refine (rn_goto (t := 22) (pc := 18) (dd bX13_isSign dX13_isSign_18) rfl).trans ?_
      refine Eq.trans (b := vrun mX13_isSign 22 [(0, x0)] [(0, 1)] h) rfl ?_
      simp only [c1, true_or, false_or, or_true, or_false, true_and, false_and, and_true, and_false, not_true_eq_false, not_false_eq_true, ne_eq, if_true, if_false, ↓reduceIte]
    · refine (if_neg c1).trans ?_
      refine (rn_iload_n (pc := 11) (dd bX13_isSign dX13_isSign_11) rfl).trans ?_
      refine (rn_bipush (pc := 12) (dd bX13_isSign dX13_isSign_12) (by decide)).trans ?_
      have e1 : vrun mX13_isSign 14 [(0, x0)] [(0, 9), (0, x0)] h = vrun mX13_isSign 22 [(0, x0)] [(0, (if x0 = 9 then 1 else 0))] h := by
        refine (rg_icmp_ne (t := 21) (pc := 14) (dd bX13_isSign dX13_isSign_14) rfl).trans ?_
        by_cases c2 : x0 = 9
        · refine (if_pos c2).trans ?_
          refine (rn_iconst (pc := 17) (dd bX13_isSign dX13_isSign_17) (by decide)).trans ?_
          refine (rn_goto (t := 22) (pc := 18) (dd bX13_isSign dX13_isSign_18) rfl).trans ?_
          refine Eq.trans (b := vrun mX13_isSign 22 [(0, x0)] [(0, 1)] h) rfl ?_
          simp only [c2, true_or, false_or, or_true, or_false, true_and, false_and, and_true, and_false, not_true_eq_false, not_false_eq_true, ne_eq, if_true, if_false, ↓reduceIte]
        · refine (if_neg c2).trans ?_
          refine (rn_iconst (pc := 21) (dd bX13_isSign dX13_isSign_21) (by decide)).trans ?_
          refine Eq.trans (b := vrun mX13_isSign 22 [(0, x0)] [(0, 0)] h) rfl ?_
          simp only [c2, true_or, false_or, or_true, or_false, true_and, false_and, and_true, and_false, not_true_eq_false, not_false_eq_true, ne_eq, if_true, if_false, ↓reduceIte]
      refine e1.trans ?_
      refine Eq.trans (b := vrun mX13_isSign 22 [(0, x0)] [(0, (if x0 = 9 then 1 else 0))] h) rfl ?_
      simp only [c1, true_or, false_or, or_true, or_false, true_and, false_and, and_true, and_false, not_true_eq_false, not_false_eq_true, ne_eq, if_true, if_false, ↓reduceIte]
  refine e2.trans ?_
  exact rn_ireturn (pc := 22) (dd bX13_isSign dX13_isSign_22) (Or.inr ⟨rfl, b01⟩)
def fX13_isSign (h : vH) (x0 : Int) : Int := (if ¬ (x0 < 32) ∧ ¬ (126 < x0) ∨ x0 = 9 then 1 else 0)
theorem spX13_isSign {x0 : Int} {h : vH} : vcl mX13_isSign [(0, x0)] h = some (.inl (some (0, fX13_isSign h x0)), h) := by
  refine (show _ = _ from rX13_isSign_0).trans ?_
  rfl
theorem bX13_comes : vmB mX13_comes = cX13_comes := rfl
theorem rX13_comes_0 {x1 : Int} {x2 : Int} {x3 : Int} {h : vH} (p1 : (-2147483648) ≤ 80 * x1) (p2 : 80 * x1 < 2147483648) (s3 : shModel h) (p4 : 0 ≤ x1) (p5 : x1 < 60) (p6 : (-2147483648) ≤ 80 * x1 + h 2 284 x1) (p7 : 80 * x1 + h 2 284 x1 < 2147483648) : vrun mX13_comes 0 [(1, 282), (0, x1), (0, x2), (0, x3), (9, 0)] [] h = vrun mX13_comes 13 [(1, 282), (0, x1), (0, x2), (0, x3), (0, 80 * x1 + h 2 284 x1)] [] h := by
  refine (rn_bipush (pc := 0) (dd bX13_comes dX13_comes_0) (by decide)).trans ?_
  refine (rn_iload_n (pc := 2) (dd bX13_comes dX13_comes_2) rfl).trans ?_
  refine (rg_imul (pc := 3) (dd bX13_comes dX13_comes_3) p1 p2).trans ?_
  refine (rn_aload_n (pc := 4) (dd bX13_comes dX13_comes_4) rfl).trans ?_
  refine (rg_gf (pc := 5) (dd bX13_comes dX13_comes_5) (ci := 14) (j := 2) rfl rfl (key := 1502) rfl (kc := 34) rfl s3.1 s3.2.2.2.2.1).trans ?_
  refine (rn_iload_n (pc := 8) (dd bX13_comes dX13_comes_8) rfl).trans ?_
  refine (rg_iaload (pc := 9) (dd bX13_comes dX13_comes_9) s3.2.2.2.2.2.1 s3.2.2.2.2.2.2.1 p4 p5 rfl).trans ?_
  refine (rg_iadd (pc := 10) (dd bX13_comes dX13_comes_10) p6 p7).trans ?_
  refine (rn_istore (pc := 11) (dd bX13_comes dX13_comes_11) (Nat.le_of_ble_eq_true rfl) rfl).trans ?_
  rfl
theorem rX13_comes_13 {x1 : Int} {x2 : Int} {x3 : Int} {x4 : Int} {h : vH} (p1 : (-2147483648) ≤ 80 * x1) (p2 : 80 * x1 < 2147483648) (p3 : (-2147483648) ≤ 80 * x1 + x2) (p4 : 80 * x1 + x2 < 2147483648) (s5 : shModel h) (p6 : x4 ≤ 80 * x1 + x2 → 0 ≤ 80 * x1 + x2) (p7 : x4 ≤ 80 * x1 + x2 → 80 * x1 + x2 < 4800) (p8 : x4 ≤ 80 * x1 + x2 → 0 ≤ x1) (p9 : x4 ≤ 80 * x1 + x2 → x1 < 60) (p10 : x4 ≤ 80 * x1 + x2 → (-2147483648) ≤ h 2 284 x1 + 1) (p11 : x4 ≤ 80 * x1 + x2 → h 2 284 x1 + 1 < 2147483648) (p12 : ¬ (x4 ≤ 80 * x1 + x2) → (-2147483648) ≤ x4 - 1) (p13 : ¬ (x4 ≤ 80 * x1 + x2) → x4 - 1 < 2147483648) (p14 : ¬ (x4 ≤ 80 * x1 + x2) → 0 ≤ x4 - 1) (p15 : ¬ (x4 ≤ 80 * x1 + x2) → x4 - 1 < 4800) (p16 : ¬ (x4 ≤ 80 * x1 + x2) → 0 ≤ x4) (p17 : ¬ (x4 ≤ 80 * x1 + x2) → x4 < 4800) : vrun mX13_comes 13 [(1, 282), (0, x1), (0, x2), (0, x3), (0, x4)] [] h = if x4 ≤ 80 * x1 + x2 then vrun mX13_comes 71 [(1, 282), (0, x1), (0, x2), (0, x3), (0, 0)] [] (vup (vup h 2 283 (80 * x1 + x2) x3) 2 284 x1 (h 2 284 x1 + 1)) else vrun mX13_comes 13 [(1, 282), (0, x1), (0, x2), (0, x3), (0, x4 + (-1))] [] (vup h 2 283 x4 (h 2 283 (x4 - 1))) := by
  refine (rn_iload (pc := 13) (dd bX13_comes dX13_comes_13) rfl).trans ?_
  refine (rn_bipush (pc := 15) (dd bX13_comes dX13_comes_15) (by decide)).trans ?_
  refine (rn_iload_n (pc := 17) (dd bX13_comes dX13_comes_17) rfl).trans ?_
  refine (rg_imul (pc := 18) (dd bX13_comes dX13_comes_18) p1 p2).trans ?_
  refine (rn_iload_n (pc := 19) (dd bX13_comes dX13_comes_19) rfl).trans ?_
  refine (rg_iadd (pc := 20) (dd bX13_comes dX13_comes_20) p3 p4).trans ?_
  refine (rn_icmp_le (t := 46) (pc := 21) (dd bX13_comes dX13_comes_21) rfl).trans (itec (fun c1 => ?_) (fun c1 => ?_))
  · refine (rn_aload_n (pc := 46) (dd bX13_comes dX13_comes_46) rfl).trans ?_
    refine (rg_gf (pc := 47) (dd bX13_comes dX13_comes_47) (ci := 14) (j := 1) rfl rfl (key := 1501) rfl (kc := 34) rfl s5.1 s5.2.1).trans ?_
    refine (rn_bipush (pc := 50) (dd bX13_comes dX13_comes_50) (by decide)).trans ?_
    refine (rn_iload_n (pc := 52) (dd bX13_comes dX13_comes_52) rfl).trans ?_
    refine (rg_imul (pc := 53) (dd bX13_comes dX13_comes_53) (by omega) (by omega)).trans ?_
    refine (rn_iload_n (pc := 54) (dd bX13_comes dX13_comes_54) rfl).trans ?_
    refine (rg_iadd (pc := 55) (dd bX13_comes dX13_comes_55) (by omega) (by omega)).trans ?_
    refine (rn_iload_n (pc := 56) (dd bX13_comes dX13_comes_56) rfl).trans ?_
    refine (rg_iastore (pc := 57) (dd bX13_comes dX13_comes_57) s5.2.2.1 s5.2.2.2.1 (p6 c1) (p7 c1)).trans ?_
    refine (rn_aload_n (pc := 58) (dd bX13_comes dX13_comes_58) rfl).trans ?_
    refine (rg_gf (pc := 59) (dd bX13_comes dX13_comes_59) (ci := 14) (j := 2) rfl rfl (key := 1502) rfl (kc := 34) rfl ((vup_k (by decide)).trans s5.1) ((vup_k (by decide)).trans s5.2.2.2.2.1)).trans ?_
    refine (rn_iload_n (pc := 62) (dd bX13_comes dX13_comes_62) rfl).trans ?_
    refine (rn_dup2 (pc := 63) (dd bX13_comes dX13_comes_63) (by decide)).trans ?_
    refine (rg_iaload (pc := 64) (dd bX13_comes dX13_comes_64) ((vup_k (by decide)).trans s5.2.2.2.2.2.1) ((vup_k (by decide)).trans s5.2.2.2.2.2.2.1) (p8 c1) (p9 c1) ((vup_r (by omega)).trans rfl)).trans ?_
    refine (rn_iconst (pc := 65) (dd bX13_comes dX13_comes_65) (by decide)).trans ?_
    refine (rg_iadd (pc := 66) (dd bX13_comes dX13_comes_66) (p10 c1) (p11 c1)).trans ?_
    refine (rg_iastore (pc := 67) (dd bX13_comes dX13_comes_67) ((vup_k (by decide)).trans s5.2.2.2.2.2.1) ((vup_k (by decide)).trans s5.2.2.2.2.2.2.1) (by have z0 := p8 c1; have z1 := p9 c1; omega) (by have z0 := p8 c1; have z1 := p9 c1; omega)).trans ?_
    refine (rn_iconst (pc := 68) (dd bX13_comes dX13_comes_68) (by decide)).trans ?_
    refine (rn_istore (pc := 69) (dd bX13_comes dX13_comes_69) (Nat.le_of_ble_eq_true rfl) rfl).trans ?_
    rfl
  · refine (rn_aload_n (pc := 24) (dd bX13_comes dX13_comes_24) rfl).trans ?_
    refine (rg_gf (pc := 25) (dd bX13_comes dX13_comes_25) (ci := 14) (j := 1) rfl rfl (key := 1501) rfl (kc := 34) rfl s5.1 s5.2.1).trans ?_
    refine (rn_iload (pc := 28) (dd bX13_comes dX13_comes_28) rfl).trans ?_
    refine (rn_aload_n (pc := 30) (dd bX13_comes dX13_comes_30) rfl).trans ?_
    refine (rg_gf (pc := 31) (dd bX13_comes dX13_comes_31) (ci := 14) (j := 1) rfl rfl (key := 1501) rfl (kc := 34) rfl s5.1 s5.2.1).trans ?_
    refine (rn_iload (pc := 34) (dd bX13_comes dX13_comes_34) rfl).trans ?_
    refine (rn_iconst (pc := 36) (dd bX13_comes dX13_comes_36) (by decide)).trans ?_
    refine (rg_isub (pc := 37) (dd bX13_comes dX13_comes_37) (p12 c1) (p13 c1)).trans ?_
    refine (rg_iaload (pc := 38) (dd bX13_comes dX13_comes_38) s5.2.2.1 s5.2.2.2.1 (p14 c1) (p15 c1) rfl).trans ?_
    refine (rg_iastore (pc := 39) (dd bX13_comes dX13_comes_39) s5.2.2.1 s5.2.2.2.1 (p16 c1) (p17 c1)).trans ?_
    refine (rg_iinc (pc := 40) (dd bX13_comes dX13_comes_40) rfl (Nat.le_of_ble_eq_true rfl) (by have z0 := p16 c1; have z1 := p17 c1; omega) (by have z0 := p16 c1; have z1 := p17 c1; omega) rfl).trans ?_
    refine (rn_goto (t := 13) (pc := 43) (dd bX13_comes dX13_comes_43) rfl).trans ?_
    rfl
theorem rX13_comes_71 {x1 : Int} {x2 : Int} {x3 : Int} {x4 : Int} {h : vH} (s1 : shModel h) (p2 : ¬ (24 ≤ x4) → 0 ≤ x4) (p3 : ¬ (24 ≤ x4) → (-2147483648) ≤ h 2 295 x4 + (if h 2 294 x4 = x1 ∧ ¬ (h 2 295 x4 < x2) then 1 else 0)) (p4 : ¬ (24 ≤ x4) → h 2 295 x4 + (if h 2 294 x4 = x1 ∧ ¬ (h 2 295 x4 < x2) then 1 else 0) < 2147483648) (p5 : ¬ (24 ≤ x4) → (-2147483648) ≤ h 2 296 x4 + (if h 2 294 x4 = x1 ∧ ¬ (h 2 296 x4 ≤ x2) then 1 else 0)) (p6 : ¬ (24 ≤ x4) → h 2 296 x4 + (if h 2 294 x4 = x1 ∧ ¬ (h 2 296 x4 ≤ x2) then 1 else 0) < 2147483648) (p7 : ¬ (24 ≤ x4) → (-2147483648) ≤ h 2 299 x4 + (if h 2 298 x4 = x1 ∧ ¬ (h 2 299 x4 ≤ x2) then 1 else 0)) (p8 : ¬ (24 ≤ x4) → h 2 299 x4 + (if h 2 298 x4 = x1 ∧ ¬ (h 2 299 x4 ≤ x2) then 1 else 0) < 2147483648) : vrun mX13_comes 71 [(1, 282), (0, x1), (0, x2), (0, x3), (0, x4)] [] h = if 24 ≤ x4 then vrun mX13_comes 198 [(1, 282), (0, x1), (0, x2), (0, x3), (0, 0)] [] h else vrun mX13_comes 71 [(1, 282), (0, x1), (0, x2), (0, x3), (0, x4 + 1)] [] (vup (vup (vup h 2 295 x4 (h 2 295 x4 + (if h 2 294 x4 = x1 ∧ ¬ (h 2 295 x4 < x2) then 1 else 0))) 2 296 x4 (h 2 296 x4 + (if h 2 294 x4 = x1 ∧ ¬ (h 2 296 x4 ≤ x2) then 1 else 0))) 2 299 x4 (h 2 299 x4 + (if h 2 298 x4 = x1 ∧ ¬ (h 2 299 x4 ≤ x2) then 1 else 0))) := by
  refine (rn_iload (pc := 71) (dd bX13_comes dX13_comes_71) rfl).trans ?_
  refine (rn_bipush (pc := 73) (dd bX13_comes dX13_comes_73) (by decide)).trans ?_
  refine (rn_icmp_ge (t := 195) (pc := 75) (dd bX13_comes dX13_comes_75) rfl).trans (itec (fun c1 => ?_) (fun c1 => ?_))
  · refine (rn_iconst (pc := 195) (dd bX13_comes dX13_comes_195) (by decide)).trans ?_
    refine (rn_istore (pc := 196) (dd bX13_comes dX13_comes_196) (Nat.le_of_ble_eq_true rfl) rfl).trans ?_
    rfl
  · refine (rn_aload_n (pc := 78) (dd bX13_comes dX13_comes_78) rfl).trans ?_
    refine (rg_gf (pc := 79) (dd bX13_comes dX13_comes_79) (ci := 14) (j := 14) rfl rfl (key := 1514) rfl (kc := 34) rfl s1.1 s1.2.2.2.2.2.2.2.2.2.2.2.2.2.2.2.2.2.2.2.2.2.2.2.2.2.2.2.2.2.2.2.2.2.2.2.2.2.1).trans ?_
    refine (rn_iload (pc := 82) (dd bX13_comes dX13_comes_82) rfl).trans ?_
    refine (rn_dup2 (pc := 84) (dd bX13_comes dX13_comes_84) (by decide)).trans ?_
    refine (rg_iaload (pc := 85) (dd bX13_comes dX13_comes_85) s1.2.2.2.2.2.2.2.2.2.2.2.2.2.2.2.2.2.2.2.2.2.2.2.2.2.2.2.2.2.2.2.2.2.2.2.2.2.2.1 s1.2.2.2.2.2.2.2.2.2.2.2.2.2.2.2.2.2.2.2.2.2.2.2.2.2.2.2.2.2.2.2.2.2.2.2.2.2.2.2.1 (p2 c1) (Int.not_le.mp c1) rfl).trans ?_
    refine (rn_aload_n (pc := 86) (dd bX13_comes dX13_comes_86) rfl).trans ?_
    refine (rg_gf (pc := 87) (dd bX13_comes dX13_comes_87) (ci := 14) (j := 13) rfl rfl (key := 1513) rfl (kc := 34) rfl s1.1 s1.2.2.2.2.2.2.2.2.2.2.2.2.2.2.2.2.2.2.2.2.2.2.2.2.2.2.2.2.2.2.2.2.2.2.1).trans ?_
    refine (rn_iload (pc := 90) (dd bX13_comes dX13_comes_90) rfl).trans ?_
    refine (rg_iaload (pc := 92) (dd bX13_comes dX13_comes_92) s1.2.2.2.2.2.2.2.2.2.2.2.2.2.2.2.2.2.2.2.2.2.2.2.2.2.2.2.2.2.2.2.2.2.2.2.1 s1.2.2.2.2.2.2.2.2.2.2.2.2.2.2.2.2.2.2.2.2.2.2.2.2.2.2.2.2.2.2.2.2.2.2.2.2.1 (by have z0 := p2 c1; omega) (Int.not_le.mp c1) rfl).trans ?_
    refine (rn_iload_n (pc := 93) (dd bX13_comes dX13_comes_93) rfl).trans ?_
    have e2 : vrun mX13_comes 94 [(1, 282), (0, x1), (0, x2), (0, x3), (0, x4)] [(0, x1), (0, h 2 294 x4), (0, h 2 295 x4), (0, x4), (1, 295)] h = vrun mX13_comes 113 [(1, 282), (0, x1), (0, x2), (0, x3), (0, x4)] [(0, (if h 2 294 x4 = x1 ∧ ¬ (h 2 295 x4 < x2) then 1 else 0)), (0, h 2 295 x4), (0, x4), (1, 295)] h := by
      refine (rg_icmp_ne (t := 112) (pc := 94) (dd bX13_comes dX13_comes_94) rfl).trans ?_
      by_cases c2 : h 2 294 x4 = x1
      · refine (if_pos c2).trans ?_
        refine (rn_aload_n (pc := 97) (dd bX13_comes dX13_comes_97) rfl).trans ?_
        refine (rg_gf (pc := 98) (dd bX13_comes dX13_comes_98) (ci := 14) (j := 14) rfl rfl (key := 1514) rfl (kc := 34) rfl s1.1 s1.2.2.2.2.2.2.2.2.2.2.2.2.2.2.2.2.2.2.2.2.2.2.2.2.2.2.2.2.2.2.2.2.2.2.2.2.2.1).trans ?_
        refine (rn_iload (pc := 101) (dd bX13_comes dX13_comes_101) rfl).trans ?_
        refine (rg_iaload (pc := 103) (dd bX13_comes dX13_comes_103) s1.2.2.2.2.2.2.2.2.2.2.2.2.2.2.2.2.2.2.2.2.2.2.2.2.2.2.2.2.2.2.2.2.2.2.2.2.2.2.1 s1.2.2.2.2.2.2.2.2.2.2.2.2.2.2.2.2.2.2.2.2.2.2.2.2.2.2.2.2.2.2.2.2.2.2.2.2.2.2.2.1 (by have z0 := p2 c1; omega) (Int.not_le.mp c1) rfl).trans ?_
        refine (rn_iload_n (pc := 104) (dd bX13_comes dX13_comes_104) rfl).trans ?_
        have e1 : vrun mX13_comes 105 [(1, 282), (0, x1), (0, x2), (0, x3), (0, x4)] [(0, x2), (0, h 2 295 x4), (0, h 2 295 x4), (0, x4), (1, 295)] h = vrun mX13_comes 113 [(1, 282), (0, x1), (0, x2), (0, x3), (0, x4)] [(0, (if ¬ (h 2 295 x4 < x2) then 1 else 0)), (0, h 2 295 x4), (0, x4), (1, 295)] h := by
          refine (rn_icmp_lt (t := 112) (pc := 105) (dd bX13_comes dX13_comes_105) rfl).trans ?_
          by_cases c3 : h 2 295 x4 < x2
          · refine (if_pos c3).trans ?_
            refine (rn_iconst (pc := 112) (dd bX13_comes dX13_comes_112) (by decide)).trans ?_
            refine Eq.trans (b := vrun mX13_comes 113 [(1, 282), (0, x1), (0, x2), (0, x3), (0, x4)] [(0, 0), (0, h 2 295 x4), (0, x4), (1, 295)] h) rfl ?_
            simp only [c3, true_or, false_or, or_true, or_false, true_and, false_and, and_true, and_false, not_true_eq_false, not_false_eq_true, ne_eq, if_true, if_false, ↓reduceIte]
          · refine (if_neg c3).trans ?_
            refine (rn_iconst (pc := 108) (dd bX13_comes dX13_comes_108) (by decide)).trans ?_
            refine (rn_goto (t := 113) (pc := 109) (dd bX13_comes dX13_comes_109) rfl).trans ?_
            refine Eq.trans (b := vrun mX13_comes 113 [(1, 282), (0, x1), (0, x2), (0, x3), (0, x4)] [(0, 1), (0, h 2 295 x4), (0, x4), (1, 295)] h) rfl ?_
            simp only [c3, true_or, false_or, or_true, or_false, true_and, false_and, and_true, and_false, not_true_eq_false, not_false_eq_true, ne_eq, if_true, if_false, ↓reduceIte]
        refine e1.trans ?_
        refine Eq.trans (b := vrun mX13_comes 113 [(1, 282), (0, x1), (0, x2), (0, x3), (0, x4)] [(0, (if ¬ (h 2 295 x4 < x2) then 1 else 0)), (0, h 2 295 x4), (0, x4), (1, 295)] h) rfl ?_
        simp only [c2, true_or, false_or, or_true, or_false, true_and, false_and, and_true, and_false, not_true_eq_false, not_false_eq_true, ne_eq, if_true, if_false, ↓reduceIte]
      · refine (if_neg c2).trans ?_
        refine (rn_iconst (pc := 112) (dd bX13_comes dX13_comes_112) (by decide)).trans ?_
        refine Eq.trans (b := vrun mX13_comes 113 [(1, 282), (0, x1), (0, x2), (0, x3), (0, x4)] [(0, 0), (0, h 2 295 x4), (0, x4), (1, 295)] h) rfl ?_
        simp only [c2, true_or, false_or, or_true, or_false, true_and, false_and, and_true, and_false, not_true_eq_false, not_false_eq_true, ne_eq, if_true, if_false, ↓reduceIte]
    refine e2.trans ?_
    refine (rg_iadd (pc := 113) (dd bX13_comes dX13_comes_113) (p3 c1) (p4 c1)).trans ?_
    refine (rg_iastore (pc := 114) (dd bX13_comes dX13_comes_114) s1.2.2.2.2.2.2.2.2.2.2.2.2.2.2.2.2.2.2.2.2.2.2.2.2.2.2.2.2.2.2.2.2.2.2.2.2.2.2.1 s1.2.2.2.2.2.2.2.2.2.2.2.2.2.2.2.2.2.2.2.2.2.2.2.2.2.2.2.2.2.2.2.2.2.2.2.2.2.2.2.1 (by have z0 := p2 c1; omega) (Int.not_le.mp c1)).trans ?_
    refine (rn_aload_n (pc := 115) (dd bX13_comes dX13_comes_115) rfl).trans ?_
    refine (rg_gf (pc := 116) (dd bX13_comes dX13_comes_116) (ci := 14) (j := 15) rfl rfl (key := 1515) rfl (kc := 34) rfl ((vup_k (by decide)).trans s1.1) ((vup_k (by decide)).trans s1.2.2.2.2.2.2.2.2.2.2.2.2.2.2.2.2.2.2.2.2.2.2.2.2.2.2.2.2.2.2.2.2.2.2.2.2.2.2.2.2.1)).trans ?_
    refine (rn_iload (pc := 119) (dd bX13_comes dX13_comes_119) rfl).trans ?_
    refine (rn_dup2 (pc := 121) (dd bX13_comes dX13_comes_121) (by decide)).trans ?_
    refine (rg_iaload (pc := 122) (dd bX13_comes dX13_comes_122) ((vup_k (by decide)).trans s1.2.2.2.2.2.2.2.2.2.2.2.2.2.2.2.2.2.2.2.2.2.2.2.2.2.2.2.2.2.2.2.2.2.2.2.2.2.2.2.2.2.1) ((vup_k (by decide)).trans s1.2.2.2.2.2.2.2.2.2.2.2.2.2.2.2.2.2.2.2.2.2.2.2.2.2.2.2.2.2.2.2.2.2.2.2.2.2.2.2.2.2.2.1) (by have z0 := p2 c1; omega) (Int.not_le.mp c1) ((vup_r (by omega)).trans rfl)).trans ?_
    refine (rn_aload_n (pc := 123) (dd bX13_comes dX13_comes_123) rfl).trans ?_
    refine (rg_gf (pc := 124) (dd bX13_comes dX13_comes_124) (ci := 14) (j := 13) rfl rfl (key := 1513) rfl (kc := 34) rfl ((vup_k (by decide)).trans s1.1) ((vup_k (by decide)).trans s1.2.2.2.2.2.2.2.2.2.2.2.2.2.2.2.2.2.2.2.2.2.2.2.2.2.2.2.2.2.2.2.2.2.2.1)).trans ?_
    refine (rn_iload (pc := 127) (dd bX13_comes dX13_comes_127) rfl).trans ?_
    refine (rg_iaload (pc := 129) (dd bX13_comes dX13_comes_129) ((vup_k (by decide)).trans s1.2.2.2.2.2.2.2.2.2.2.2.2.2.2.2.2.2.2.2.2.2.2.2.2.2.2.2.2.2.2.2.2.2.2.2.1) ((vup_k (by decide)).trans s1.2.2.2.2.2.2.2.2.2.2.2.2.2.2.2.2.2.2.2.2.2.2.2.2.2.2.2.2.2.2.2.2.2.2.2.2.1) (by have z0 := p2 c1; omega) (Int.not_le.mp c1) ((vup_r (by omega)).trans rfl)).trans ?_
    refine (rn_iload_n (pc := 130) (dd bX13_comes dX13_comes_130) rfl).trans ?_
    have e4 : vrun mX13_comes 131 [(1, 282), (0, x1), (0, x2), (0, x3), (0, x4)] [(0, x1), (0, h 2 294 x4), (0, h 2 296 x4), (0, x4), (1, 296)] (vup h 2 295 x4 (h 2 295 x4 + (if h 2 294 x4 = x1 ∧ ¬ (h 2 295 x4 < x2) then 1 else 0))) = vrun mX13_comes 150 [(1, 282), (0, x1), (0, x2), (0, x3), (0, x4)] [(0, (if h 2 294 x4 = x1 ∧ ¬ (h 2 296 x4 ≤ x2) then 1 else 0)), (0, h 2 296 x4), (0, x4), (1, 296)] (vup h 2 295 x4 (h 2 295 x4 + (if h 2 294 x4 = x1 ∧ ¬ (h 2 295 x4 < x2) then 1 else 0))) := by
      refine (rg_icmp_ne (t := 149) (pc := 131) (dd bX13_comes dX13_comes_131) rfl).trans ?_
      by_cases c4 : h 2 294 x4 = x1
      · refine (if_pos c4).trans ?_
        refine (rn_aload_n (pc := 134) (dd bX13_comes dX13_comes_134) rfl).trans ?_
        refine (rg_gf (pc := 135) (dd bX13_comes dX13_comes_135) (ci := 14) (j := 15) rfl rfl (key := 1515) rfl (kc := 34) rfl ((vup_k (by decide)).trans s1.1) ((vup_k (by decide)).trans s1.2.2.2.2.2.2.2.2.2.2.2.2.2.2.2.2.2.2.2.2.2.2.2.2.2.2.2.2.2.2.2.2.2.2.2.2.2.2.2.2.1)).trans ?_
        refine (rn_iload (pc := 138) (dd bX13_comes dX13_comes_138) rfl).trans ?_
        refine (rg_iaload (pc := 140) (dd bX13_comes dX13_comes_140) ((vup_k (by decide)).trans s1.2.2.2.2.2.2.2.2.2.2.2.2.2.2.2.2.2.2.2.2.2.2.2.2.2.2.2.2.2.2.2.2.2.2.2.2.2.2.2.2.2.1) ((vup_k (by decide)).trans s1.2.2.2.2.2.2.2.2.2.2.2.2.2.2.2.2.2.2.2.2.2.2.2.2.2.2.2.2.2.2.2.2.2.2.2.2.2.2.2.2.2.2.1) (by have z0 := p2 c1; omega) (Int.not_le.mp c1) ((vup_r (by omega)).trans rfl)).trans ?_
        refine (rn_iload_n (pc := 141) (dd bX13_comes dX13_comes_141) rfl).trans ?_
        have e3 : vrun mX13_comes 142 [(1, 282), (0, x1), (0, x2), (0, x3), (0, x4)] [(0, x2), (0, h 2 296 x4), (0, h 2 296 x4), (0, x4), (1, 296)] (vup h 2 295 x4 (h 2 295 x4 + (if h 2 294 x4 = x1 ∧ ¬ (h 2 295 x4 < x2) then 1 else 0))) = vrun mX13_comes 150 [(1, 282), (0, x1), (0, x2), (0, x3), (0, x4)] [(0, (if ¬ (h 2 296 x4 ≤ x2) then 1 else 0)), (0, h 2 296 x4), (0, x4), (1, 296)] (vup h 2 295 x4 (h 2 295 x4 + (if h 2 294 x4 = x1 ∧ ¬ (h 2 295 x4 < x2) then 1 else 0))) := by
          refine (rn_icmp_le (t := 149) (pc := 142) (dd bX13_comes dX13_comes_142) rfl).trans ?_
          by_cases c5 : h 2 296 x4 ≤ x2
          · refine (if_pos c5).trans ?_
            refine (rn_iconst (pc := 149) (dd bX13_comes dX13_comes_149) (by decide)).trans ?_
            refine Eq.trans (b := vrun mX13_comes 150 [(1, 282), (0, x1), (0, x2), (0, x3), (0, x4)] [(0, 0), (0, h 2 296 x4), (0, x4), (1, 296)] (vup h 2 295 x4 (h 2 295 x4 + (if h 2 294 x4 = x1 ∧ ¬ (h 2 295 x4 < x2) then 1 else 0)))) rfl ?_
            simp only [c5, true_or, false_or, or_true, or_false, true_and, false_and, and_true, and_false, not_true_eq_false, not_false_eq_true, ne_eq, if_true, if_false, ↓reduceIte]
          · refine (if_neg c5).trans ?_
            refine (rn_iconst (pc := 145) (dd bX13_comes dX13_comes_145) (by decide)).trans ?_
            refine (rn_goto (t := 150) (pc := 146) (dd bX13_comes dX13_comes_146) rfl).trans ?_
            refine Eq.trans (b := vrun mX13_comes 150 [(1, 282), (0, x1), (0, x2), (0, x3), (0, x4)] [(0, 1), (0, h 2 296 x4), (0, x4), (1, 296)] (vup h 2 295 x4 (h 2 295 x4 + (if h 2 294 x4 = x1 ∧ ¬ (h 2 295 x4 < x2) then 1 else 0)))) rfl ?_
            simp only [c5, true_or, false_or, or_true, or_false, true_and, false_and, and_true, and_false, not_true_eq_false, not_false_eq_true, ne_eq, if_true, if_false, ↓reduceIte]
        refine e3.trans ?_
        refine Eq.trans (b := vrun mX13_comes 150 [(1, 282), (0, x1), (0, x2), (0, x3), (0, x4)] [(0, (if ¬ (h 2 296 x4 ≤ x2) then 1 else 0)), (0, h 2 296 x4), (0, x4), (1, 296)] (vup h 2 295 x4 (h 2 295 x4 + (if h 2 294 x4 = x1 ∧ ¬ (h 2 295 x4 < x2) then 1 else 0)))) rfl ?_
        simp only [c4, true_or, false_or, or_true, or_false, true_and, false_and, and_true, and_false, not_true_eq_false, not_false_eq_true, ne_eq, if_true, if_false, ↓reduceIte]
      · refine (if_neg c4).trans ?_
        refine (rn_iconst (pc := 149) (dd bX13_comes dX13_comes_149) (by decide)).trans ?_
        refine Eq.trans (b := vrun mX13_comes 150 [(1, 282), (0, x1), (0, x2), (0, x3), (0, x4)] [(0, 0), (0, h 2 296 x4), (0, x4), (1, 296)] (vup h 2 295 x4 (h 2 295 x4 + (if h 2 294 x4 = x1 ∧ ¬ (h 2 295 x4 < x2) then 1 else 0)))) rfl ?_
        simp only [c4, true_or, false_or, or_true, or_false, true_and, false_and, and_true, and_false, not_true_eq_false, not_false_eq_true, ne_eq, if_true, if_false, ↓reduceIte]
    refine e4.trans ?_
    refine (rg_iadd (pc := 150) (dd bX13_comes dX13_comes_150) (p5 c1) (p6 c1)).trans ?_
    refine (rg_iastore (pc := 151) (dd bX13_comes dX13_comes_151) ((vup_k (by decide)).trans s1.2.2.2.2.2.2.2.2.2.2.2.2.2.2.2.2.2.2.2.2.2.2.2.2.2.2.2.2.2.2.2.2.2.2.2.2.2.2.2.2.2.1) ((vup_k (by decide)).trans s1.2.2.2.2.2.2.2.2.2.2.2.2.2.2.2.2.2.2.2.2.2.2.2.2.2.2.2.2.2.2.2.2.2.2.2.2.2.2.2.2.2.2.1) (by have z0 := p2 c1; omega) (Int.not_le.mp c1)).trans ?_
    refine (rn_aload_n (pc := 152) (dd bX13_comes dX13_comes_152) rfl).trans ?_
    refine (rg_gf (pc := 153) (dd bX13_comes dX13_comes_153) (ci := 14) (j := 18) rfl rfl (key := 1518) rfl (kc := 34) rfl ((vup_k (by decide)).trans ((vup_k (by decide)).trans s1.1)) ((vup_k (by decide)).trans ((vup_k (by decide)).trans s1.2.2.2.2.2.2.2.2.2.2.2.2.2.2.2.2.2.2.2.2.2.2.2.2.2.2.2.2.2.2.2.2.2.2.2.2.2.2.2.2.2.2.2.2.2.2.2.2.2.1))).trans ?_
    refine (rn_iload (pc := 156) (dd bX13_comes dX13_comes_156) rfl).trans ?_
    refine (rn_dup2 (pc := 158) (dd bX13_comes dX13_comes_158) (by decide)).trans ?_
    refine (rg_iaload (pc := 159) (dd bX13_comes dX13_comes_159) ((vup_k (by decide)).trans ((vup_k (by decide)).trans s1.2.2.2.2.2.2.2.2.2.2.2.2.2.2.2.2.2.2.2.2.2.2.2.2.2.2.2.2.2.2.2.2.2.2.2.2.2.2.2.2.2.2.2.2.2.2.2.2.2.2.1)) ((vup_k (by decide)).trans ((vup_k (by decide)).trans s1.2.2.2.2.2.2.2.2.2.2.2.2.2.2.2.2.2.2.2.2.2.2.2.2.2.2.2.2.2.2.2.2.2.2.2.2.2.2.2.2.2.2.2.2.2.2.2.2.2.2.2.1)) (by have z0 := p2 c1; omega) (Int.not_le.mp c1) ((vup_r (by omega)).trans ((vup_r (by omega)).trans rfl))).trans ?_
    refine (rn_aload_n (pc := 160) (dd bX13_comes dX13_comes_160) rfl).trans ?_
    refine (rg_gf (pc := 161) (dd bX13_comes dX13_comes_161) (ci := 14) (j := 17) rfl rfl (key := 1517) rfl (kc := 34) rfl ((vup_k (by decide)).trans ((vup_k (by decide)).trans s1.1)) ((vup_k (by decide)).trans ((vup_k (by decide)).trans s1.2.2.2.2.2.2.2.2.2.2.2.2.2.2.2.2.2.2.2.2.2.2.2.2.2.2.2.2.2.2.2.2.2.2.2.2.2.2.2.2.2.2.2.2.2.2.1))).trans ?_
    refine (rn_iload (pc := 164) (dd bX13_comes dX13_comes_164) rfl).trans ?_
    refine (rg_iaload (pc := 166) (dd bX13_comes dX13_comes_166) ((vup_k (by decide)).trans ((vup_k (by decide)).trans s1.2.2.2.2.2.2.2.2.2.2.2.2.2.2.2.2.2.2.2.2.2.2.2.2.2.2.2.2.2.2.2.2.2.2.2.2.2.2.2.2.2.2.2.2.2.2.2.1)) ((vup_k (by decide)).trans ((vup_k (by decide)).trans s1.2.2.2.2.2.2.2.2.2.2.2.2.2.2.2.2.2.2.2.2.2.2.2.2.2.2.2.2.2.2.2.2.2.2.2.2.2.2.2.2.2.2.2.2.2.2.2.2.1)) (by have z0 := p2 c1; omega) (Int.not_le.mp c1) ((vup_r (by omega)).trans ((vup_r (by omega)).trans rfl))).trans ?_
    refine (rn_iload_n (pc := 167) (dd bX13_comes dX13_comes_167) rfl).trans ?_
    have e6 : vrun mX13_comes 168 [(1, 282), (0, x1), (0, x2), (0, x3), (0, x4)] [(0, x1), (0, h 2 298 x4), (0, h 2 299 x4), (0, x4), (1, 299)] (vup (vup h 2 295 x4 (h 2 295 x4 + (if h 2 294 x4 = x1 ∧ ¬ (h 2 295 x4 < x2) then 1 else 0))) 2 296 x4 (h 2 296 x4 + (if h 2 294 x4 = x1 ∧ ¬ (h 2 296 x4 ≤ x2) then 1 else 0))) = vrun mX13_comes 187 [(1, 282), (0, x1), (0, x2), (0, x3), (0, x4)] [(0, (if h 2 298 x4 = x1 ∧ ¬ (h 2 299 x4 ≤ x2) then 1 else 0)), (0, h 2 299 x4), (0, x4), (1, 299)] (vup (vup h 2 295 x4 (h 2 295 x4 + (if h 2 294 x4 = x1 ∧ ¬ (h 2 295 x4 < x2) then 1 else 0))) 2 296 x4 (h 2 296 x4 + (if h 2 294 x4 = x1 ∧ ¬ (h 2 296 x4 ≤ x2) then 1 else 0))) := by
      refine (rg_icmp_ne (t := 186) (pc := 168) (dd bX13_comes dX13_comes_168) rfl).trans ?_
      by_cases c6 : h 2 298 x4 = x1
      · refine (if_pos c6).trans ?_
        refine (rn_aload_n (pc := 171) (dd bX13_comes dX13_comes_171) rfl).trans ?_
        refine (rg_gf (pc := 172) (dd bX13_comes dX13_comes_172) (ci := 14) (j := 18) rfl rfl (key := 1518) rfl (kc := 34) rfl ((vup_k (by decide)).trans ((vup_k (by decide)).trans s1.1)) ((vup_k (by decide)).trans ((vup_k (by decide)).trans s1.2.2.2.2.2.2.2.2.2.2.2.2.2.2.2.2.2.2.2.2.2.2.2.2.2.2.2.2.2.2.2.2.2.2.2.2.2.2.2.2.2.2.2.2.2.2.2.2.2.1))).trans ?_
        refine (rn_iload (pc := 175) (dd bX13_comes dX13_comes_175) rfl).trans ?_
        refine (rg_iaload (pc := 177) (dd bX13_comes dX13_comes_177) ((vup_k (by decide)).trans ((vup_k (by decide)).trans s1.2.2.2.2.2.2.2.2.2.2.2.2.2.2.2.2.2.2.2.2.2.2.2.2.2.2.2.2.2.2.2.2.2.2.2.2.2.2.2.2.2.2.2.2.2.2.2.2.2.2.1)) ((vup_k (by decide)).trans ((vup_k (by decide)).trans s1.2.2.2.2.2.2.2.2.2.2.2.2.2.2.2.2.2.2.2.2.2.2.2.2.2.2.2.2.2.2.2.2.2.2.2.2.2.2.2.2.2.2.2.2.2.2.2.2.2.2.2.1)) (by have z0 := p2 c1; omega) (Int.not_le.mp c1) ((vup_r (by omega)).trans ((vup_r (by omega)).trans rfl))).trans ?_
        refine (rn_iload_n (pc := 178) (dd bX13_comes dX13_comes_178) rfl).trans ?_
        have e5 : vrun mX13_comes 179 [(1, 282), (0, x1), (0, x2), (0, x3), (0, x4)] [(0, x2), (0, h 2 299 x4), (0, h 2 299 x4), (0, x4), (1, 299)] (vup (vup h 2 295 x4 (h 2 295 x4 + (if h 2 294 x4 = x1 ∧ ¬ (h 2 295 x4 < x2) then 1 else 0))) 2 296 x4 (h 2 296 x4 + (if h 2 294 x4 = x1 ∧ ¬ (h 2 296 x4 ≤ x2) then 1 else 0))) = vrun mX13_comes 187 [(1, 282), (0, x1), (0, x2), (0, x3), (0, x4)] [(0, (if ¬ (h 2 299 x4 ≤ x2) then 1 else 0)), (0, h 2 299 x4), (0, x4), (1, 299)] (vup (vup h 2 295 x4 (h 2 295 x4 + (if h 2 294 x4 = x1 ∧ ¬ (h 2 295 x4 < x2) then 1 else 0))) 2 296 x4 (h 2 296 x4 + (if h 2 294 x4 = x1 ∧ ¬ (h 2 296 x4 ≤ x2) then 1 else 0))) := by
          refine (rn_icmp_le (t := 186) (pc := 179) (dd bX13_comes dX13_comes_179) rfl).trans ?_
          by_cases c7 : h 2 299 x4 ≤ x2
          · refine (if_pos c7).trans ?_
            refine (rn_iconst (pc := 186) (dd bX13_comes dX13_comes_186) (by decide)).trans ?_
            refine Eq.trans (b := vrun mX13_comes 187 [(1, 282), (0, x1), (0, x2), (0, x3), (0, x4)] [(0, 0), (0, h 2 299 x4), (0, x4), (1, 299)] (vup (vup h 2 295 x4 (h 2 295 x4 + (if h 2 294 x4 = x1 ∧ ¬ (h 2 295 x4 < x2) then 1 else 0))) 2 296 x4 (h 2 296 x4 + (if h 2 294 x4 = x1 ∧ ¬ (h 2 296 x4 ≤ x2) then 1 else 0)))) rfl ?_
            simp only [c7, true_or, false_or, or_true, or_false, true_and, false_and, and_true, and_false, not_true_eq_false, not_false_eq_true, ne_eq, if_true, if_false, ↓reduceIte]
          · refine (if_neg c7).trans ?_
            refine (rn_iconst (pc := 182) (dd bX13_comes dX13_comes_182) (by decide)).trans ?_
            refine (rn_goto (t := 187) (pc := 183) (dd bX13_comes dX13_comes_183) rfl).trans ?_
            refine Eq.trans (b := vrun mX13_comes 187 [(1, 282), (0, x1), (0, x2), (0, x3), (0, x4)] [(0, 1), (0, h 2 299 x4), (0, x4), (1, 299)] (vup (vup h 2 295 x4 (h 2 295 x4 + (if h 2 294 x4 = x1 ∧ ¬ (h 2 295 x4 < x2) then 1 else 0))) 2 296 x4 (h 2 296 x4 + (if h 2 294 x4 = x1 ∧ ¬ (h 2 296 x4 ≤ x2) then 1 else 0)))) rfl ?_
            simp only [c7, true_or, false_or, or_true, or_false, true_and, false_and, and_true, and_false, not_true_eq_false, not_false_eq_true, ne_eq, if_true, if_false, ↓reduceIte]
        refine e5.trans ?_
        refine Eq.trans (b := vrun mX13_comes 187 [(1, 282), (0, x1), (0, x2), (0, x3), (0, x4)] [(0, (if ¬ (h 2 299 x4 ≤ x2) then 1 else 0)), (0, h 2 299 x4), (0, x4), (1, 299)] (vup (vup h 2 295 x4 (h 2 295 x4 + (if h 2 294 x4 = x1 ∧ ¬ (h 2 295 x4 < x2) then 1 else 0))) 2 296 x4 (h 2 296 x4 + (if h 2 294 x4 = x1 ∧ ¬ (h 2 296 x4 ≤ x2) then 1 else 0)))) rfl ?_
        simp only [c6, true_or, false_or, or_true, or_false, true_and, false_and, and_true, and_false, not_true_eq_false, not_false_eq_true, ne_eq, if_true, if_false, ↓reduceIte]
      · refine (if_neg c6).trans ?_
        refine (rn_iconst (pc := 186) (dd bX13_comes dX13_comes_186) (by decide)).trans ?_
        refine Eq.trans (b := vrun mX13_comes 187 [(1, 282), (0, x1), (0, x2), (0, x3), (0, x4)] [(0, 0), (0, h 2 299 x4), (0, x4), (1, 299)] (vup (vup h 2 295 x4 (h 2 295 x4 + (if h 2 294 x4 = x1 ∧ ¬ (h 2 295 x4 < x2) then 1 else 0))) 2 296 x4 (h 2 296 x4 + (if h 2 294 x4 = x1 ∧ ¬ (h 2 296 x4 ≤ x2) then 1 else 0)))) rfl ?_
        simp only [c6, true_or, false_or, or_true, or_false, true_and, false_and, and_true, and_false, not_true_eq_false, not_false_eq_true, ne_eq, if_true, if_false, ↓reduceIte]
    refine e6.trans ?_
    refine (rg_iadd (pc := 187) (dd bX13_comes dX13_comes_187) (p7 c1) (p8 c1)).trans ?_
    refine (rg_iastore (pc := 188) (dd bX13_comes dX13_comes_188) ((vup_k (by decide)).trans ((vup_k (by decide)).trans s1.2.2.2.2.2.2.2.2.2.2.2.2.2.2.2.2.2.2.2.2.2.2.2.2.2.2.2.2.2.2.2.2.2.2.2.2.2.2.2.2.2.2.2.2.2.2.2.2.2.2.1)) ((vup_k (by decide)).trans ((vup_k (by decide)).trans s1.2.2.2.2.2.2.2.2.2.2.2.2.2.2.2.2.2.2.2.2.2.2.2.2.2.2.2.2.2.2.2.2.2.2.2.2.2.2.2.2.2.2.2.2.2.2.2.2.2.2.2.1)) (by have z0 := p2 c1; omega) (Int.not_le.mp c1)).trans ?_
    refine (rg_iinc (pc := 189) (dd bX13_comes dX13_comes_189) rfl (Nat.le_of_ble_eq_true rfl) (by have z0 := p2 c1; omega) (by have z0 := p2 c1; omega) rfl).trans ?_
    refine (rn_goto (t := 71) (pc := 192) (dd bX13_comes dX13_comes_192) rfl).trans ?_
    rfl
theorem rX13_comes_198 {x1 : Int} {x2 : Int} {x3 : Int} {x4 : Int} {h : vH} (s1 : shModel h) (p2 : ¬ (4 ≤ x4) → 0 ≤ x4) (p3 : ¬ (4 ≤ x4) → (-2147483648) ≤ h 2 306 x4 + (if h 2 305 x4 = x1 ∧ ¬ (h 2 306 x4 ≤ x2) then 1 else 0)) (p4 : ¬ (4 ≤ x4) → h 2 306 x4 + (if h 2 305 x4 = x1 ∧ ¬ (h 2 306 x4 ≤ x2) then 1 else 0) < 2147483648) (p5 : ¬ (4 ≤ x4) → (-2147483648) ≤ h 2 309 x4 + (if h 2 308 x4 = x1 ∧ ¬ (h 2 309 x4 ≤ x2) then 1 else 0)) (p6 : ¬ (4 ≤ x4) → h 2 309 x4 + (if h 2 308 x4 = x1 ∧ ¬ (h 2 309 x4 ≤ x2) then 1 else 0) < 2147483648) : vrun mX13_comes 198 [(1, 282), (0, x1), (0, x2), (0, x3), (0, x4)] [] h = if 4 ≤ x4 then some (.inl none, h) else vrun mX13_comes 198 [(1, 282), (0, x1), (0, x2), (0, x3), (0, x4 + 1)] [] (vup (vup h 2 306 x4 (h 2 306 x4 + (if h 2 305 x4 = x1 ∧ ¬ (h 2 306 x4 ≤ x2) then 1 else 0))) 2 309 x4 (h 2 309 x4 + (if h 2 308 x4 = x1 ∧ ¬ (h 2 309 x4 ≤ x2) then 1 else 0))) := by
  refine (rn_iload (pc := 198) (dd bX13_comes dX13_comes_198) rfl).trans ?_
  refine (rn_iconst (pc := 200) (dd bX13_comes dX13_comes_200) (by decide)).trans ?_
  refine (rn_icmp_ge (t := 284) (pc := 201) (dd bX13_comes dX13_comes_201) rfl).trans (itec (fun c1 => ?_) (fun c1 => ?_))
  · exact rn_return (pc := 284) (dd bX13_comes dX13_comes_284) rfl
  · refine (rn_aload_n (pc := 204) (dd bX13_comes dX13_comes_204) rfl).trans ?_
    refine (rg_gf (pc := 205) (dd bX13_comes dX13_comes_205) (ci := 14) (j := 25) rfl rfl (key := 1525) rfl (kc := 34) rfl s1.1 s1.2.2.2.2.2.2.2.2.2.2.2.2.2.2.2.2.2.2.2.2.2.2.2.2.2.2.2.2.2.2.2.2.2.2.2.2.2.2.2.2.2.2.2.2.2.2.2.2.2.2.2.2.2.2.2.2.2.2.2.2.2.2.2.2.2.2.2.2.2.2.1).trans ?_
    refine (rn_iload (pc := 208) (dd bX13_comes dX13_comes_208) rfl).trans ?_
    refine (rn_dup2 (pc := 210) (dd bX13_comes dX13_comes_210) (by decide)).trans ?_
    refine (rg_iaload (pc := 211) (dd bX13_comes dX13_comes_211) s1.2.2.2.2.2.2.2.2.2.2.2.2.2.2.2.2.2.2.2.2.2.2.2.2.2.2.2.2.2.2.2.2.2.2.2.2.2.2.2.2.2.2.2.2.2.2.2.2.2.2.2.2.2.2.2.2.2.2.2.2.2.2.2.2.2.2.2.2.2.2.2.1 s1.2.2.2.2.2.2.2.2.2.2.2.2.2.2.2.2.2.2.2.2.2.2.2.2.2.2.2.2.2.2.2.2.2.2.2.2.2.2.2.2.2.2.2.2.2.2.2.2.2.2.2.2.2.2.2.2.2.2.2.2.2.2.2.2.2.2.2.2.2.2.2.2.1 (p2 c1) (Int.not_le.mp c1) rfl).trans ?_
    refine (rn_aload_n (pc := 212) (dd bX13_comes dX13_comes_212) rfl).trans ?_
    refine (rg_gf (pc := 213) (dd bX13_comes dX13_comes_213) (ci := 14) (j := 24) rfl rfl (key := 1524) rfl (kc := 34) rfl s1.1 s1.2.2.2.2.2.2.2.2.2.2.2.2.2.2.2.2.2.2.2.2.2.2.2.2.2.2.2.2.2.2.2.2.2.2.2.2.2.2.2.2.2.2.2.2.2.2.2.2.2.2.2.2.2.2.2.2.2.2.2.2.2.2.2.2.2.2.2.1).trans ?_
    refine (rn_iload (pc := 216) (dd bX13_comes dX13_comes_216) rfl).trans ?_
    refine (rg_iaload (pc := 218) (dd bX13_comes dX13_comes_218) s1.2.2.2.2.2.2.2.2.2.2.2.2.2.2.2.2.2.2.2.2.2.2.2.2.2.2.2.2.2.2.2.2.2.2.2.2.2.2.2.2.2.2.2.2.2.2.2.2.2.2.2.2.2.2.2.2.2.2.2.2.2.2.2.2.2.2.2.2.1 s1.2.2.2.2.2.2.2.2.2.2.2.2.2.2.2.2.2.2.2.2.2.2.2.2.2.2.2.2.2.2.2.2.2.2.2.2.2.2.2.2.2.2.2.2.2.2.2.2.2.2.2.2.2.2.2.2.2.2.2.2.2.2.2.2.2.2.2.2.2.1 (by have z0 := p2 c1; omega) (Int.not_le.mp c1) rfl).trans ?_
    refine (rn_iload_n (pc := 219) (dd bX13_comes dX13_comes_219) rfl).trans ?_
    have e2 : vrun mX13_comes 220 [(1, 282), (0, x1), (0, x2), (0, x3), (0, x4)] [(0, x1), (0, h 2 305 x4), (0, h 2 306 x4), (0, x4), (1, 306)] h = vrun mX13_comes 239 [(1, 282), (0, x1), (0, x2), (0, x3), (0, x4)] [(0, (if h 2 305 x4 = x1 ∧ ¬ (h 2 306 x4 ≤ x2) then 1 else 0)), (0, h 2 306 x4), (0, x4), (1, 306)] h := by
      refine (rg_icmp_ne (t := 238) (pc := 220) (dd bX13_comes dX13_comes_220) rfl).trans ?_
      by_cases c2 : h 2 305 x4 = x1
      · refine (if_pos c2).trans ?_
        refine (rn_aload_n (pc := 223) (dd bX13_comes dX13_comes_223) rfl).trans ?_
        refine (rg_gf (pc := 224) (dd bX13_comes dX13_comes_224) (ci := 14) (j := 25) rfl rfl (key := 1525) rfl (kc := 34) rfl s1.1 s1.2.2.2.2.2.2.2.2.2.2.2.2.2.2.2.2.2.2.2.2.2.2.2.2.2.2.2.2.2.2.2.2.2.2.2.2.2.2.2.2.2.2.2.2.2.2.2.2.2.2.2.2.2.2.2.2.2.2.2.2.2.2.2.2.2.2.2.2.2.2.1).trans ?_
        refine (rn_iload (pc := 227) (dd bX13_comes dX13_comes_227) rfl).trans ?_
        refine (rg_iaload (pc := 229) (dd bX13_comes dX13_comes_229) s1.2.2.2.2.2.2.2.2.2.2.2.2.2.2.2.2.2.2.2.2.2.2.2.2.2.2.2.2.2.2.2.2.2.2.2.2.2.2.2.2.2.2.2.2.2.2.2.2.2.2.2.2.2.2.2.2.2.2.2.2.2.2.2.2.2.2.2.2.2.2.2.1 s1.2.2.2.2.2.2.2.2.2.2.2.2.2.2.2.2.2.2.2.2.2.2.2.2.2.2.2.2.2.2.2.2.2.2.2.2.2.2.2.2.2.2.2.2.2.2.2.2.2.2.2.2.2.2.2.2.2.2.2.2.2.2.2.2.2.2.2.2.2.2.2.2.1 (by have z0 := p2 c1; omega) (Int.not_le.mp c1) rfl).trans ?_
        refine (rn_iload_n (pc := 230) (dd bX13_comes dX13_comes_230) rfl).trans ?_
        have e1 : vrun mX13_comes 231 [(1, 282), (0, x1), (0, x2), (0, x3), (0, x4)] [(0, x2), (0, h 2 306 x4), (0, h 2 306 x4), (0, x4), (1, 306)] h = vrun mX13_comes 239 [(1, 282), (0, x1), (0, x2), (0, x3), (0, x4)] [(0, (if ¬ (h 2 306 x4 ≤ x2) then 1 else 0)), (0, h 2 306 x4), (0, x4), (1, 306)] h := by
          refine (rn_icmp_le (t := 238) (pc := 231) (dd bX13_comes dX13_comes_231) rfl).trans ?_
          by_cases c3 : h 2 306 x4 ≤ x2
          · refine (if_pos c3).trans ?_
            refine (rn_iconst (pc := 238) (dd bX13_comes dX13_comes_238) (by decide)).trans ?_
            refine Eq.trans (b := vrun mX13_comes 239 [(1, 282), (0, x1), (0, x2), (0, x3), (0, x4)] [(0, 0), (0, h 2 306 x4), (0, x4), (1, 306)] h) rfl ?_
            simp only [c3, true_or, false_or, or_true, or_false, true_and, false_and, and_true, and_false, not_true_eq_false, not_false_eq_true, ne_eq, if_true, if_false, ↓reduceIte]
          · refine (if_neg c3).trans ?_
            refine (rn_iconst (pc := 234) (dd bX13_comes dX13_comes_234) (by decide)).trans ?_
            refine (rn_goto (t := 239) (pc := 235) (dd bX13_comes dX13_comes_235) rfl).trans ?_
            refine Eq.trans (b := vrun mX13_comes 239 [(1, 282), (0, x1), (0, x2), (0, x3), (0, x4)] [(0, 1), (0, h 2 306 x4), (0, x4), (1, 306)] h) rfl ?_
            simp only [c3, true_or, false_or, or_true, or_false, true_and, false_and, and_true, and_false, not_true_eq_false, not_false_eq_true, ne_eq, if_true, if_false, ↓reduceIte]
        refine e1.trans ?_
        refine Eq.trans (b := vrun mX13_comes 239 [(1, 282), (0, x1), (0, x2), (0, x3), (0, x4)] [(0, (if ¬ (h 2 306 x4 ≤ x2) then 1 else 0)), (0, h 2 306 x4), (0, x4), (1, 306)] h) rfl ?_
        simp only [c2, true_or, false_or, or_true, or_false, true_and, false_and, and_true, and_false, not_true_eq_false, not_false_eq_true, ne_eq, if_true, if_false, ↓reduceIte]
      · refine (if_neg c2).trans ?_
        refine (rn_iconst (pc := 238) (dd bX13_comes dX13_comes_238) (by decide)).trans ?_
        refine Eq.trans (b := vrun mX13_comes 239 [(1, 282), (0, x1), (0, x2), (0, x3), (0, x4)] [(0, 0), (0, h 2 306 x4), (0, x4), (1, 306)] h) rfl ?_
        simp only [c2, true_or, false_or, or_true, or_false, true_and, false_and, and_true, and_false, not_true_eq_false, not_false_eq_true, ne_eq, if_true, if_false, ↓reduceIte]
    refine e2.trans ?_
    refine (rg_iadd (pc := 239) (dd bX13_comes dX13_comes_239) (p3 c1) (p4 c1)).trans ?_
    refine (rg_iastore (pc := 240) (dd bX13_comes dX13_comes_240) s1.2.2.2.2.2.2.2.2.2.2.2.2.2.2.2.2.2.2.2.2.2.2.2.2.2.2.2.2.2.2.2.2.2.2.2.2.2.2.2.2.2.2.2.2.2.2.2.2.2.2.2.2.2.2.2.2.2.2.2.2.2.2.2.2.2.2.2.2.2.2.2.1 s1.2.2.2.2.2.2.2.2.2.2.2.2.2.2.2.2.2.2.2.2.2.2.2.2.2.2.2.2.2.2.2.2.2.2.2.2.2.2.2.2.2.2.2.2.2.2.2.2.2.2.2.2.2.2.2.2.2.2.2.2.2.2.2.2.2.2.2.2.2.2.2.2.1 (by have z0 := p2 c1; omega) (Int.not_le.mp c1)).trans ?_
    refine (rn_aload_n (pc := 241) (dd bX13_comes dX13_comes_241) rfl).trans ?_
    refine (rg_gf (pc := 242) (dd bX13_comes dX13_comes_242) (ci := 14) (j := 28) rfl rfl (key := 1528) rfl (kc := 34) rfl ((vup_k (by decide)).trans s1.1) ((vup_k (by decide)).trans s1.2.2.2.2.2.2.2.2.2.2.2.2.2.2.2.2.2.2.2.2.2.2.2.2.2.2.2.2.2.2.2.2.2.2.2.2.2.2.2.2.2.2.2.2.2.2.2.2.2.2.2.2.2.2.2.2.2.2.2.2.2.2.2.2.2.2.2.2.2.2.2.2.2.2.2.2.2.2.2.1)).trans ?_
    refine (rn_iload (pc := 245) (dd bX13_comes dX13_comes_245) rfl).trans ?_
    refine (rn_dup2 (pc := 247) (dd bX13_comes dX13_comes_247) (by decide)).trans ?_
    refine (rg_iaload (pc := 248) (dd bX13_comes dX13_comes_248) ((vup_k (by decide)).trans s1.2.2.2.2.2.2.2.2.2.2.2.2.2.2.2.2.2.2.2.2.2.2.2.2.2.2.2.2.2.2.2.2.2.2.2.2.2.2.2.2.2.2.2.2.2.2.2.2.2.2.2.2.2.2.2.2.2.2.2.2.2.2.2.2.2.2.2.2.2.2.2.2.2.2.2.2.2.2.2.2.1) ((vup_k (by decide)).trans s1.2.2.2.2.2.2.2.2.2.2.2.2.2.2.2.2.2.2.2.2.2.2.2.2.2.2.2.2.2.2.2.2.2.2.2.2.2.2.2.2.2.2.2.2.2.2.2.2.2.2.2.2.2.2.2.2.2.2.2.2.2.2.2.2.2.2.2.2.2.2.2.2.2.2.2.2.2.2.2.2.2.1) (by have z0 := p2 c1; omega) (Int.not_le.mp c1) ((vup_r (by omega)).trans rfl)).trans ?_
    refine (rn_aload_n (pc := 249) (dd bX13_comes dX13_comes_249) rfl).trans ?_
    refine (rg_gf (pc := 250) (dd bX13_comes dX13_comes_250) (ci := 14) (j := 27) rfl rfl (key := 1527) rfl (kc := 34) rfl ((vup_k (by decide)).trans s1.1) ((vup_k (by decide)).trans s1.2.2.2.2.2.2.2.2.2.2.2.2.2.2.2.2.2.2.2.2.2.2.2.2.2.2.2.2.2.2.2.2.2.2.2.2.2.2.2.2.2.2.2.2.2.2.2.2.2.2.2.2.2.2.2.2.2.2.2.2.2.2.2.2.2.2.2.2.2.2.2.2.2.2.2.2.1)).trans ?_
    refine (rn_iload (pc := 253) (dd bX13_comes dX13_comes_253) rfl).trans ?_
    refine (rg_iaload (pc := 255) (dd bX13_comes dX13_comes_255) ((vup_k (by decide)).trans s1.2.2.2.2.2.2.2.2.2.2.2.2.2.2.2.2.2.2.2.2.2.2.2.2.2.2.2.2.2.2.2.2.2.2.2.2.2.2.2.2.2.2.2.2.2.2.2.2.2.2.2.2.2.2.2.2.2.2.2.2.2.2.2.2.2.2.2.2.2.2.2.2.2.2.2.2.2.1) ((vup_k (by decide)).trans s1.2.2.2.2.2.2.2.2.2.2.2.2.2.2.2.2.2.2.2.2.2.2.2.2.2.2.2.2.2.2.2.2.2.2.2.2.2.2.2.2.2.2.2.2.2.2.2.2.2.2.2.2.2.2.2.2.2.2.2.2.2.2.2.2.2.2.2.2.2.2.2.2.2.2.2.2.2.2.1) (by have z0 := p2 c1; omega) (Int.not_le.mp c1) ((vup_r (by omega)).trans rfl)).trans ?_
    refine (rn_iload_n (pc := 256) (dd bX13_comes dX13_comes_256) rfl).trans ?_
    have e4 : vrun mX13_comes 257 [(1, 282), (0, x1), (0, x2), (0, x3), (0, x4)] [(0, x1), (0, h 2 308 x4), (0, h 2 309 x4), (0, x4), (1, 309)] (vup h 2 306 x4 (h 2 306 x4 + (if h 2 305 x4 = x1 ∧ ¬ (h 2 306 x4 ≤ x2) then 1 else 0))) = vrun mX13_comes 276 [(1, 282), (0, x1), (0, x2), (0, x3), (0, x4)] [(0, (if h 2 308 x4 = x1 ∧ ¬ (h 2 309 x4 ≤ x2) then 1 else 0)), (0, h 2 309 x4), (0, x4), (1, 309)] (vup h 2 306 x4 (h 2 306 x4 + (if h 2 305 x4 = x1 ∧ ¬ (h 2 306 x4 ≤ x2) then 1 else 0))) := by
      refine (rg_icmp_ne (t := 275) (pc := 257) (dd bX13_comes dX13_comes_257) rfl).trans ?_
      by_cases c4 : h 2 308 x4 = x1
      · refine (if_pos c4).trans ?_
        refine (rn_aload_n (pc := 260) (dd bX13_comes dX13_comes_260) rfl).trans ?_
        refine (rg_gf (pc := 261) (dd bX13_comes dX13_comes_261) (ci := 14) (j := 28) rfl rfl (key := 1528) rfl (kc := 34) rfl ((vup_k (by decide)).trans s1.1) ((vup_k (by decide)).trans s1.2.2.2.2.2.2.2.2.2.2.2.2.2.2.2.2.2.2.2.2.2.2.2.2.2.2.2.2.2.2.2.2.2.2.2.2.2.2.2.2.2.2.2.2.2.2.2.2.2.2.2.2.2.2.2.2.2.2.2.2.2.2.2.2.2.2.2.2.2.2.2.2.2.2.2.2.2.2.2.1)).trans ?_
        refine (rn_iload (pc := 264) (dd bX13_comes dX13_comes_264) rfl).trans ?_
        refine (rg_iaload (pc := 266) (dd bX13_comes dX13_comes_266) ((vup_k (by decide)).trans s1.2.2.2.2.2.2.2.2.2.2.2.2.2.2.2.2.2.2.2.2.2.2.2.2.2.2.2.2.2.2.2.2.2.2.2.2.2.2.2.2.2.2.2.2.2.2.2.2.2.2.2.2.2.2.2.2.2.2.2.2.2.2.2.2.2.2.2.2.2.2.2.2.2.2.2.2.2.2.2.2.1) ((vup_k (by decide)).trans s1.2.2.2.2.2.2.2.2.2.2.2.2.2.2.2.2.2.2.2.2.2.2.2.2.2.2.2.2.2.2.2.2.2.2.2.2.2.2.2.2.2.2.2.2.2.2.2.2.2.2.2.2.2.2.2.2.2.2.2.2.2.2.2.2.2.2.2.2.2.2.2.2.2.2.2.2.2.2.2.2.2.1) (by have z0 := p2 c1; omega) (Int.not_le.mp c1) ((vup_r (by omega)).trans rfl)).trans ?_
        refine (rn_iload_n (pc := 267) (dd bX13_comes dX13_comes_267) rfl).trans ?_
        have e3 : vrun mX13_comes 268 [(1, 282), (0, x1), (0, x2), (0, x3), (0, x4)] [(0, x2), (0, h 2 309 x4), (0, h 2 309 x4), (0, x4), (1, 309)] (vup h 2 306 x4 (h 2 306 x4 + (if h 2 305 x4 = x1 ∧ ¬ (h 2 306 x4 ≤ x2) then 1 else 0))) = vrun mX13_comes 276 [(1, 282), (0, x1), (0, x2), (0, x3), (0, x4)] [(0, (if ¬ (h 2 309 x4 ≤ x2) then 1 else 0)), (0, h 2 309 x4), (0, x4), (1, 309)] (vup h 2 306 x4 (h 2 306 x4 + (if h 2 305 x4 = x1 ∧ ¬ (h 2 306 x4 ≤ x2) then 1 else 0))) := by
          refine (rn_icmp_le (t := 275) (pc := 268) (dd bX13_comes dX13_comes_268) rfl).trans ?_
          by_cases c5 : h 2 309 x4 ≤ x2
          · refine (if_pos c5).trans ?_
            refine (rn_iconst (pc := 275) (dd bX13_comes dX13_comes_275) (by decide)).trans ?_
            refine Eq.trans (b := vrun mX13_comes 276 [(1, 282), (0, x1), (0, x2), (0, x3), (0, x4)] [(0, 0), (0, h 2 309 x4), (0, x4), (1, 309)] (vup h 2 306 x4 (h 2 306 x4 + (if h 2 305 x4 = x1 ∧ ¬ (h 2 306 x4 ≤ x2) then 1 else 0)))) rfl ?_
            simp only [c5, true_or, false_or, or_true, or_false, true_and, false_and, and_true, and_false, not_true_eq_false, not_false_eq_true, ne_eq, if_true, if_false, ↓reduceIte]
          · refine (if_neg c5).trans ?_
            refine (rn_iconst (pc := 271) (dd bX13_comes dX13_comes_271) (by decide)).trans ?_
            refine (rn_goto (t := 276) (pc := 272) (dd bX13_comes dX13_comes_272) rfl).trans ?_
            refine Eq.trans (b := vrun mX13_comes 276 [(1, 282), (0, x1), (0, x2), (0, x3), (0, x4)] [(0, 1), (0, h 2 309 x4), (0, x4), (1, 309)] (vup h 2 306 x4 (h 2 306 x4 + (if h 2 305 x4 = x1 ∧ ¬ (h 2 306 x4 ≤ x2) then 1 else 0)))) rfl ?_
            simp only [c5, true_or, false_or, or_true, or_false, true_and, false_and, and_true, and_false, not_true_eq_false, not_false_eq_true, ne_eq, if_true, if_false, ↓reduceIte]
        refine e3.trans ?_
        refine Eq.trans (b := vrun mX13_comes 276 [(1, 282), (0, x1), (0, x2), (0, x3), (0, x4)] [(0, (if ¬ (h 2 309 x4 ≤ x2) then 1 else 0)), (0, h 2 309 x4), (0, x4), (1, 309)] (vup h 2 306 x4 (h 2 306 x4 + (if h 2 305 x4 = x1 ∧ ¬ (h 2 306 x4 ≤ x2) then 1 else 0)))) rfl ?_
        simp only [c4, true_or, false_or, or_true, or_false, true_and, false_and, and_true, and_false, not_true_eq_false, not_false_eq_true, ne_eq, if_true, if_false, ↓reduceIte]
      · refine (if_neg c4).trans ?_
        refine (rn_iconst (pc := 275) (dd bX13_comes dX13_comes_275) (by decide)).trans ?_
        refine Eq.trans (b := vrun mX13_comes 276 [(1, 282), (0, x1), (0, x2), (0, x3), (0, x4)] [(0, 0), (0, h 2 309 x4), (0, x4), (1, 309)] (vup h 2 306 x4 (h 2 306 x4 + (if h 2 305 x4 = x1 ∧ ¬ (h 2 306 x4 ≤ x2) then 1 else 0)))) rfl ?_
        simp only [c4, true_or, false_or, or_true, or_false, true_and, false_and, and_true, and_false, not_true_eq_false, not_false_eq_true, ne_eq, if_true, if_false, ↓reduceIte]
    refine e4.trans ?_
    refine (rg_iadd (pc := 276) (dd bX13_comes dX13_comes_276) (p5 c1) (p6 c1)).trans ?_
    refine (rg_iastore (pc := 277) (dd bX13_comes dX13_comes_277) ((vup_k (by decide)).trans s1.2.2.2.2.2.2.2.2.2.2.2.2.2.2.2.2.2.2.2.2.2.2.2.2.2.2.2.2.2.2.2.2.2.2.2.2.2.2.2.2.2.2.2.2.2.2.2.2.2.2.2.2.2.2.2.2.2.2.2.2.2.2.2.2.2.2.2.2.2.2.2.2.2.2.2.2.2.2.2.2.1) ((vup_k (by decide)).trans s1.2.2.2.2.2.2.2.2.2.2.2.2.2.2.2.2.2.2.2.2.2.2.2.2.2.2.2.2.2.2.2.2.2.2.2.2.2.2.2.2.2.2.2.2.2.2.2.2.2.2.2.2.2.2.2.2.2.2.2.2.2.2.2.2.2.2.2.2.2.2.2.2.2.2.2.2.2.2.2.2.2.1) (by have z0 := p2 c1; omega) (Int.not_le.mp c1)).trans ?_
    refine (rg_iinc (pc := 278) (dd bX13_comes dX13_comes_278) rfl (Nat.le_of_ble_eq_true rfl) (by have z0 := p2 c1; omega) (by have z0 := p2 c1; omega) rfl).trans ?_
    refine (rn_goto (t := 198) (pc := 281) (dd bX13_comes dX13_comes_281) rfl).trans ?_
    rfl
theorem bX13_insert : vmB mX13_insert = cX13_insert := rfl
theorem rX13_insert_0 {x1 : Int} {x2 : Int} {x3 : Int} {h : vH} (s1 : shModel h) (p2 : (-2147483648) ≤ h 1504 282 0 - 1) (p3 : h 1504 282 0 - 1 < 2147483648) (p4 : ¬ (fX13_isLine h x1 = 0) → 0 ≤ x1) (p5 : ¬ (fX13_isLine h x1 = 0) → x1 < 60) (p6 : ¬ (fX13_isLine h x1 = 0) → ¬ (fX13_isLine h x1 = 0) ∧ (¬ (x2 < 0) ∧ ¬ (h 2 284 x1 < x2)) ∧ ¬ (fX13_isSign h x3 = 0) → 0 ≤ x1) (p7 : ¬ (fX13_isLine h x1 = 0) → ¬ (fX13_isLine h x1 = 0) ∧ (¬ (x2 < 0) ∧ ¬ (h 2 284 x1 < x2)) ∧ ¬ (fX13_isSign h x3 = 0) → x1 < 60) : vrun mX13_insert 0 [(1, 282), (0, x1), (0, x2), (0, x3), (9, 0), (9, 0)] [] h = vret vrun mX13_insert 75 [(1, 282), (0, x1), (0, x2), (0, x3), (0, fX13_isLine h x1), (0, (if ¬ (fX13_isLine h x1 = 0) ∧ (¬ (x2 < 0) ∧ ¬ (h 2 284 x1 < x2)) ∧ ¬ (fX13_isSign h x3 = 0) then 1 else 0))] [] (vcl mX13_isFine [(1, 282), (0, (if fX13_isLine h x1 = 0 then 1 else (if ¬ (fX13_isLine h x1 = 0) ∧ (¬ (x2 < 0) ∧ ¬ (h 2 284 x1 < x2)) ∧ ¬ (fX13_isSign h x3 = 0) then (if h 2 284 x1 = 80 then 3 else 0) else 2)))] h) := by
  refine (rn_aload_n (pc := 0) (dd bX13_insert dX13_insert_0) rfl).trans ?_
  refine (rn_iload_n (pc := 1) (dd bX13_insert dX13_insert_1) rfl).trans ?_
  refine (rg_virtual (pc := 2) (dd bX13_insert dX13_insert_2) rfl rfl (by decide) (kc := 34) rfl s1.1 (as := [(1, 282), (0, x1)]) rfl ⟨Nat.le_of_ble_eq_true rfl, Nat.le_of_ble_eq_true rfl, Nat.le_of_ble_eq_true rfl, Nat.le_of_ble_eq_true rfl⟩).trans ?_
  refine (vret_v (spX13_isLine s1 p2 p3)).trans ?_
  refine (rn_istore (pc := 5) (dd bX13_insert dX13_insert_5) (Nat.le_of_ble_eq_true rfl) rfl).trans ?_
  refine (rn_iload (pc := 7) (dd bX13_insert dX13_insert_7) rfl).trans ?_
  have e3 : vrun mX13_insert 9 [(1, 282), (0, x1), (0, x2), (0, x3), (0, fX13_isLine h x1), (9, 0)] [(0, fX13_isLine h x1)] h = vrun mX13_insert 38 [(1, 282), (0, x1), (0, x2), (0, x3), (0, fX13_isLine h x1), (9, 0)] [(0, (if ¬ (fX13_isLine h x1 = 0) ∧ (¬ (x2 < 0) ∧ ¬ (h 2 284 x1 < x2)) ∧ ¬ (fX13_isSign h x3 = 0) then 1 else 0))] h := by
    refine (rn_if_eq (t := 37) (pc := 9) (dd bX13_insert dX13_insert_9) rfl).trans ?_
    by_cases c1 : fX13_isLine h x1 = 0
    · refine (if_pos c1).trans ?_
      refine (rn_iconst (pc := 37) (dd bX13_insert dX13_insert_37) (by decide)).trans ?_
      refine Eq.trans (b := vrun mX13_insert 38 [(1, 282), (0, x1), (0, x2), (0, x3), (0, fX13_isLine h x1), (9, 0)] [(0, 0)] h) rfl ?_
      simp only [c1, true_or, false_or, or_true, or_false, true_and, false_and, and_true, and_false, not_true_eq_false, not_false_eq_true, ne_eq, if_true, if_false, ↓reduceIte]
    · refine (if_neg c1).trans ?_
      refine (rn_iload_n (pc := 12) (dd bX13_insert dX13_insert_12) rfl).trans ?_
      refine (rn_iconst (pc := 13) (dd bX13_insert dX13_insert_13) (by decide)).trans ?_
      refine (rn_aload_n (pc := 14) (dd bX13_insert dX13_insert_14) rfl).trans ?_
      refine (rg_gf (pc := 15) (dd bX13_insert dX13_insert_15) (ci := 14) (j := 2) rfl rfl (key := 1502) rfl (kc := 34) rfl s1.1 s1.2.2.2.2.1).trans ?_
      refine (rn_iload_n (pc := 18) (dd bX13_insert dX13_insert_18) rfl).trans ?_
      refine (rg_iaload (pc := 19) (dd bX13_insert dX13_insert_19) s1.2.2.2.2.2.1 s1.2.2.2.2.2.2.1 (p4 c1) (p5 c1) rfl).trans ?_
      refine (rg_static (pc := 20) (dd bX13_insert dX13_insert_20) rfl (by decide) (Nat.le_of_ble_eq_true rfl) (as := [(0, x2), (0, 0), (0, h 2 284 x1)]) rfl rfl ⟨Nat.le_of_ble_eq_true rfl, Nat.le_of_ble_eq_true rfl, Nat.le_of_ble_eq_true rfl, Nat.le_of_ble_eq_true rfl⟩).trans ?_
      refine (vret_v spX13_isIn).trans ?_
      have e2 : vrun mX13_insert 23 [(1, 282), (0, x1), (0, x2), (0, x3), (0, fX13_isLine h x1), (9, 0)] [(0, (if ¬ (x2 < 0) ∧ ¬ (h 2 284 x1 < x2) then 1 else 0))] h = vrun mX13_insert 38 [(1, 282), (0, x1), (0, x2), (0, x3), (0, fX13_isLine h x1), (9, 0)] [(0, (if (¬ (x2 < 0) ∧ ¬ (h 2 284 x1 < x2)) ∧ ¬ (fX13_isSign h x3 = 0) then 1 else 0))] h := by
        refine (rg_beq (t := 37) (pc := 23) (dd bX13_insert dX13_insert_23) rfl).trans ?_
        by_cases c2 : ¬ (x2 < 0) ∧ ¬ (h 2 284 x1 < x2)
        · refine (if_pos c2).trans ?_
          refine (rn_iload_n (pc := 26) (dd bX13_insert dX13_insert_26) rfl).trans ?_
          refine (rg_static (pc := 27) (dd bX13_insert dX13_insert_27) rfl (by decide) (Nat.le_of_ble_eq_true rfl) (as := [(0, x3)]) rfl rfl ⟨Nat.le_of_ble_eq_true rfl, Nat.le_of_ble_eq_true rfl, Nat.le_of_ble_eq_true rfl, Nat.le_of_ble_eq_true rfl⟩).trans ?_
          refine (vret_v spX13_isSign).trans ?_
          have e1 : vrun mX13_insert 30 [(1, 282), (0, x1), (0, x2), (0, x3), (0, fX13_isLine h x1), (9, 0)] [(0, fX13_isSign h x3)] h = vrun mX13_insert 38 [(1, 282), (0, x1), (0, x2), (0, x3), (0, fX13_isLine h x1), (9, 0)] [(0, (if ¬ (fX13_isSign h x3 = 0) then 1 else 0))] h := by
            refine (rn_if_eq (t := 37) (pc := 30) (dd bX13_insert dX13_insert_30) rfl).trans ?_
            by_cases c3 : fX13_isSign h x3 = 0
            · refine (if_pos c3).trans ?_
              refine (rn_iconst (pc := 37) (dd bX13_insert dX13_insert_37) (by decide)).trans ?_
              refine Eq.trans (b := vrun mX13_insert 38 [(1, 282), (0, x1), (0, x2), (0, x3), (0, fX13_isLine h x1), (9, 0)] [(0, 0)] h) rfl ?_
              simp only [c3, true_or, false_or, or_true, or_false, true_and, false_and, and_true, and_false, not_true_eq_false, not_false_eq_true, ne_eq, if_true, if_false, ↓reduceIte]
            · refine (if_neg c3).trans ?_
              refine (rn_iconst (pc := 33) (dd bX13_insert dX13_insert_33) (by decide)).trans ?_
              refine (rn_goto (t := 38) (pc := 34) (dd bX13_insert dX13_insert_34) rfl).trans ?_
              refine Eq.trans (b := vrun mX13_insert 38 [(1, 282), (0, x1), (0, x2), (0, x3), (0, fX13_isLine h x1), (9, 0)] [(0, 1)] h) rfl ?_
              simp only [c3, true_or, false_or, or_true, or_false, true_and, false_and, and_true, and_false, not_true_eq_false, not_false_eq_true, ne_eq, if_true, if_false, ↓reduceIte]
          refine e1.trans ?_
          refine Eq.trans (b := vrun mX13_insert 38 [(1, 282), (0, x1), (0, x2), (0, x3), (0, fX13_isLine h x1), (9, 0)] [(0, (if ¬ (fX13_isSign h x3 = 0) then 1 else 0))] h) rfl ?_
          simp only [c2, true_or, false_or, or_true, or_false, true_and, false_and, and_true, and_false, not_true_eq_false, not_false_eq_true, ne_eq, if_true, if_false, ↓reduceIte]
        · refine (if_neg c2).trans ?_
          refine (rn_iconst (pc := 37) (dd bX13_insert dX13_insert_37) (by decide)).trans ?_
          refine Eq.trans (b := vrun mX13_insert 38 [(1, 282), (0, x1), (0, x2), (0, x3), (0, fX13_isLine h x1), (9, 0)] [(0, 0)] h) rfl ?_
          simp only [c2, true_or, false_or, or_true, or_false, true_and, false_and, and_true, and_false, not_true_eq_false, not_false_eq_true, ne_eq, if_true, if_false, ↓reduceIte]
      refine e2.trans ?_
      refine Eq.trans (b := vrun mX13_insert 38 [(1, 282), (0, x1), (0, x2), (0, x3), (0, fX13_isLine h x1), (9, 0)] [(0, (if (¬ (x2 < 0) ∧ ¬ (h 2 284 x1 < x2)) ∧ ¬ (fX13_isSign h x3 = 0) then 1 else 0))] h) rfl ?_
      simp only [c1, true_or, false_or, or_true, or_false, true_and, false_and, and_true, and_false, not_true_eq_false, not_false_eq_true, ne_eq, if_true, if_false, ↓reduceIte]
  refine e3.trans ?_
  refine (rn_istore (pc := 38) (dd bX13_insert dX13_insert_38) (Nat.le_of_ble_eq_true rfl) rfl).trans ?_
  refine (rn_aload_n (pc := 40) (dd bX13_insert dX13_insert_40) rfl).trans ?_
  refine (rn_iload (pc := 41) (dd bX13_insert dX13_insert_41) rfl).trans ?_
  have e6 : vrun mX13_insert 43 [(1, 282), (0, x1), (0, x2), (0, x3), (0, fX13_isLine h x1), (0, (if ¬ (fX13_isLine h x1 = 0) ∧ (¬ (x2 < 0) ∧ ¬ (h 2 284 x1 < x2)) ∧ ¬ (fX13_isSign h x3 = 0) then 1 else 0))] [(0, fX13_isLine h x1), (1, 282)] h = vrun mX13_insert 75 [(1, 282), (0, x1), (0, x2), (0, x3), (0, fX13_isLine h x1), (0, (if ¬ (fX13_isLine h x1 = 0) ∧ (¬ (x2 < 0) ∧ ¬ (h 2 284 x1 < x2)) ∧ ¬ (fX13_isSign h x3 = 0) then 1 else 0))] [(0, (if fX13_isLine h x1 = 0 then 1 else (if ¬ (fX13_isLine h x1 = 0) ∧ (¬ (x2 < 0) ∧ ¬ (h 2 284 x1 < x2)) ∧ ¬ (fX13_isSign h x3 = 0) then (if h 2 284 x1 = 80 then 3 else 0) else 2))), (1, 282)] h := by
    refine (rg_if_ne (t := 50) (pc := 43) (dd bX13_insert dX13_insert_43) rfl).trans ?_
    by_cases c4 : fX13_isLine h x1 = 0
    · refine (if_pos c4).trans ?_
      refine (rn_iconst (pc := 46) (dd bX13_insert dX13_insert_46) (by decide)).trans ?_
      refine (rn_goto (t := 75) (pc := 47) (dd bX13_insert dX13_insert_47) rfl).trans ?_
      refine Eq.trans (b := vrun mX13_insert 75 [(1, 282), (0, x1), (0, x2), (0, x3), (0, fX13_isLine h x1), (0, (if ¬ (fX13_isLine h x1 = 0) ∧ (¬ (x2 < 0) ∧ ¬ (h 2 284 x1 < x2)) ∧ ¬ (fX13_isSign h x3 = 0) then 1 else 0))] [(0, 1), (1, 282)] h) rfl ?_
      simp only [if_pos c4]
    · refine (if_neg c4).trans ?_
      refine (rn_iload (pc := 50) (dd bX13_insert dX13_insert_50) rfl).trans ?_
      have e5 : vrun mX13_insert 52 [(1, 282), (0, x1), (0, x2), (0, x3), (0, fX13_isLine h x1), (0, (if ¬ (fX13_isLine h x1 = 0) ∧ (¬ (x2 < 0) ∧ ¬ (h 2 284 x1 < x2)) ∧ ¬ (fX13_isSign h x3 = 0) then 1 else 0))] [(0, (if ¬ (fX13_isLine h x1 = 0) ∧ (¬ (x2 < 0) ∧ ¬ (h 2 284 x1 < x2)) ∧ ¬ (fX13_isSign h x3 = 0) then 1 else 0)), (1, 282)] h = vrun mX13_insert 75 [(1, 282), (0, x1), (0, x2), (0, x3), (0, fX13_isLine h x1), (0, (if ¬ (fX13_isLine h x1 = 0) ∧ (¬ (x2 < 0) ∧ ¬ (h 2 284 x1 < x2)) ∧ ¬ (fX13_isSign h x3 = 0) then 1 else 0))] [(0, (if ¬ (fX13_isLine h x1 = 0) ∧ (¬ (x2 < 0) ∧ ¬ (h 2 284 x1 < x2)) ∧ ¬ (fX13_isSign h x3 = 0) then (if h 2 284 x1 = 80 then 3 else 0) else 2)), (1, 282)] h := by
        refine (rg_bne (t := 59) (pc := 52) (dd bX13_insert dX13_insert_52) rfl).trans ?_
        by_cases c5 : ¬ (fX13_isLine h x1 = 0) ∧ (¬ (x2 < 0) ∧ ¬ (h 2 284 x1 < x2)) ∧ ¬ (fX13_isSign h x3 = 0)
        · refine (if_pos c5).trans ?_
          refine (rn_aload_n (pc := 59) (dd bX13_insert dX13_insert_59) rfl).trans ?_
          refine (rg_gf (pc := 60) (dd bX13_insert dX13_insert_60) (ci := 14) (j := 2) rfl rfl (key := 1502) rfl (kc := 34) rfl s1.1 s1.2.2.2.2.1).trans ?_
          refine (rn_iload_n (pc := 63) (dd bX13_insert dX13_insert_63) rfl).trans ?_
          refine (rg_iaload (pc := 64) (dd bX13_insert dX13_insert_64) s1.2.2.2.2.2.1 s1.2.2.2.2.2.2.1 (p6 c4 c5) (p7 c4 c5) rfl).trans ?_
          refine (rn_bipush (pc := 65) (dd bX13_insert dX13_insert_65) (by decide)).trans ?_
          have e4 : vrun mX13_insert 67 [(1, 282), (0, x1), (0, x2), (0, x3), (0, fX13_isLine h x1), (0, (if ¬ (fX13_isLine h x1 = 0) ∧ (¬ (x2 < 0) ∧ ¬ (h 2 284 x1 < x2)) ∧ ¬ (fX13_isSign h x3 = 0) then 1 else 0))] [(0, 80), (0, h 2 284 x1), (1, 282)] h = vrun mX13_insert 75 [(1, 282), (0, x1), (0, x2), (0, x3), (0, fX13_isLine h x1), (0, (if ¬ (fX13_isLine h x1 = 0) ∧ (¬ (x2 < 0) ∧ ¬ (h 2 284 x1 < x2)) ∧ ¬ (fX13_isSign h x3 = 0) then 1 else 0))] [(0, (if h 2 284 x1 = 80 then 3 else 0)), (1, 282)] h := by
            refine (rg_icmp_ne (t := 74) (pc := 67) (dd bX13_insert dX13_insert_67) rfl).trans ?_
            by_cases c6 : h 2 284 x1 = 80
            · refine (if_pos c6).trans ?_
              refine (rn_iconst (pc := 70) (dd bX13_insert dX13_insert_70) (by decide)).trans ?_
              refine (rn_goto (t := 75) (pc := 71) (dd bX13_insert dX13_insert_71) rfl).trans ?_
              refine Eq.trans (b := vrun mX13_insert 75 [(1, 282), (0, x1), (0, x2), (0, x3), (0, fX13_isLine h x1), (0, (if ¬ (fX13_isLine h x1 = 0) ∧ (¬ (x2 < 0) ∧ ¬ (h 2 284 x1 < x2)) ∧ ¬ (fX13_isSign h x3 = 0) then 1 else 0))] [(0, 3), (1, 282)] h) rfl ?_
              simp only [if_pos c6]
            · refine (if_neg c6).trans ?_
              refine (rn_iconst (pc := 74) (dd bX13_insert dX13_insert_74) (by decide)).trans ?_
              refine Eq.trans (b := vrun mX13_insert 75 [(1, 282), (0, x1), (0, x2), (0, x3), (0, fX13_isLine h x1), (0, (if ¬ (fX13_isLine h x1 = 0) ∧ (¬ (x2 < 0) ∧ ¬ (h 2 284 x1 < x2)) ∧ ¬ (fX13_isSign h x3 = 0) then 1 else 0))] [(0, 0), (1, 282)] h) rfl ?_
              simp only [if_neg c6]
          refine e4.trans ?_
          refine Eq.trans (b := vrun mX13_insert 75 [(1, 282), (0, x1), (0, x2), (0, x3), (0, fX13_isLine h x1), (0, (if ¬ (fX13_isLine h x1 = 0) ∧ (¬ (x2 < 0) ∧ ¬ (h 2 284 x1 < x2)) ∧ ¬ (fX13_isSign h x3 = 0) then 1 else 0))] [(0, (if h 2 284 x1 = 80 then 3 else 0)), (1, 282)] h) rfl ?_
          simp only [if_pos c5]
        · refine (if_neg c5).trans ?_
          refine (rn_iconst (pc := 55) (dd bX13_insert dX13_insert_55) (by decide)).trans ?_
          refine (rn_goto (t := 75) (pc := 56) (dd bX13_insert dX13_insert_56) rfl).trans ?_
          refine Eq.trans (b := vrun mX13_insert 75 [(1, 282), (0, x1), (0, x2), (0, x3), (0, fX13_isLine h x1), (0, (if ¬ (fX13_isLine h x1 = 0) ∧ (¬ (x2 < 0) ∧ ¬ (h 2 284 x1 < x2)) ∧ ¬ (fX13_isSign h x3 = 0) then 1 else 0))] [(0, 2), (1, 282)] h) rfl ?_
          simp only [if_neg c5]
      refine e5.trans ?_
      refine Eq.trans (b := vrun mX13_insert 75 [(1, 282), (0, x1), (0, x2), (0, x3), (0, fX13_isLine h x1), (0, (if ¬ (fX13_isLine h x1 = 0) ∧ (¬ (x2 < 0) ∧ ¬ (h 2 284 x1 < x2)) ∧ ¬ (fX13_isSign h x3 = 0) then 1 else 0))] [(0, (if ¬ (fX13_isLine h x1 = 0) ∧ (¬ (x2 < 0) ∧ ¬ (h 2 284 x1 < x2)) ∧ ¬ (fX13_isSign h x3 = 0) then (if h 2 284 x1 = 80 then 3 else 0) else 2)), (1, 282)] h) rfl ?_
      simp only [if_neg c4]
  refine e6.trans ?_
  exact rg_virtual (pc := 75) (dd bX13_insert dX13_insert_75) rfl rfl (by decide) (kc := 34) rfl s1.1 (as := [(1, 282), (0, (if fX13_isLine h x1 = 0 then 1 else (if ¬ (fX13_isLine h x1 = 0) ∧ (¬ (x2 < 0) ∧ ¬ (h 2 284 x1 < x2)) ∧ ¬ (fX13_isSign h x3 = 0) then (if h 2 284 x1 = 80 then 3 else 0) else 2)))]) rfl ⟨Nat.le_of_ble_eq_true rfl, Nat.le_of_ble_eq_true rfl, Nat.le_of_ble_eq_true rfl, Nat.le_of_ble_eq_true rfl⟩
theorem rX13_insert_78 {x1 : Int} {x2 : Int} {x3 : Int} {x4 : Int} {x5 : Int} {y0 : Int} {h : vH} (s1 : shModel h) : vrun mX13_insert 78 [(1, 282), (0, x1), (0, x2), (0, x3), (0, x4), (0, x5)] [(0, y0)] h = if y0 = 0 then some (.inl (some (0, 0)), h) else vret vrun mX13_insert 87 [(1, 282), (0, x1), (0, x2), (0, x3), (0, x4), (0, x5)] [] (vcl mX13_comes [(1, 282), (0, x1), (0, x2), (0, x3)] h) := by
  refine (rg_if_ne (t := 83) (pc := 78) (dd bX13_insert dX13_insert_78) rfl).trans (itec (fun c1 => ?_) (fun c1 => ?_))
  · refine (rn_iconst (pc := 81) (dd bX13_insert dX13_insert_81) (by decide)).trans ?_
    exact rn_ireturn (pc := 82) (dd bX13_insert dX13_insert_82) (Or.inl rfl)
  · refine (rn_aload_n (pc := 83) (dd bX13_insert dX13_insert_83) rfl).trans ?_
    refine (rn_iload_n (pc := 84) (dd bX13_insert dX13_insert_84) rfl).trans ?_
    refine (rn_iload_n (pc := 85) (dd bX13_insert dX13_insert_85) rfl).trans ?_
    refine (rn_iload_n (pc := 86) (dd bX13_insert dX13_insert_86) rfl).trans ?_
    exact rg_virtual (pc := 87) (dd bX13_insert dX13_insert_87) rfl rfl (by decide) (kc := 34) rfl s1.1 (as := [(1, 282), (0, x1), (0, x2), (0, x3)]) rfl ⟨Nat.le_of_ble_eq_true rfl, Nat.le_of_ble_eq_true rfl, Nat.le_of_ble_eq_true rfl, Nat.le_of_ble_eq_true rfl⟩
theorem rX13_insert_90 {x1 : Int} {x2 : Int} {x3 : Int} {x4 : Int} {x5 : Int} {h : vH} (s1 : shModel h) (p2 : 0 ≤ x1) (p3 : x1 < 60) : vrun mX13_insert 90 [(1, 282), (0, x1), (0, x2), (0, x3), (0, x4), (0, x5)] [] h = some (.inl (some (0, h 2 284 x1)), h) := by
  refine (rn_aload_n (pc := 90) (dd bX13_insert dX13_insert_90) rfl).trans ?_
  refine (rg_gf (pc := 91) (dd bX13_insert dX13_insert_91) (ci := 14) (j := 2) rfl rfl (key := 1502) rfl (kc := 34) rfl s1.1 s1.2.2.2.2.1).trans ?_
  refine (rn_iload_n (pc := 94) (dd bX13_insert dX13_insert_94) rfl).trans ?_
  refine (rg_iaload (pc := 95) (dd bX13_insert dX13_insert_95) s1.2.2.2.2.2.1 s1.2.2.2.2.2.2.1 p2 p3 rfl).trans ?_
  exact rn_ireturn (pc := 96) (dd bX13_insert dX13_insert_96) (Or.inl rfl)
theorem bX13_without : vmB mX13_without = cX13_without := rfl
theorem rX13_without_0 {x0 : Int} {x1 : Int} {x2 : Int} {h : vH} (p1 : x1 < x0 → x2 ≤ x0 → (-2147483648) ≤ x2 - x1) (p2 : x1 < x0 → x2 ≤ x0 → x2 - x1 < 2147483648) (p3 : x1 < x0 → x2 ≤ x0 → (-2147483648) ≤ x0 - (x2 - x1)) (p4 : x1 < x0 → x2 ≤ x0 → x0 - (x2 - x1) < 2147483648) : vrun mX13_without 0 [(0, x0), (0, x1), (0, x2)] [] h = some (.inl (some (0, (if x1 < x0 then (if x2 ≤ x0 then x0 - (x2 - x1) else x1) else x0))), h) := by
  refine (rn_iload_n (pc := 0) (dd bX13_without dX13_without_0) rfl).trans ?_
  refine (rn_iload_n (pc := 1) (dd bX13_without dX13_without_1) rfl).trans ?_
  have e2 : vrun mX13_without 2 [(0, x0), (0, x1), (0, x2)] [(0, x1), (0, x0)] h = vrun mX13_without 23 [(0, x0), (0, x1), (0, x2)] [(0, (if x1 < x0 then (if x2 ≤ x0 then x0 - (x2 - x1) else x1) else x0))] h := by
    refine (rn_icmp_gt (t := 9) (pc := 2) (dd bX13_without dX13_without_2) rfl).trans ?_
    by_cases c1 : x1 < x0
    · refine (if_pos c1).trans ?_
      refine (rn_iload_n (pc := 9) (dd bX13_without dX13_without_9) rfl).trans ?_
      refine (rn_iload_n (pc := 10) (dd bX13_without dX13_without_10) rfl).trans ?_
      have e1 : vrun mX13_without 11 [(0, x0), (0, x1), (0, x2)] [(0, x2), (0, x0)] h = vrun mX13_without 23 [(0, x0), (0, x1), (0, x2)] [(0, (if x2 ≤ x0 then x0 - (x2 - x1) else x1))] h := by
        refine (rn_icmp_ge (t := 18) (pc := 11) (dd bX13_without dX13_without_11) rfl).trans ?_
        by_cases c2 : x2 ≤ x0
        · refine (if_pos c2).trans ?_
          refine (rn_iload_n (pc := 18) (dd bX13_without dX13_without_18) rfl).trans ?_
          refine (rn_iload_n (pc := 19) (dd bX13_without dX13_without_19) rfl).trans ?_
          refine (rn_iload_n (pc := 20) (dd bX13_without dX13_without_20) rfl).trans ?_
          refine (rg_isub (pc := 21) (dd bX13_without dX13_without_21) (p1 c1 c2) (p2 c1 c2)).trans ?_
          refine (rg_isub (pc := 22) (dd bX13_without dX13_without_22) (p3 c1 c2) (p4 c1 c2)).trans ?_
          refine Eq.trans (b := vrun mX13_without 23 [(0, x0), (0, x1), (0, x2)] [(0, x0 - (x2 - x1))] h) rfl ?_
          simp only [if_pos c2]
        · refine (if_neg c2).trans ?_
          refine (rn_iload_n (pc := 14) (dd bX13_without dX13_without_14) rfl).trans ?_
          refine (rn_goto (t := 23) (pc := 15) (dd bX13_without dX13_without_15) rfl).trans ?_
          refine Eq.trans (b := vrun mX13_without 23 [(0, x0), (0, x1), (0, x2)] [(0, x1)] h) rfl ?_
          simp only [if_neg c2]
      refine e1.trans ?_
      refine Eq.trans (b := vrun mX13_without 23 [(0, x0), (0, x1), (0, x2)] [(0, (if x2 ≤ x0 then x0 - (x2 - x1) else x1))] h) rfl ?_
      simp only [if_pos c1]
    · refine (if_neg c1).trans ?_
      refine (rn_iload_n (pc := 5) (dd bX13_without dX13_without_5) rfl).trans ?_
      refine (rn_goto (t := 23) (pc := 6) (dd bX13_without dX13_without_6) rfl).trans ?_
      refine Eq.trans (b := vrun mX13_without 23 [(0, x0), (0, x1), (0, x2)] [(0, x0)] h) rfl ?_
      simp only [if_neg c1]
  refine e2.trans ?_
  exact rn_ireturn (pc := 23) (dd bX13_without dX13_without_23) (Or.inl rfl)
def fX13_without (h : vH) (x0 : Int) (x1 : Int) (x2 : Int) : Int := (if x1 < x0 then (if x2 ≤ x0 then x0 - (x2 - x1) else x1) else x0)
theorem spX13_without {x0 : Int} {x1 : Int} {x2 : Int} {h : vH} (p1 : x1 < x0 → x2 ≤ x0 → (-2147483648) ≤ x2 - x1) (p2 : x1 < x0 → x2 ≤ x0 → x2 - x1 < 2147483648) (p3 : x1 < x0 → x2 ≤ x0 → (-2147483648) ≤ x0 - (x2 - x1)) (p4 : x1 < x0 → x2 ≤ x0 → x0 - (x2 - x1) < 2147483648) : vcl mX13_without [(0, x0), (0, x1), (0, x2)] h = some (.inl (some (0, fX13_without h x0 x1 x2)), h) := by
  refine (show _ = _ from rX13_without_0 p1 p2 p3 p4).trans ?_
  rfl
theorem bX13_dropsSpan : vmB mX13_dropsSpan = cX13_dropsSpan := rfl
theorem rX13_dropsSpan_0 {x1 : Int} {x2 : Int} {h : vH} (s1 : shModel h) (p2 : 0 ≤ x1) (p3 : x1 < 4) (p4 : (-2147483648) ≤ h 2 293 x1 - 1) (p5 : h 2 293 x1 - 1 < 2147483648) (p6 : (-2147483648) ≤ 6 * x1) (p7 : 6 * x1 < 2147483648) (p8 : (-2147483648) ≤ 6 * x1 + x2) (p9 : 6 * x1 + x2 < 2147483648) : vrun mX13_dropsSpan 0 [(1, 282), (0, x1), (0, x2), (9, 0)] [] h = vrun mX13_dropsSpan 17 [(1, 282), (0, x1), (0, x2), (0, 6 * x1 + x2)] [] (vup h 2 293 x1 (h 2 293 x1 - 1)) := by
  refine (rn_aload_n (pc := 0) (dd bX13_dropsSpan dX13_dropsSpan_0) rfl).trans ?_
  refine (rg_gf (pc := 1) (dd bX13_dropsSpan dX13_dropsSpan_1) (ci := 14) (j := 12) rfl rfl (key := 1512) rfl (kc := 34) rfl s1.1 s1.2.2.2.2.2.2.2.2.2.2.2.2.2.2.2.2.2.2.2.2.2.2.2.2.2.2.2.2.2.2.2.1).trans ?_
  refine (rn_iload_n (pc := 4) (dd bX13_dropsSpan dX13_dropsSpan_4) rfl).trans ?_
  refine (rn_dup2 (pc := 5) (dd bX13_dropsSpan dX13_dropsSpan_5) (by decide)).trans ?_
  refine (rg_iaload (pc := 6) (dd bX13_dropsSpan dX13_dropsSpan_6) s1.2.2.2.2.2.2.2.2.2.2.2.2.2.2.2.2.2.2.2.2.2.2.2.2.2.2.2.2.2.2.2.2.1 s1.2.2.2.2.2.2.2.2.2.2.2.2.2.2.2.2.2.2.2.2.2.2.2.2.2.2.2.2.2.2.2.2.2.1 p2 p3 rfl).trans ?_
  refine (rn_iconst (pc := 7) (dd bX13_dropsSpan dX13_dropsSpan_7) (by decide)).trans ?_
  refine (rg_isub (pc := 8) (dd bX13_dropsSpan dX13_dropsSpan_8) p4 p5).trans ?_
  refine (rg_iastore (pc := 9) (dd bX13_dropsSpan dX13_dropsSpan_9) s1.2.2.2.2.2.2.2.2.2.2.2.2.2.2.2.2.2.2.2.2.2.2.2.2.2.2.2.2.2.2.2.2.1 s1.2.2.2.2.2.2.2.2.2.2.2.2.2.2.2.2.2.2.2.2.2.2.2.2.2.2.2.2.2.2.2.2.2.1 (by omega) (by omega)).trans ?_
  refine (rn_bipush (pc := 10) (dd bX13_dropsSpan dX13_dropsSpan_10) (by decide)).trans ?_
  refine (rn_iload_n (pc := 12) (dd bX13_dropsSpan dX13_dropsSpan_12) rfl).trans ?_
  refine (rg_imul (pc := 13) (dd bX13_dropsSpan dX13_dropsSpan_13) p6 p7).trans ?_
  refine (rn_iload_n (pc := 14) (dd bX13_dropsSpan dX13_dropsSpan_14) rfl).trans ?_
  refine (rg_iadd (pc := 15) (dd bX13_dropsSpan dX13_dropsSpan_15) p8 p9).trans ?_
  refine (rn_istore_n (pc := 16) (dd bX13_dropsSpan dX13_dropsSpan_16) (Nat.le_of_ble_eq_true rfl) rfl).trans ?_
  rfl
theorem rX13_dropsSpan_17 {x1 : Int} {x2 : Int} {x3 : Int} {h : vH} (p1 : (-2147483648) ≤ 6 * x1) (p2 : 6 * x1 < 2147483648) (s3 : shModel h) (p4 : 0 ≤ x1) (p5 : x1 < 4) (p6 : (-2147483648) ≤ 6 * x1 + h 2 293 x1) (p7 : 6 * x1 + h 2 293 x1 < 2147483648) (p8 : ¬ (6 * x1 + h 2 293 x1 ≤ x3) → (-2147483648) ≤ x3 + 1) (p9 : ¬ (6 * x1 + h 2 293 x1 ≤ x3) → x3 + 1 < 2147483648) (p10 : ¬ (6 * x1 + h 2 293 x1 ≤ x3) → 0 ≤ x3 + 1) (p11 : ¬ (6 * x1 + h 2 293 x1 ≤ x3) → x3 + 1 < 24) (p12 : ¬ (6 * x1 + h 2 293 x1 ≤ x3) → 0 ≤ x3) (p13 : ¬ (6 * x1 + h 2 293 x1 ≤ x3) → x3 < 24) : vrun mX13_dropsSpan 17 [(1, 282), (0, x1), (0, x2), (0, x3)] [] h = if 6 * x1 + h 2 293 x1 ≤ x3 then some (.inl none, h) else vrun mX13_dropsSpan 17 [(1, 282), (0, x1), (0, x2), (0, x3 + 1)] [] (vup (vup (vup h 2 294 x3 (h 2 294 (x3 + 1))) 2 295 x3 (h 2 295 (x3 + 1))) 2 296 x3 (h 2 296 (x3 + 1))) := by
  refine (rn_iload_n (pc := 17) (dd bX13_dropsSpan dX13_dropsSpan_17) rfl).trans ?_
  refine (rn_bipush (pc := 18) (dd bX13_dropsSpan dX13_dropsSpan_18) (by decide)).trans ?_
  refine (rn_iload_n (pc := 20) (dd bX13_dropsSpan dX13_dropsSpan_20) rfl).trans ?_
  refine (rg_imul (pc := 21) (dd bX13_dropsSpan dX13_dropsSpan_21) p1 p2).trans ?_
  refine (rn_aload_n (pc := 22) (dd bX13_dropsSpan dX13_dropsSpan_22) rfl).trans ?_
  refine (rg_gf (pc := 23) (dd bX13_dropsSpan dX13_dropsSpan_23) (ci := 14) (j := 12) rfl rfl (key := 1512) rfl (kc := 34) rfl s3.1 s3.2.2.2.2.2.2.2.2.2.2.2.2.2.2.2.2.2.2.2.2.2.2.2.2.2.2.2.2.2.2.2.1).trans ?_
  refine (rn_iload_n (pc := 26) (dd bX13_dropsSpan dX13_dropsSpan_26) rfl).trans ?_
  refine (rg_iaload (pc := 27) (dd bX13_dropsSpan dX13_dropsSpan_27) s3.2.2.2.2.2.2.2.2.2.2.2.2.2.2.2.2.2.2.2.2.2.2.2.2.2.2.2.2.2.2.2.2.1 s3.2.2.2.2.2.2.2.2.2.2.2.2.2.2.2.2.2.2.2.2.2.2.2.2.2.2.2.2.2.2.2.2.2.1 p4 p5 rfl).trans ?_
  refine (rg_iadd (pc := 28) (dd bX13_dropsSpan dX13_dropsSpan_28) p6 p7).trans ?_
  refine (rn_icmp_ge (t := 80) (pc := 29) (dd bX13_dropsSpan dX13_dropsSpan_29) rfl).trans (itec (fun c1 => ?_) (fun c1 => ?_))
  · exact rn_return (pc := 80) (dd bX13_dropsSpan dX13_dropsSpan_80) rfl
  · refine (rn_aload_n (pc := 32) (dd bX13_dropsSpan dX13_dropsSpan_32) rfl).trans ?_
    refine (rg_gf (pc := 33) (dd bX13_dropsSpan dX13_dropsSpan_33) (ci := 14) (j := 13) rfl rfl (key := 1513) rfl (kc := 34) rfl s3.1 s3.2.2.2.2.2.2.2.2.2.2.2.2.2.2.2.2.2.2.2.2.2.2.2.2.2.2.2.2.2.2.2.2.2.2.1).trans ?_
    refine (rn_iload_n (pc := 36) (dd bX13_dropsSpan dX13_dropsSpan_36) rfl).trans ?_
    refine (rn_aload_n (pc := 37) (dd bX13_dropsSpan dX13_dropsSpan_37) rfl).trans ?_
    refine (rg_gf (pc := 38) (dd bX13_dropsSpan dX13_dropsSpan_38) (ci := 14) (j := 13) rfl rfl (key := 1513) rfl (kc := 34) rfl s3.1 s3.2.2.2.2.2.2.2.2.2.2.2.2.2.2.2.2.2.2.2.2.2.2.2.2.2.2.2.2.2.2.2.2.2.2.1).trans ?_
    refine (rn_iload_n (pc := 41) (dd bX13_dropsSpan dX13_dropsSpan_41) rfl).trans ?_
    refine (rn_iconst (pc := 42) (dd bX13_dropsSpan dX13_dropsSpan_42) (by decide)).trans ?_
    refine (rg_iadd (pc := 43) (dd bX13_dropsSpan dX13_dropsSpan_43) (p8 c1) (p9 c1)).trans ?_
    refine (rg_iaload (pc := 44) (dd bX13_dropsSpan dX13_dropsSpan_44) s3.2.2.2.2.2.2.2.2.2.2.2.2.2.2.2.2.2.2.2.2.2.2.2.2.2.2.2.2.2.2.2.2.2.2.2.1 s3.2.2.2.2.2.2.2.2.2.2.2.2.2.2.2.2.2.2.2.2.2.2.2.2.2.2.2.2.2.2.2.2.2.2.2.2.1 (p10 c1) (p11 c1) rfl).trans ?_
    refine (rg_iastore (pc := 45) (dd bX13_dropsSpan dX13_dropsSpan_45) s3.2.2.2.2.2.2.2.2.2.2.2.2.2.2.2.2.2.2.2.2.2.2.2.2.2.2.2.2.2.2.2.2.2.2.2.1 s3.2.2.2.2.2.2.2.2.2.2.2.2.2.2.2.2.2.2.2.2.2.2.2.2.2.2.2.2.2.2.2.2.2.2.2.2.1 (p12 c1) (p13 c1)).trans ?_
    refine (rn_aload_n (pc := 46) (dd bX13_dropsSpan dX13_dropsSpan_46) rfl).trans ?_
    refine (rg_gf (pc := 47) (dd bX13_dropsSpan dX13_dropsSpan_47) (ci := 14) (j := 14) rfl rfl (key := 1514) rfl (kc := 34) rfl ((vup_k (by decide)).trans s3.1) ((vup_k (by decide)).trans s3.2.2.2.2.2.2.2.2.2.2.2.2.2.2.2.2.2.2.2.2.2.2.2.2.2.2.2.2.2.2.2.2.2.2.2.2.2.1)).trans ?_
    refine (rn_iload_n (pc := 50) (dd bX13_dropsSpan dX13_dropsSpan_50) rfl).trans ?_
    refine (rn_aload_n (pc := 51) (dd bX13_dropsSpan dX13_dropsSpan_51) rfl).trans ?_
    refine (rg_gf (pc := 52) (dd bX13_dropsSpan dX13_dropsSpan_52) (ci := 14) (j := 14) rfl rfl (key := 1514) rfl (kc := 34) rfl ((vup_k (by decide)).trans s3.1) ((vup_k (by decide)).trans s3.2.2.2.2.2.2.2.2.2.2.2.2.2.2.2.2.2.2.2.2.2.2.2.2.2.2.2.2.2.2.2.2.2.2.2.2.2.1)).trans ?_
    refine (rn_iload_n (pc := 55) (dd bX13_dropsSpan dX13_dropsSpan_55) rfl).trans ?_
    refine (rn_iconst (pc := 56) (dd bX13_dropsSpan dX13_dropsSpan_56) (by decide)).trans ?_
    refine (rg_iadd (pc := 57) (dd bX13_dropsSpan dX13_dropsSpan_57) (by have z0 := p12 c1; have z1 := p13 c1; have z2 := p11 c1; omega) (by have z0 := p12 c1; have z1 := p13 c1; have z2 := p11 c1; omega)).trans ?_
    refine (rg_iaload (pc := 58) (dd bX13_dropsSpan dX13_dropsSpan_58) ((vup_k (by decide)).trans s3.2.2.2.2.2.2.2.2.2.2.2.2.2.2.2.2.2.2.2.2.2.2.2.2.2.2.2.2.2.2.2.2.2.2.2.2.2.2.1) ((vup_k (by decide)).trans s3.2.2.2.2.2.2.2.2.2.2.2.2.2.2.2.2.2.2.2.2.2.2.2.2.2.2.2.2.2.2.2.2.2.2.2.2.2.2.2.1) (by have z0 := p12 c1; have z1 := p13 c1; have z2 := p11 c1; omega) (by have z0 := p12 c1; have z1 := p13 c1; have z2 := p11 c1; omega) ((vup_r (by omega)).trans rfl)).trans ?_
    refine (rg_iastore (pc := 59) (dd bX13_dropsSpan dX13_dropsSpan_59) ((vup_k (by decide)).trans s3.2.2.2.2.2.2.2.2.2.2.2.2.2.2.2.2.2.2.2.2.2.2.2.2.2.2.2.2.2.2.2.2.2.2.2.2.2.2.1) ((vup_k (by decide)).trans s3.2.2.2.2.2.2.2.2.2.2.2.2.2.2.2.2.2.2.2.2.2.2.2.2.2.2.2.2.2.2.2.2.2.2.2.2.2.2.2.1) (by have z0 := p12 c1; have z1 := p13 c1; omega) (by have z0 := p12 c1; have z1 := p13 c1; omega)).trans ?_
    refine (rn_aload_n (pc := 60) (dd bX13_dropsSpan dX13_dropsSpan_60) rfl).trans ?_
    refine (rg_gf (pc := 61) (dd bX13_dropsSpan dX13_dropsSpan_61) (ci := 14) (j := 15) rfl rfl (key := 1515) rfl (kc := 34) rfl ((vup_k (by decide)).trans ((vup_k (by decide)).trans s3.1)) ((vup_k (by decide)).trans ((vup_k (by decide)).trans s3.2.2.2.2.2.2.2.2.2.2.2.2.2.2.2.2.2.2.2.2.2.2.2.2.2.2.2.2.2.2.2.2.2.2.2.2.2.2.2.2.1))).trans ?_
    refine (rn_iload_n (pc := 64) (dd bX13_dropsSpan dX13_dropsSpan_64) rfl).trans ?_
    refine (rn_aload_n (pc := 65) (dd bX13_dropsSpan dX13_dropsSpan_65) rfl).trans ?_
    refine (rg_gf (pc := 66) (dd bX13_dropsSpan dX13_dropsSpan_66) (ci := 14) (j := 15) rfl rfl (key := 1515) rfl (kc := 34) rfl ((vup_k (by decide)).trans ((vup_k (by decide)).trans s3.1)) ((vup_k (by decide)).trans ((vup_k (by decide)).trans s3.2.2.2.2.2.2.2.2.2.2.2.2.2.2.2.2.2.2.2.2.2.2.2.2.2.2.2.2.2.2.2.2.2.2.2.2.2.2.2.2.1))).trans ?_
    refine (rn_iload_n (pc := 69) (dd bX13_dropsSpan dX13_dropsSpan_69) rfl).trans ?_
    refine (rn_iconst (pc := 70) (dd bX13_dropsSpan dX13_dropsSpan_70) (by decide)).trans ?_
    refine (rg_iadd (pc := 71) (dd bX13_dropsSpan dX13_dropsSpan_71) (by have z0 := p12 c1; have z1 := p13 c1; have z2 := p11 c1; omega) (by have z0 := p12 c1; have z1 := p13 c1; have z2 := p11 c1; omega)).trans ?_
    refine (rg_iaload (pc := 72) (dd bX13_dropsSpan dX13_dropsSpan_72) ((vup_k (by decide)).trans ((vup_k (by decide)).trans s3.2.2.2.2.2.2.2.2.2.2.2.2.2.2.2.2.2.2.2.2.2.2.2.2.2.2.2.2.2.2.2.2.2.2.2.2.2.2.2.2.2.1)) ((vup_k (by decide)).trans ((vup_k (by decide)).trans s3.2.2.2.2.2.2.2.2.2.2.2.2.2.2.2.2.2.2.2.2.2.2.2.2.2.2.2.2.2.2.2.2.2.2.2.2.2.2.2.2.2.2.1)) (by have z0 := p12 c1; have z1 := p13 c1; have z2 := p11 c1; omega) (by have z0 := p12 c1; have z1 := p13 c1; have z2 := p11 c1; omega) ((vup_r (by omega)).trans ((vup_r (by omega)).trans rfl))).trans ?_
    refine (rg_iastore (pc := 73) (dd bX13_dropsSpan dX13_dropsSpan_73) ((vup_k (by decide)).trans ((vup_k (by decide)).trans s3.2.2.2.2.2.2.2.2.2.2.2.2.2.2.2.2.2.2.2.2.2.2.2.2.2.2.2.2.2.2.2.2.2.2.2.2.2.2.2.2.2.1)) ((vup_k (by decide)).trans ((vup_k (by decide)).trans s3.2.2.2.2.2.2.2.2.2.2.2.2.2.2.2.2.2.2.2.2.2.2.2.2.2.2.2.2.2.2.2.2.2.2.2.2.2.2.2.2.2.2.1)) (by have z0 := p12 c1; have z1 := p13 c1; omega) (by have z0 := p12 c1; have z1 := p13 c1; omega)).trans ?_
    refine (rg_iinc (pc := 74) (dd bX13_dropsSpan dX13_dropsSpan_74) rfl (Nat.le_of_ble_eq_true rfl) (by have z0 := p12 c1; have z1 := p13 c1; have z2 := p11 c1; omega) (by have z0 := p12 c1; have z1 := p13 c1; have z2 := p11 c1; omega) rfl).trans ?_
    refine (rn_goto (t := 17) (pc := 77) (dd bX13_dropsSpan dX13_dropsSpan_77) rfl).trans ?_
    rfl
theorem bX13_dropsEmpty : vmB mX13_dropsEmpty = cX13_dropsEmpty := rfl
theorem rX13_dropsEmpty_0 {h : vH} : vrun mX13_dropsEmpty 0 [(1, 282), (9, 0), (9, 0)] [] h = vrun mX13_dropsEmpty 2 [(1, 282), (0, 0), (9, 0)] [] h := by
  refine (rn_iconst (pc := 0) (dd bX13_dropsEmpty dX13_dropsEmpty_0) (by decide)).trans ?_
  refine (rn_istore_n (pc := 1) (dd bX13_dropsEmpty dX13_dropsEmpty_1) (Nat.le_of_ble_eq_true rfl) rfl).trans ?_
  rfl
theorem rX13_dropsEmpty_2 {x1 : Int} {v2 : vv} {h : vH} (s1 : shModel h) (p2 : ¬ (4 ≤ x1) → 0 ≤ x1) (p3 : ¬ (4 ≤ x1) → (-2147483648) ≤ h 2 293 x1 - 1) (p4 : ¬ (4 ≤ x1) → h 2 293 x1 - 1 < 2147483648) : vrun mX13_dropsEmpty 2 [(1, 282), (0, x1), v2] [] h = if 4 ≤ x1 then some (.inl none, h) else vrun mX13_dropsEmpty 16 [(1, 282), (0, x1), (0, h 2 293 x1 - 1)] [] h := by
  refine (rn_iload_n (pc := 2) (dd bX13_dropsEmpty dX13_dropsEmpty_2) rfl).trans ?_
  refine (rn_iconst (pc := 3) (dd bX13_dropsEmpty dX13_dropsEmpty_3) (by decide)).trans ?_
  refine (rn_icmp_ge (t := 63) (pc := 4) (dd bX13_dropsEmpty dX13_dropsEmpty_4) rfl).trans (itec (fun c1 => ?_) (fun c1 => ?_))
  · exact rn_return (pc := 63) (dd bX13_dropsEmpty dX13_dropsEmpty_63) rfl
  · refine (rn_aload_n (pc := 7) (dd bX13_dropsEmpty dX13_dropsEmpty_7) rfl).trans ?_
    refine (rg_gf (pc := 8) (dd bX13_dropsEmpty dX13_dropsEmpty_8) (ci := 14) (j := 12) rfl rfl (key := 1512) rfl (kc := 34) rfl s1.1 s1.2.2.2.2.2.2.2.2.2.2.2.2.2.2.2.2.2.2.2.2.2.2.2.2.2.2.2.2.2.2.2.1).trans ?_
    refine (rn_iload_n (pc := 11) (dd bX13_dropsEmpty dX13_dropsEmpty_11) rfl).trans ?_
    refine (rg_iaload (pc := 12) (dd bX13_dropsEmpty dX13_dropsEmpty_12) s1.2.2.2.2.2.2.2.2.2.2.2.2.2.2.2.2.2.2.2.2.2.2.2.2.2.2.2.2.2.2.2.2.1 s1.2.2.2.2.2.2.2.2.2.2.2.2.2.2.2.2.2.2.2.2.2.2.2.2.2.2.2.2.2.2.2.2.2.1 (p2 c1) (Int.not_le.mp c1) rfl).trans ?_
    refine (rn_iconst (pc := 13) (dd bX13_dropsEmpty dX13_dropsEmpty_13) (by decide)).trans ?_
    refine (rg_isub (pc := 14) (dd bX13_dropsEmpty dX13_dropsEmpty_14) (p3 c1) (p4 c1)).trans ?_
    refine (rn_istore_n (pc := 15) (dd bX13_dropsEmpty dX13_dropsEmpty_15) (Nat.le_of_ble_eq_true rfl) rfl).trans ?_
    rfl
theorem rX13_dropsEmpty_16 {x1 : Int} {x2 : Int} {h : vH} (p1 : x2 < 0 → (-2147483648) ≤ x1 + 1) (p2 : x2 < 0 → x1 + 1 < 2147483648) (s3 : shModel h) (p4 : ¬ (x2 < 0) → (-2147483648) ≤ 6 * x1) (p5 : ¬ (x2 < 0) → 6 * x1 < 2147483648) (p6 : ¬ (x2 < 0) → 6 * x1 + x2 < 2147483648) (p7 : ¬ (x2 < 0) → 0 ≤ 6 * x1 + x2) (p8 : ¬ (x2 < 0) → 6 * x1 + x2 < 24) (p9 : ¬ (x2 < 0) → ¬ (h 2 295 (6 * x1 + x2) = h 2 296 (6 * x1 + x2)) → x2 + (-1) < 2147483648) : vrun mX13_dropsEmpty 16 [(1, 282), (0, x1), (0, x2)] [] h = if x2 < 0 then vrun mX13_dropsEmpty 2 [(1, 282), (0, x1 + 1), (0, x2)] [] h else if h 2 295 (6 * x1 + x2) = h 2 296 (6 * x1 + x2) then vret vrun mX13_dropsEmpty 48 [(1, 282), (0, x1), (0, x2)] [] (vcl mX13_dropsSpan [(1, 282), (0, x1), (0, x2)] h) else vrun mX13_dropsEmpty 16 [(1, 282), (0, x1), (0, x2 + (-1))] [] h := by
  refine (rn_iload_n (pc := 16) (dd bX13_dropsEmpty dX13_dropsEmpty_16) rfl).trans ?_
  refine (rn_if_lt (t := 57) (pc := 17) (dd bX13_dropsEmpty dX13_dropsEmpty_17) rfl).trans (itec (fun c1 => ?_) (fun c1 => ?_))
  · refine (rg_iinc (pc := 57) (dd bX13_dropsEmpty dX13_dropsEmpty_57) rfl (Nat.le_of_ble_eq_true rfl) (p1 c1) (p2 c1) rfl).trans ?_
    refine (rn_goto (t := 2) (pc := 60) (dd bX13_dropsEmpty dX13_dropsEmpty_60) rfl).trans ?_
    rfl
  · refine (rn_aload_n (pc := 20) (dd bX13_dropsEmpty dX13_dropsEmpty_20) rfl).trans ?_
    refine (rg_gf (pc := 21) (dd bX13_dropsEmpty dX13_dropsEmpty_21) (ci := 14) (j := 14) rfl rfl (key := 1514) rfl (kc := 34) rfl s3.1 s3.2.2.2.2.2.2.2.2.2.2.2.2.2.2.2.2.2.2.2.2.2.2.2.2.2.2.2.2.2.2.2.2.2.2.2.2.2.1).trans ?_
    refine (rn_bipush (pc := 24) (dd bX13_dropsEmpty dX13_dropsEmpty_24) (by decide)).trans ?_
    refine (rn_iload_n (pc := 26) (dd bX13_dropsEmpty dX13_dropsEmpty_26) rfl).trans ?_
    refine (rg_imul (pc := 27) (dd bX13_dropsEmpty dX13_dropsEmpty_27) (p4 c1) (p5 c1)).trans ?_
    refine (rn_iload_n (pc := 28) (dd bX13_dropsEmpty dX13_dropsEmpty_28) rfl).trans ?_
    refine (rg_iadd (pc := 29) (dd bX13_dropsEmpty dX13_dropsEmpty_29) (by have z0 := p4 c1; have z1 := p5 c1; omega) (p6 c1)).trans ?_
    refine (rg_iaload (pc := 30) (dd bX13_dropsEmpty dX13_dropsEmpty_30) s3.2.2.2.2.2.2.2.2.2.2.2.2.2.2.2.2.2.2.2.2.2.2.2.2.2.2.2.2.2.2.2.2.2.2.2.2.2.2.1 s3.2.2.2.2.2.2.2.2.2.2.2.2.2.2.2.2.2.2.2.2.2.2.2.2.2.2.2.2.2.2.2.2.2.2.2.2.2.2.2.1 (p7 c1) (p8 c1) rfl).trans ?_
    refine (rn_aload_n (pc := 31) (dd bX13_dropsEmpty dX13_dropsEmpty_31) rfl).trans ?_
    refine (rg_gf (pc := 32) (dd bX13_dropsEmpty dX13_dropsEmpty_32) (ci := 14) (j := 15) rfl rfl (key := 1515) rfl (kc := 34) rfl s3.1 s3.2.2.2.2.2.2.2.2.2.2.2.2.2.2.2.2.2.2.2.2.2.2.2.2.2.2.2.2.2.2.2.2.2.2.2.2.2.2.2.2.1).trans ?_
    refine (rn_bipush (pc := 35) (dd bX13_dropsEmpty dX13_dropsEmpty_35) (by decide)).trans ?_
    refine (rn_iload_n (pc := 37) (dd bX13_dropsEmpty dX13_dropsEmpty_37) rfl).trans ?_
    refine (rg_imul (pc := 38) (dd bX13_dropsEmpty dX13_dropsEmpty_38) (by have z0 := p4 c1; have z1 := p5 c1; omega) (by have z0 := p4 c1; have z1 := p5 c1; omega)).trans ?_
    refine (rn_iload_n (pc := 39) (dd bX13_dropsEmpty dX13_dropsEmpty_39) rfl).trans ?_
    refine (rg_iadd (pc := 40) (dd bX13_dropsEmpty dX13_dropsEmpty_40) (by have z0 := p4 c1; have z1 := p5 c1; have z2 := p6 c1; have z3 := p7 c1; have z4 := p8 c1; omega) (by have z0 := p4 c1; have z1 := p5 c1; have z2 := p6 c1; have z3 := p7 c1; have z4 := p8 c1; omega)).trans ?_
    refine (rg_iaload (pc := 41) (dd bX13_dropsEmpty dX13_dropsEmpty_41) s3.2.2.2.2.2.2.2.2.2.2.2.2.2.2.2.2.2.2.2.2.2.2.2.2.2.2.2.2.2.2.2.2.2.2.2.2.2.2.2.2.2.1 s3.2.2.2.2.2.2.2.2.2.2.2.2.2.2.2.2.2.2.2.2.2.2.2.2.2.2.2.2.2.2.2.2.2.2.2.2.2.2.2.2.2.2.1 (by have z0 := p4 c1; have z1 := p5 c1; have z2 := p6 c1; have z3 := p7 c1; have z4 := p8 c1; omega) (by have z0 := p4 c1; have z1 := p5 c1; have z2 := p6 c1; have z3 := p7 c1; have z4 := p8 c1; omega) rfl).trans ?_
    refine (rg_icmp_ne (t := 51) (pc := 42) (dd bX13_dropsEmpty dX13_dropsEmpty_42) rfl).trans (itec (fun c2 => ?_) (fun c2 => ?_))
    · refine (rn_aload_n (pc := 45) (dd bX13_dropsEmpty dX13_dropsEmpty_45) rfl).trans ?_
      refine (rn_iload_n (pc := 46) (dd bX13_dropsEmpty dX13_dropsEmpty_46) rfl).trans ?_
      refine (rn_iload_n (pc := 47) (dd bX13_dropsEmpty dX13_dropsEmpty_47) rfl).trans ?_
      exact rg_virtual (pc := 48) (dd bX13_dropsEmpty dX13_dropsEmpty_48) rfl rfl (by decide) (kc := 34) rfl s3.1 (as := [(1, 282), (0, x1), (0, x2)]) rfl ⟨Nat.le_of_ble_eq_true rfl, Nat.le_of_ble_eq_true rfl, Nat.le_of_ble_eq_true rfl, Nat.le_of_ble_eq_true rfl⟩
    · refine (rg_iinc (pc := 51) (dd bX13_dropsEmpty dX13_dropsEmpty_51) rfl (Nat.le_of_ble_eq_true rfl) (by omega) (p9 c1 c2) rfl).trans ?_
      refine (rn_goto (t := 16) (pc := 54) (dd bX13_dropsEmpty dX13_dropsEmpty_54) rfl).trans ?_
      rfl
theorem rX13_dropsEmpty_51 {x1 : Int} {x2 : Int} {h : vH} (p1 : (-2147483648) ≤ x2 + (-1)) (p2 : x2 + (-1) < 2147483648) : vrun mX13_dropsEmpty 51 [(1, 282), (0, x1), (0, x2)] [] h = vrun mX13_dropsEmpty 16 [(1, 282), (0, x1), (0, x2 + (-1))] [] h := by
  refine (rg_iinc (pc := 51) (dd bX13_dropsEmpty dX13_dropsEmpty_51) rfl (Nat.le_of_ble_eq_true rfl) p1 p2 rfl).trans ?_
  refine (rn_goto (t := 16) (pc := 54) (dd bX13_dropsEmpty dX13_dropsEmpty_54) rfl).trans ?_
  rfl
theorem bX13_remove : vmB mX13_remove = cX13_remove := rfl
theorem rX13_remove_0 {x1 : Int} {x2 : Int} {x3 : Int} {h : vH} (s1 : shModel h) (p2 : (-2147483648) ≤ h 1504 282 0 - 1) (p3 : h 1504 282 0 - 1 < 2147483648) (p4 : ¬ (fX13_isLine h x1 = 0) → 0 ≤ x1) (p5 : ¬ (fX13_isLine h x1 = 0) → x1 < 60) (p6 : ¬ (fX13_isLine h x1 = 0) → ¬ (x3 < 1) ∧ ¬ (h 2 284 x1 < x3) → (-2147483648) ≤ x3 - 1) (p7 : ¬ (fX13_isLine h x1 = 0) → ¬ (x3 < 1) ∧ ¬ (h 2 284 x1 < x3) → x3 - 1 < 2147483648) : vrun mX13_remove 0 [(1, 282), (0, x1), (0, x2), (0, x3), (9, 0), (9, 0), (9, 0)] [] h = vret vrun mX13_remove 64 [(1, 282), (0, x1), (0, x2), (0, x3), (0, fX13_isLine h x1), (0, (if ¬ (fX13_isLine h x1 = 0) ∧ (¬ (x3 < 1) ∧ ¬ (h 2 284 x1 < x3)) ∧ ¬ (x2 < 0) ∧ ¬ (x3 - 1 < x2) then 1 else 0)), (9, 0)] [] (vcl mX13_isFine [(1, 282), (0, (if fX13_isLine h x1 = 0 then 1 else (if ¬ (fX13_isLine h x1 = 0) ∧ (¬ (x3 < 1) ∧ ¬ (h 2 284 x1 < x3)) ∧ ¬ (x2 < 0) ∧ ¬ (x3 - 1 < x2) then 0 else 2)))] h) := by
  refine (rn_aload_n (pc := 0) (dd bX13_remove dX13_remove_0) rfl).trans ?_
  refine (rn_iload_n (pc := 1) (dd bX13_remove dX13_remove_1) rfl).trans ?_
  refine (rg_virtual (pc := 2) (dd bX13_remove dX13_remove_2) rfl rfl (by decide) (kc := 34) rfl s1.1 (as := [(1, 282), (0, x1)]) rfl ⟨Nat.le_of_ble_eq_true rfl, Nat.le_of_ble_eq_true rfl, Nat.le_of_ble_eq_true rfl, Nat.le_of_ble_eq_true rfl⟩).trans ?_
  refine (vret_v (spX13_isLine s1 p2 p3)).trans ?_
  refine (rn_istore (pc := 5) (dd bX13_remove dX13_remove_5) (Nat.le_of_ble_eq_true rfl) rfl).trans ?_
  refine (rn_iload (pc := 7) (dd bX13_remove dX13_remove_7) rfl).trans ?_
  have e3 : vrun mX13_remove 9 [(1, 282), (0, x1), (0, x2), (0, x3), (0, fX13_isLine h x1), (9, 0), (9, 0)] [(0, fX13_isLine h x1)] h = vrun mX13_remove 42 [(1, 282), (0, x1), (0, x2), (0, x3), (0, fX13_isLine h x1), (9, 0), (9, 0)] [(0, (if ¬ (fX13_isLine h x1 = 0) ∧ (¬ (x3 < 1) ∧ ¬ (h 2 284 x1 < x3)) ∧ ¬ (x2 < 0) ∧ ¬ (x3 - 1 < x2) then 1 else 0))] h := by
    refine (rn_if_eq (t := 41) (pc := 9) (dd bX13_remove dX13_remove_9) rfl).trans ?_
    by_cases c1 : fX13_isLine h x1 = 0
    · refine (if_pos c1).trans ?_
      refine (rn_iconst (pc := 41) (dd bX13_remove dX13_remove_41) (by decide)).trans ?_
      refine Eq.trans (b := vrun mX13_remove 42 [(1, 282), (0, x1), (0, x2), (0, x3), (0, fX13_isLine h x1), (9, 0), (9, 0)] [(0, 0)] h) rfl ?_
      simp only [c1, true_or, false_or, or_true, or_false, true_and, false_and, and_true, and_false, not_true_eq_false, not_false_eq_true, ne_eq, if_true, if_false, ↓reduceIte]
    · refine (if_neg c1).trans ?_
      refine (rn_iload_n (pc := 12) (dd bX13_remove dX13_remove_12) rfl).trans ?_
      refine (rn_iconst (pc := 13) (dd bX13_remove dX13_remove_13) (by decide)).trans ?_
      refine (rn_aload_n (pc := 14) (dd bX13_remove dX13_remove_14) rfl).trans ?_
      refine (rg_gf (pc := 15) (dd bX13_remove dX13_remove_15) (ci := 14) (j := 2) rfl rfl (key := 1502) rfl (kc := 34) rfl s1.1 s1.2.2.2.2.1).trans ?_
      refine (rn_iload_n (pc := 18) (dd bX13_remove dX13_remove_18) rfl).trans ?_
      refine (rg_iaload (pc := 19) (dd bX13_remove dX13_remove_19) s1.2.2.2.2.2.1 s1.2.2.2.2.2.2.1 (p4 c1) (p5 c1) rfl).trans ?_
      refine (rg_static (pc := 20) (dd bX13_remove dX13_remove_20) rfl (by decide) (Nat.le_of_ble_eq_true rfl) (as := [(0, x3), (0, 1), (0, h 2 284 x1)]) rfl rfl ⟨Nat.le_of_ble_eq_true rfl, Nat.le_of_ble_eq_true rfl, Nat.le_of_ble_eq_true rfl, Nat.le_of_ble_eq_true rfl⟩).trans ?_
      refine (vret_v spX13_isIn).trans ?_
      have e2 : vrun mX13_remove 23 [(1, 282), (0, x1), (0, x2), (0, x3), (0, fX13_isLine h x1), (9, 0), (9, 0)] [(0, (if ¬ (x3 < 1) ∧ ¬ (h 2 284 x1 < x3) then 1 else 0))] h = vrun mX13_remove 42 [(1, 282), (0, x1), (0, x2), (0, x3), (0, fX13_isLine h x1), (9, 0), (9, 0)] [(0, (if (¬ (x3 < 1) ∧ ¬ (h 2 284 x1 < x3)) ∧ ¬ (x2 < 0) ∧ ¬ (x3 - 1 < x2) then 1 else 0))] h := by
        refine (rg_beq (t := 41) (pc := 23) (dd bX13_remove dX13_remove_23) rfl).trans ?_
        by_cases c2 : ¬ (x3 < 1) ∧ ¬ (h 2 284 x1 < x3)
        · refine (if_pos c2).trans ?_
          refine (rn_iload_n (pc := 26) (dd bX13_remove dX13_remove_26) rfl).trans ?_
          refine (rn_iconst (pc := 27) (dd bX13_remove dX13_remove_27) (by decide)).trans ?_
          refine (rn_iload_n (pc := 28) (dd bX13_remove dX13_remove_28) rfl).trans ?_
          refine (rn_iconst (pc := 29) (dd bX13_remove dX13_remove_29) (by decide)).trans ?_
          refine (rg_isub (pc := 30) (dd bX13_remove dX13_remove_30) (p6 c1 c2) (p7 c1 c2)).trans ?_
          refine (rg_static (pc := 31) (dd bX13_remove dX13_remove_31) rfl (by decide) (Nat.le_of_ble_eq_true rfl) (as := [(0, x2), (0, 0), (0, x3 - 1)]) rfl rfl ⟨Nat.le_of_ble_eq_true rfl, Nat.le_of_ble_eq_true rfl, Nat.le_of_ble_eq_true rfl, Nat.le_of_ble_eq_true rfl⟩).trans ?_
          refine (vret_v spX13_isIn).trans ?_
          have e1 : vrun mX13_remove 34 [(1, 282), (0, x1), (0, x2), (0, x3), (0, fX13_isLine h x1), (9, 0), (9, 0)] [(0, (if ¬ (x2 < 0) ∧ ¬ (x3 - 1 < x2) then 1 else 0))] h = vrun mX13_remove 42 [(1, 282), (0, x1), (0, x2), (0, x3), (0, fX13_isLine h x1), (9, 0), (9, 0)] [(0, (if ¬ (x2 < 0) ∧ ¬ (x3 - 1 < x2) then 1 else 0))] h := by
            refine (rg_beq (t := 41) (pc := 34) (dd bX13_remove dX13_remove_34) rfl).trans ?_
            by_cases c3 : ¬ (x2 < 0) ∧ ¬ (x3 - 1 < x2)
            · refine (if_pos c3).trans ?_
              refine (rn_iconst (pc := 37) (dd bX13_remove dX13_remove_37) (by decide)).trans ?_
              refine (rn_goto (t := 42) (pc := 38) (dd bX13_remove dX13_remove_38) rfl).trans ?_
              refine Eq.trans (b := vrun mX13_remove 42 [(1, 282), (0, x1), (0, x2), (0, x3), (0, fX13_isLine h x1), (9, 0), (9, 0)] [(0, 1)] h) rfl ?_
              simp only [c3, true_or, false_or, or_true, or_false, true_and, false_and, and_true, and_false, not_true_eq_false, not_false_eq_true, ne_eq, if_true, if_false, ↓reduceIte]
            · refine (if_neg c3).trans ?_
              refine (rn_iconst (pc := 41) (dd bX13_remove dX13_remove_41) (by decide)).trans ?_
              refine Eq.trans (b := vrun mX13_remove 42 [(1, 282), (0, x1), (0, x2), (0, x3), (0, fX13_isLine h x1), (9, 0), (9, 0)] [(0, 0)] h) rfl ?_
              simp only [c3, true_or, false_or, or_true, or_false, true_and, false_and, and_true, and_false, not_true_eq_false, not_false_eq_true, ne_eq, if_true, if_false, ↓reduceIte]
          refine e1.trans ?_
          refine Eq.trans (b := vrun mX13_remove 42 [(1, 282), (0, x1), (0, x2), (0, x3), (0, fX13_isLine h x1), (9, 0), (9, 0)] [(0, (if ¬ (x2 < 0) ∧ ¬ (x3 - 1 < x2) then 1 else 0))] h) rfl ?_
          simp only [c2, true_or, false_or, or_true, or_false, true_and, false_and, and_true, and_false, not_true_eq_false, not_false_eq_true, ne_eq, if_true, if_false, ↓reduceIte]
        · refine (if_neg c2).trans ?_
          refine (rn_iconst (pc := 41) (dd bX13_remove dX13_remove_41) (by decide)).trans ?_
          refine Eq.trans (b := vrun mX13_remove 42 [(1, 282), (0, x1), (0, x2), (0, x3), (0, fX13_isLine h x1), (9, 0), (9, 0)] [(0, 0)] h) rfl ?_
          simp only [c2, true_or, false_or, or_true, or_false, true_and, false_and, and_true, and_false, not_true_eq_false, not_false_eq_true, ne_eq, if_true, if_false, ↓reduceIte]
      refine e2.trans ?_
      refine Eq.trans (b := vrun mX13_remove 42 [(1, 282), (0, x1), (0, x2), (0, x3), (0, fX13_isLine h x1), (9, 0), (9, 0)] [(0, (if (¬ (x3 < 1) ∧ ¬ (h 2 284 x1 < x3)) ∧ ¬ (x2 < 0) ∧ ¬ (x3 - 1 < x2) then 1 else 0))] h) rfl ?_
      simp only [c1, true_or, false_or, or_true, or_false, true_and, false_and, and_true, and_false, not_true_eq_false, not_false_eq_true, ne_eq, if_true, if_false, ↓reduceIte]
  refine e3.trans ?_
  refine (rn_istore (pc := 42) (dd bX13_remove dX13_remove_42) (Nat.le_of_ble_eq_true rfl) rfl).trans ?_
  refine (rn_aload_n (pc := 44) (dd bX13_remove dX13_remove_44) rfl).trans ?_
  refine (rn_iload (pc := 45) (dd bX13_remove dX13_remove_45) rfl).trans ?_
  have e5 : vrun mX13_remove 47 [(1, 282), (0, x1), (0, x2), (0, x3), (0, fX13_isLine h x1), (0, (if ¬ (fX13_isLine h x1 = 0) ∧ (¬ (x3 < 1) ∧ ¬ (h 2 284 x1 < x3)) ∧ ¬ (x2 < 0) ∧ ¬ (x3 - 1 < x2) then 1 else 0)), (9, 0)] [(0, fX13_isLine h x1), (1, 282)] h = vrun mX13_remove 64 [(1, 282), (0, x1), (0, x2), (0, x3), (0, fX13_isLine h x1), (0, (if ¬ (fX13_isLine h x1 = 0) ∧ (¬ (x3 < 1) ∧ ¬ (h 2 284 x1 < x3)) ∧ ¬ (x2 < 0) ∧ ¬ (x3 - 1 < x2) then 1 else 0)), (9, 0)] [(0, (if fX13_isLine h x1 = 0 then 1 else (if ¬ (fX13_isLine h x1 = 0) ∧ (¬ (x3 < 1) ∧ ¬ (h 2 284 x1 < x3)) ∧ ¬ (x2 < 0) ∧ ¬ (x3 - 1 < x2) then 0 else 2))), (1, 282)] h := by
    refine (rg_if_ne (t := 54) (pc := 47) (dd bX13_remove dX13_remove_47) rfl).trans ?_
    by_cases c4 : fX13_isLine h x1 = 0
    · refine (if_pos c4).trans ?_
      refine (rn_iconst (pc := 50) (dd bX13_remove dX13_remove_50) (by decide)).trans ?_
      refine (rn_goto (t := 64) (pc := 51) (dd bX13_remove dX13_remove_51) rfl).trans ?_
      refine Eq.trans (b := vrun mX13_remove 64 [(1, 282), (0, x1), (0, x2), (0, x3), (0, fX13_isLine h x1), (0, (if ¬ (fX13_isLine h x1 = 0) ∧ (¬ (x3 < 1) ∧ ¬ (h 2 284 x1 < x3)) ∧ ¬ (x2 < 0) ∧ ¬ (x3 - 1 < x2) then 1 else 0)), (9, 0)] [(0, 1), (1, 282)] h) rfl ?_
      simp only [if_pos c4]
    · refine (if_neg c4).trans ?_
      refine (rn_iload (pc := 54) (dd bX13_remove dX13_remove_54) rfl).trans ?_
      have e4 : vrun mX13_remove 56 [(1, 282), (0, x1), (0, x2), (0, x3), (0, fX13_isLine h x1), (0, (if ¬ (fX13_isLine h x1 = 0) ∧ (¬ (x3 < 1) ∧ ¬ (h 2 284 x1 < x3)) ∧ ¬ (x2 < 0) ∧ ¬ (x3 - 1 < x2) then 1 else 0)), (9, 0)] [(0, (if ¬ (fX13_isLine h x1 = 0) ∧ (¬ (x3 < 1) ∧ ¬ (h 2 284 x1 < x3)) ∧ ¬ (x2 < 0) ∧ ¬ (x3 - 1 < x2) then 1 else 0)), (1, 282)] h = vrun mX13_remove 64 [(1, 282), (0, x1), (0, x2), (0, x3), (0, fX13_isLine h x1), (0, (if ¬ (fX13_isLine h x1 = 0) ∧ (¬ (x3 < 1) ∧ ¬ (h 2 284 x1 < x3)) ∧ ¬ (x2 < 0) ∧ ¬ (x3 - 1 < x2) then 1 else 0)), (9, 0)] [(0, (if ¬ (fX13_isLine h x1 = 0) ∧ (¬ (x3 < 1) ∧ ¬ (h 2 284 x1 < x3)) ∧ ¬ (x2 < 0) ∧ ¬ (x3 - 1 < x2) then 0 else 2)), (1, 282)] h := by
        refine (rg_bne (t := 63) (pc := 56) (dd bX13_remove dX13_remove_56) rfl).trans ?_
        by_cases c5 : ¬ (fX13_isLine h x1 = 0) ∧ (¬ (x3 < 1) ∧ ¬ (h 2 284 x1 < x3)) ∧ ¬ (x2 < 0) ∧ ¬ (x3 - 1 < x2)
        · refine (if_pos c5).trans ?_
          refine (rn_iconst (pc := 63) (dd bX13_remove dX13_remove_63) (by decide)).trans ?_
          refine Eq.trans (b := vrun mX13_remove 64 [(1, 282), (0, x1), (0, x2), (0, x3), (0, fX13_isLine h x1), (0, (if ¬ (fX13_isLine h x1 = 0) ∧ (¬ (x3 < 1) ∧ ¬ (h 2 284 x1 < x3)) ∧ ¬ (x2 < 0) ∧ ¬ (x3 - 1 < x2) then 1 else 0)), (9, 0)] [(0, 0), (1, 282)] h) rfl ?_
          simp only [if_pos c5]
        · refine (if_neg c5).trans ?_
          refine (rn_iconst (pc := 59) (dd bX13_remove dX13_remove_59) (by decide)).trans ?_
          refine (rn_goto (t := 64) (pc := 60) (dd bX13_remove dX13_remove_60) rfl).trans ?_
          refine Eq.trans (b := vrun mX13_remove 64 [(1, 282), (0, x1), (0, x2), (0, x3), (0, fX13_isLine h x1), (0, (if ¬ (fX13_isLine h x1 = 0) ∧ (¬ (x3 < 1) ∧ ¬ (h 2 284 x1 < x3)) ∧ ¬ (x2 < 0) ∧ ¬ (x3 - 1 < x2) then 1 else 0)), (9, 0)] [(0, 2), (1, 282)] h) rfl ?_
          simp only [if_neg c5]
      refine e4.trans ?_
      refine Eq.trans (b := vrun mX13_remove 64 [(1, 282), (0, x1), (0, x2), (0, x3), (0, fX13_isLine h x1), (0, (if ¬ (fX13_isLine h x1 = 0) ∧ (¬ (x3 < 1) ∧ ¬ (h 2 284 x1 < x3)) ∧ ¬ (x2 < 0) ∧ ¬ (x3 - 1 < x2) then 1 else 0)), (9, 0)] [(0, (if ¬ (fX13_isLine h x1 = 0) ∧ (¬ (x3 < 1) ∧ ¬ (h 2 284 x1 < x3)) ∧ ¬ (x2 < 0) ∧ ¬ (x3 - 1 < x2) then 0 else 2)), (1, 282)] h) rfl ?_
      simp only [if_neg c4]
  refine e5.trans ?_
  exact rg_virtual (pc := 64) (dd bX13_remove dX13_remove_64) rfl rfl (by decide) (kc := 34) rfl s1.1 (as := [(1, 282), (0, (if fX13_isLine h x1 = 0 then 1 else (if ¬ (fX13_isLine h x1 = 0) ∧ (¬ (x3 < 1) ∧ ¬ (h 2 284 x1 < x3)) ∧ ¬ (x2 < 0) ∧ ¬ (x3 - 1 < x2) then 0 else 2)))]) rfl ⟨Nat.le_of_ble_eq_true rfl, Nat.le_of_ble_eq_true rfl, Nat.le_of_ble_eq_true rfl, Nat.le_of_ble_eq_true rfl⟩
theorem rX13_remove_67 {x1 : Int} {x2 : Int} {x3 : Int} {x4 : Int} {x5 : Int} {y0 : Int} {h : vH} (s1 : shModel h) (p2 : ¬ (y0 = 0) → 0 ≤ x1) (p3 : ¬ (y0 = 0) → x1 < 60) (p4 : ¬ (y0 = 0) → (-2147483648) ≤ x3 - x2) (p5 : ¬ (y0 = 0) → x3 - x2 < 2147483648) (p6 : ¬ (y0 = 0) → (-2147483648) ≤ h 2 284 x1 - (x3 - x2)) (p7 : ¬ (y0 = 0) → h 2 284 x1 - (x3 - x2) < 2147483648) (p8 : ¬ (y0 = 0) → (-2147483648) ≤ 80 * x1) (p9 : ¬ (y0 = 0) → 80 * x1 < 2147483648) (p10 : ¬ (y0 = 0) → (-2147483648) ≤ 80 * x1 + x2) (p11 : ¬ (y0 = 0) → 80 * x1 + x2 < 2147483648) : vrun mX13_remove 67 [(1, 282), (0, x1), (0, x2), (0, x3), (0, x4), (0, x5), (9, 0)] [(0, y0)] h = if y0 = 0 then some (.inl (some (0, 0)), h) else vrun mX13_remove 92 [(1, 282), (0, x1), (0, x2), (0, x3), (0, x4), (0, x5), (0, 80 * x1 + x2)] [] (vup h 2 284 x1 (h 2 284 x1 - (x3 - x2))) := by
  refine (rg_if_ne (t := 72) (pc := 67) (dd bX13_remove dX13_remove_67) rfl).trans (itec (fun c1 => ?_) (fun c1 => ?_))
  · refine (rn_iconst (pc := 70) (dd bX13_remove dX13_remove_70) (by decide)).trans ?_
    exact rn_ireturn (pc := 71) (dd bX13_remove dX13_remove_71) (Or.inl rfl)
  · refine (rn_aload_n (pc := 72) (dd bX13_remove dX13_remove_72) rfl).trans ?_
    refine (rg_gf (pc := 73) (dd bX13_remove dX13_remove_73) (ci := 14) (j := 2) rfl rfl (key := 1502) rfl (kc := 34) rfl s1.1 s1.2.2.2.2.1).trans ?_
    refine (rn_iload_n (pc := 76) (dd bX13_remove dX13_remove_76) rfl).trans ?_
    refine (rn_dup2 (pc := 77) (dd bX13_remove dX13_remove_77) (by decide)).trans ?_
    refine (rg_iaload (pc := 78) (dd bX13_remove dX13_remove_78) s1.2.2.2.2.2.1 s1.2.2.2.2.2.2.1 (p2 c1) (p3 c1) rfl).trans ?_
    refine (rn_iload_n (pc := 79) (dd bX13_remove dX13_remove_79) rfl).trans ?_
    refine (rn_iload_n (pc := 80) (dd bX13_remove dX13_remove_80) rfl).trans ?_
    refine (rg_isub (pc := 81) (dd bX13_remove dX13_remove_81) (p4 c1) (p5 c1)).trans ?_
    refine (rg_isub (pc := 82) (dd bX13_remove dX13_remove_82) (p6 c1) (p7 c1)).trans ?_
    refine (rg_iastore (pc := 83) (dd bX13_remove dX13_remove_83) s1.2.2.2.2.2.1 s1.2.2.2.2.2.2.1 (by have z0 := p2 c1; have z1 := p3 c1; omega) (by have z0 := p2 c1; have z1 := p3 c1; omega)).trans ?_
    refine (rn_bipush (pc := 84) (dd bX13_remove dX13_remove_84) (by decide)).trans ?_
    refine (rn_iload_n (pc := 86) (dd bX13_remove dX13_remove_86) rfl).trans ?_
    refine (rg_imul (pc := 87) (dd bX13_remove dX13_remove_87) (p8 c1) (p9 c1)).trans ?_
    refine (rn_iload_n (pc := 88) (dd bX13_remove dX13_remove_88) rfl).trans ?_
    refine (rg_iadd (pc := 89) (dd bX13_remove dX13_remove_89) (p10 c1) (p11 c1)).trans ?_
    refine (rn_istore (pc := 90) (dd bX13_remove dX13_remove_90) (Nat.le_of_ble_eq_true rfl) rfl).trans ?_
    rfl
theorem rX13_remove_92 {x1 : Int} {x2 : Int} {x3 : Int} {x4 : Int} {x5 : Int} {x6 : Int} {h : vH} (p1 : (-2147483648) ≤ 80 * x1) (p2 : 80 * x1 < 2147483648) (s3 : shModel h) (p4 : 0 ≤ x1) (p5 : x1 < 60) (p6 : (-2147483648) ≤ 80 * x1 + h 2 284 x1) (p7 : 80 * x1 + h 2 284 x1 < 2147483648) (p8 : ¬ (80 * x1 + h 2 284 x1 ≤ x6) → (-2147483648) ≤ x6 + x3) (p9 : ¬ (80 * x1 + h 2 284 x1 ≤ x6) → x6 + x3 < 2147483648) (p10 : ¬ (80 * x1 + h 2 284 x1 ≤ x6) → (-2147483648) ≤ x6 + x3 - x2) (p11 : ¬ (80 * x1 + h 2 284 x1 ≤ x6) → x6 + x3 - x2 < 2147483648) (p12 : ¬ (80 * x1 + h 2 284 x1 ≤ x6) → 0 ≤ x6 + x3 - x2) (p13 : ¬ (80 * x1 + h 2 284 x1 ≤ x6) → x6 + x3 - x2 < 4800) (p14 : ¬ (80 * x1 + h 2 284 x1 ≤ x6) → 0 ≤ x6) (p15 : ¬ (80 * x1 + h 2 284 x1 ≤ x6) → x6 < 4800) : vrun mX13_remove 92 [(1, 282), (0, x1), (0, x2), (0, x3), (0, x4), (0, x5), (0, x6)] [] h = if 80 * x1 + h 2 284 x1 ≤ x6 then vrun mX13_remove 135 [(1, 282), (0, x1), (0, x2), (0, x3), (0, x4), (0, x5), (0, 0)] [] h else vrun mX13_remove 92 [(1, 282), (0, x1), (0, x2), (0, x3), (0, x4), (0, x5), (0, x6 + 1)] [] (vup h 2 283 x6 (h 2 283 (x6 + x3 - x2))) := by
  refine (rn_iload (pc := 92) (dd bX13_remove dX13_remove_92) rfl).trans ?_
  refine (rn_bipush (pc := 94) (dd bX13_remove dX13_remove_94) (by decide)).trans ?_
  refine (rn_iload_n (pc := 96) (dd bX13_remove dX13_remove_96) rfl).trans ?_
  refine (rg_imul (pc := 97) (dd bX13_remove dX13_remove_97) p1 p2).trans ?_
  refine (rn_aload_n (pc := 98) (dd bX13_remove dX13_remove_98) rfl).trans ?_
  refine (rg_gf (pc := 99) (dd bX13_remove dX13_remove_99) (ci := 14) (j := 2) rfl rfl (key := 1502) rfl (kc := 34) rfl s3.1 s3.2.2.2.2.1).trans ?_
  refine (rn_iload_n (pc := 102) (dd bX13_remove dX13_remove_102) rfl).trans ?_
  refine (rg_iaload (pc := 103) (dd bX13_remove dX13_remove_103) s3.2.2.2.2.2.1 s3.2.2.2.2.2.2.1 p4 p5 rfl).trans ?_
  refine (rg_iadd (pc := 104) (dd bX13_remove dX13_remove_104) p6 p7).trans ?_
  refine (rn_icmp_ge (t := 132) (pc := 105) (dd bX13_remove dX13_remove_105) rfl).trans (itec (fun c1 => ?_) (fun c1 => ?_))
  · refine (rn_iconst (pc := 132) (dd bX13_remove dX13_remove_132) (by decide)).trans ?_
    refine (rn_istore (pc := 133) (dd bX13_remove dX13_remove_133) (Nat.le_of_ble_eq_true rfl) rfl).trans ?_
    rfl
  · refine (rn_aload_n (pc := 108) (dd bX13_remove dX13_remove_108) rfl).trans ?_
    refine (rg_gf (pc := 109) (dd bX13_remove dX13_remove_109) (ci := 14) (j := 1) rfl rfl (key := 1501) rfl (kc := 34) rfl s3.1 s3.2.1).trans ?_
    refine (rn_iload (pc := 112) (dd bX13_remove dX13_remove_112) rfl).trans ?_
    refine (rn_aload_n (pc := 114) (dd bX13_remove dX13_remove_114) rfl).trans ?_
    refine (rg_gf (pc := 115) (dd bX13_remove dX13_remove_115) (ci := 14) (j := 1) rfl rfl (key := 1501) rfl (kc := 34) rfl s3.1 s3.2.1).trans ?_
    refine (rn_iload (pc := 118) (dd bX13_remove dX13_remove_118) rfl).trans ?_
    refine (rn_iload_n (pc := 120) (dd bX13_remove dX13_remove_120) rfl).trans ?_
    refine (rg_iadd (pc := 121) (dd bX13_remove dX13_remove_121) (p8 c1) (p9 c1)).trans ?_
    refine (rn_iload_n (pc := 122) (dd bX13_remove dX13_remove_122) rfl).trans ?_
    refine (rg_isub (pc := 123) (dd bX13_remove dX13_remove_123) (p10 c1) (p11 c1)).trans ?_
    refine (rg_iaload (pc := 124) (dd bX13_remove dX13_remove_124) s3.2.2.1 s3.2.2.2.1 (p12 c1) (p13 c1) rfl).trans ?_
    refine (rg_iastore (pc := 125) (dd bX13_remove dX13_remove_125) s3.2.2.1 s3.2.2.2.1 (p14 c1) (p15 c1)).trans ?_
    refine (rg_iinc (pc := 126) (dd bX13_remove dX13_remove_126) rfl (Nat.le_of_ble_eq_true rfl) (by have z0 := p14 c1; have z1 := p15 c1; omega) (by have z0 := p14 c1; have z1 := p15 c1; omega) rfl).trans ?_
    refine (rn_goto (t := 92) (pc := 129) (dd bX13_remove dX13_remove_129) rfl).trans ?_
    rfl
theorem rX13_remove_135 {x1 : Int} {x2 : Int} {x3 : Int} {x4 : Int} {x5 : Int} {x6 : Int} {h : vH} (s1 : shModel h) (p2 : ¬ (24 ≤ x6) → 0 ≤ x6) (p3 : ¬ (24 ≤ x6) → h 2 294 x6 = x1 → x2 < h 2 295 x6 → x3 ≤ h 2 295 x6 → (-2147483648) ≤ x3 - x2) (p4 : ¬ (24 ≤ x6) → h 2 294 x6 = x1 → x2 < h 2 295 x6 → x3 ≤ h 2 295 x6 → x3 - x2 < 2147483648) (p5 : ¬ (24 ≤ x6) → h 2 294 x6 = x1 → x2 < h 2 295 x6 → x3 ≤ h 2 295 x6 → (-2147483648) ≤ h 2 295 x6 - (x3 - x2)) (p6 : ¬ (24 ≤ x6) → h 2 294 x6 = x1 → x2 < h 2 295 x6 → x3 ≤ h 2 295 x6 → h 2 295 x6 - (x3 - x2) < 2147483648) (p7 : ¬ (24 ≤ x6) → h 2 294 x6 = x1 → x2 < h 2 296 x6 → x3 ≤ h 2 296 x6 → (-2147483648) ≤ x3 - x2) (p8 : ¬ (24 ≤ x6) → h 2 294 x6 = x1 → x2 < h 2 296 x6 → x3 ≤ h 2 296 x6 → x3 - x2 < 2147483648) (p9 : ¬ (24 ≤ x6) → h 2 294 x6 = x1 → x2 < h 2 296 x6 → x3 ≤ h 2 296 x6 → (-2147483648) ≤ h 2 296 x6 - (x3 - x2)) (p10 : ¬ (24 ≤ x6) → h 2 294 x6 = x1 → x2 < h 2 296 x6 → x3 ≤ h 2 296 x6 → h 2 296 x6 - (x3 - x2) < 2147483648) (p11 : ¬ (24 ≤ x6) → h 2 298 x6 = x1 → x2 < h 2 299 x6 → x3 ≤ h 2 299 x6 → (-2147483648) ≤ x3 - x2) (p12 : ¬ (24 ≤ x6) → h 2 298 x6 = x1 → x2 < h 2 299 x6 → x3 ≤ h 2 299 x6 → x3 - x2 < 2147483648) (p13 : ¬ (24 ≤ x6) → h 2 298 x6 = x1 → x2 < h 2 299 x6 → x3 ≤ h 2 299 x6 → (-2147483648) ≤ h 2 299 x6 - (x3 - x2)) (p14 : ¬ (24 ≤ x6) → h 2 298 x6 = x1 → x2 < h 2 299 x6 → x3 ≤ h 2 299 x6 → h 2 299 x6 - (x3 - x2) < 2147483648) : vrun mX13_remove 135 [(1, 282), (0, x1), (0, x2), (0, x3), (0, x4), (0, x5), (0, x6)] [] h = if 24 ≤ x6 then vrun mX13_remove 271 [(1, 282), (0, x1), (0, x2), (0, x3), (0, x4), (0, x5), (0, 0)] [] h else vrun mX13_remove 135 [(1, 282), (0, x1), (0, x2), (0, x3), (0, x4), (0, x5), (0, x6 + 1)] [] (vup (vup (vup h 2 295 x6 (if h 2 294 x6 = x1 then fX13_without h (h 2 295 x6) x2 x3 else h 2 295 x6)) 2 296 x6 (if h 2 294 x6 = x1 then fX13_without (vup h 2 295 x6 (if h 2 294 x6 = x1 then fX13_without h (h 2 295 x6) x2 x3 else h 2 295 x6)) (h 2 296 x6) x2 x3 else h 2 296 x6)) 2 299 x6 (if h 2 298 x6 = x1 then fX13_without (vup (vup h 2 295 x6 (if h 2 294 x6 = x1 then fX13_without h (h 2 295 x6) x2 x3 else h 2 295 x6)) 2 296 x6 (if h 2 294 x6 = x1 then fX13_without (vup h 2 295 x6 (if h 2 294 x6 = x1 then fX13_without h (h 2 295 x6) x2 x3 else h 2 295 x6)) (h 2 296 x6) x2 x3 else h 2 296 x6)) (h 2 299 x6) x2 x3 else h 2 299 x6)) := by
  refine (rn_iload (pc := 135) (dd bX13_remove dX13_remove_135) rfl).trans ?_
  refine (rn_bipush (pc := 137) (dd bX13_remove dX13_remove_137) (by decide)).trans ?_
  refine (rn_icmp_ge (t := 268) (pc := 139) (dd bX13_remove dX13_remove_139) rfl).trans (itec (fun c1 => ?_) (fun c1 => ?_))
  · refine (rn_iconst (pc := 268) (dd bX13_remove dX13_remove_268) (by decide)).trans ?_
    refine (rn_istore (pc := 269) (dd bX13_remove dX13_remove_269) (Nat.le_of_ble_eq_true rfl) rfl).trans ?_
    rfl
  · refine (rn_aload_n (pc := 142) (dd bX13_remove dX13_remove_142) rfl).trans ?_
    refine (rg_gf (pc := 143) (dd bX13_remove dX13_remove_143) (ci := 14) (j := 14) rfl rfl (key := 1514) rfl (kc := 34) rfl s1.1 s1.2.2.2.2.2.2.2.2.2.2.2.2.2.2.2.2.2.2.2.2.2.2.2.2.2.2.2.2.2.2.2.2.2.2.2.2.2.1).trans ?_
    refine (rn_iload (pc := 146) (dd bX13_remove dX13_remove_146) rfl).trans ?_
    refine (rn_aload_n (pc := 148) (dd bX13_remove dX13_remove_148) rfl).trans ?_
    refine (rg_gf (pc := 149) (dd bX13_remove dX13_remove_149) (ci := 14) (j := 13) rfl rfl (key := 1513) rfl (kc := 34) rfl s1.1 s1.2.2.2.2.2.2.2.2.2.2.2.2.2.2.2.2.2.2.2.2.2.2.2.2.2.2.2.2.2.2.2.2.2.2.1).trans ?_
    refine (rn_iload (pc := 152) (dd bX13_remove dX13_remove_152) rfl).trans ?_
    refine (rg_iaload (pc := 154) (dd bX13_remove dX13_remove_154) s1.2.2.2.2.2.2.2.2.2.2.2.2.2.2.2.2.2.2.2.2.2.2.2.2.2.2.2.2.2.2.2.2.2.2.2.1 s1.2.2.2.2.2.2.2.2.2.2.2.2.2.2.2.2.2.2.2.2.2.2.2.2.2.2.2.2.2.2.2.2.2.2.2.2.1 (p2 c1) (Int.not_le.mp c1) rfl).trans ?_
    refine (rn_iload_n (pc := 155) (dd bX13_remove dX13_remove_155) rfl).trans ?_
    have e1 : vrun mX13_remove 156 [(1, 282), (0, x1), (0, x2), (0, x3), (0, x4), (0, x5), (0, x6)] [(0, x1), (0, h 2 294 x6), (0, x6), (1, 295)] h = vrun mX13_remove 181 [(1, 282), (0, x1), (0, x2), (0, x3), (0, x4), (0, x5), (0, x6)] [(0, (if h 2 294 x6 = x1 then fX13_without h (h 2 295 x6) x2 x3 else h 2 295 x6)), (0, x6), (1, 295)] h := by
      refine (rg_icmp_ne (t := 174) (pc := 156) (dd bX13_remove dX13_remove_156) rfl).trans ?_
      by_cases c2 : h 2 294 x6 = x1
      · refine (if_pos c2).trans ?_
        refine (rn_aload_n (pc := 159) (dd bX13_remove dX13_remove_159) rfl).trans ?_
        refine (rg_gf (pc := 160) (dd bX13_remove dX13_remove_160) (ci := 14) (j := 14) rfl rfl (key := 1514) rfl (kc := 34) rfl s1.1 s1.2.2.2.2.2.2.2.2.2.2.2.2.2.2.2.2.2.2.2.2.2.2.2.2.2.2.2.2.2.2.2.2.2.2.2.2.2.1).trans ?_
        refine (rn_iload (pc := 163) (dd bX13_remove dX13_remove_163) rfl).trans ?_
        refine (rg_iaload (pc := 165) (dd bX13_remove dX13_remove_165) s1.2.2.2.2.2.2.2.2.2.2.2.2.2.2.2.2.2.2.2.2.2.2.2.2.2.2.2.2.2.2.2.2.2.2.2.2.2.2.1 s1.2.2.2.2.2.2.2.2.2.2.2.2.2.2.2.2.2.2.2.2.2.2.2.2.2.2.2.2.2.2.2.2.2.2.2.2.2.2.2.1 (by have z0 := p2 c1; omega) (Int.not_le.mp c1) rfl).trans ?_
        refine (rn_iload_n (pc := 166) (dd bX13_remove dX13_remove_166) rfl).trans ?_
        refine (rn_iload_n (pc := 167) (dd bX13_remove dX13_remove_167) rfl).trans ?_
        refine (rg_static (pc := 168) (dd bX13_remove dX13_remove_168) rfl (by decide) (Nat.le_of_ble_eq_true rfl) (as := [(0, h 2 295 x6), (0, x2), (0, x3)]) rfl rfl ⟨Nat.le_of_ble_eq_true rfl, Nat.le_of_ble_eq_true rfl, Nat.le_of_ble_eq_true rfl, Nat.le_of_ble_eq_true rfl⟩).trans ?_
        refine (vret_v (spX13_without (p3 c1 c2) (p4 c1 c2) (p5 c1 c2) (p6 c1 c2))).trans ?_
        refine (rn_goto (t := 181) (pc := 171) (dd bX13_remove dX13_remove_171) rfl).trans ?_
        refine Eq.trans (b := vrun mX13_remove 181 [(1, 282), (0, x1), (0, x2), (0, x3), (0, x4), (0, x5), (0, x6)] [(0, fX13_without h (h 2 295 x6) x2 x3), (0, x6), (1, 295)] h) rfl ?_
        simp only [if_pos c2]
      · refine (if_neg c2).trans ?_
        refine (rn_aload_n (pc := 174) (dd bX13_remove dX13_remove_174) rfl).trans ?_
        refine (rg_gf (pc := 175) (dd bX13_remove dX13_remove_175) (ci := 14) (j := 14) rfl rfl (key := 1514) rfl (kc := 34) rfl s1.1 s1.2.2.2.2.2.2.2.2.2.2.2.2.2.2.2.2.2.2.2.2.2.2.2.2.2.2.2.2.2.2.2.2.2.2.2.2.2.1).trans ?_
        refine (rn_iload (pc := 178) (dd bX13_remove dX13_remove_178) rfl).trans ?_
        refine (rg_iaload (pc := 180) (dd bX13_remove dX13_remove_180) s1.2.2.2.2.2.2.2.2.2.2.2.2.2.2.2.2.2.2.2.2.2.2.2.2.2.2.2.2.2.2.2.2.2.2.2.2.2.2.1 s1.2.2.2.2.2.2.2.2.2.2.2.2.2.2.2.2.2.2.2.2.2.2.2.2.2.2.2.2.2.2.2.2.2.2.2.2.2.2.2.1 (by have z0 := p2 c1; omega) (Int.not_le.mp c1) rfl).trans ?_
        refine Eq.trans (b := vrun mX13_remove 181 [(1, 282), (0, x1), (0, x2), (0, x3), (0, x4), (0, x5), (0, x6)] [(0, h 2 295 x6), (0, x6), (1, 295)] h) rfl ?_
        simp only [if_neg c2]
    refine e1.trans ?_
    refine (rg_iastore (pc := 181) (dd bX13_remove dX13_remove_181) s1.2.2.2.2.2.2.2.2.2.2.2.2.2.2.2.2.2.2.2.2.2.2.2.2.2.2.2.2.2.2.2.2.2.2.2.2.2.2.1 s1.2.2.2.2.2.2.2.2.2.2.2.2.2.2.2.2.2.2.2.2.2.2.2.2.2.2.2.2.2.2.2.2.2.2.2.2.2.2.2.1 (by have z0 := p2 c1; omega) (Int.not_le.mp c1)).trans ?_
    refine (rn_aload_n (pc := 182) (dd bX13_remove dX13_remove_182) rfl).trans ?_
    refine (rg_gf (pc := 183) (dd bX13_remove dX13_remove_183) (ci := 14) (j := 15) rfl rfl (key := 1515) rfl (kc := 34) rfl ((vup_k (by decide)).trans s1.1) ((vup_k (by decide)).trans s1.2.2.2.2.2.2.2.2.2.2.2.2.2.2.2.2.2.2.2.2.2.2.2.2.2.2.2.2.2.2.2.2.2.2.2.2.2.2.2.2.1)).trans ?_
    refine (rn_iload (pc := 186) (dd bX13_remove dX13_remove_186) rfl).trans ?_
    refine (rn_aload_n (pc := 188) (dd bX13_remove dX13_remove_188) rfl).trans ?_
    refine (rg_gf (pc := 189) (dd bX13_remove dX13_remove_189) (ci := 14) (j := 13) rfl rfl (key := 1513) rfl (kc := 34) rfl ((vup_k (by decide)).trans s1.1) ((vup_k (by decide)).trans s1.2.2.2.2.2.2.2.2.2.2.2.2.2.2.2.2.2.2.2.2.2.2.2.2.2.2.2.2.2.2.2.2.2.2.1)).trans ?_
    refine (rn_iload (pc := 192) (dd bX13_remove dX13_remove_192) rfl).trans ?_
    refine (rg_iaload (pc := 194) (dd bX13_remove dX13_remove_194) ((vup_k (by decide)).trans s1.2.2.2.2.2.2.2.2.2.2.2.2.2.2.2.2.2.2.2.2.2.2.2.2.2.2.2.2.2.2.2.2.2.2.2.1) ((vup_k (by decide)).trans s1.2.2.2.2.2.2.2.2.2.2.2.2.2.2.2.2.2.2.2.2.2.2.2.2.2.2.2.2.2.2.2.2.2.2.2.2.1) (by have z0 := p2 c1; omega) (Int.not_le.mp c1) ((vup_r (by omega)).trans rfl)).trans ?_
    refine (rn_iload_n (pc := 195) (dd bX13_remove dX13_remove_195) rfl).trans ?_
    have e2 : vrun mX13_remove 196 [(1, 282), (0, x1), (0, x2), (0, x3), (0, x4), (0, x5), (0, x6)] [(0, x1), (0, h 2 294 x6), (0, x6), (1, 296)] (vup h 2 295 x6 (if h 2 294 x6 = x1 then fX13_without h (h 2 295 x6) x2 x3 else h 2 295 x6)) = vrun mX13_remove 221 [(1, 282), (0, x1), (0, x2), (0, x3), (0, x4), (0, x5), (0, x6)] [(0, (if h 2 294 x6 = x1 then fX13_without (vup h 2 295 x6 (if h 2 294 x6 = x1 then fX13_without h (h 2 295 x6) x2 x3 else h 2 295 x6)) (h 2 296 x6) x2 x3 else h 2 296 x6)), (0, x6), (1, 296)] (vup h 2 295 x6 (if h 2 294 x6 = x1 then fX13_without h (h 2 295 x6) x2 x3 else h 2 295 x6)) := by
      refine (rg_icmp_ne (t := 214) (pc := 196) (dd bX13_remove dX13_remove_196) rfl).trans ?_
      by_cases c3 : h 2 294 x6 = x1
      · refine (if_pos c3).trans ?_
        refine (rn_aload_n (pc := 199) (dd bX13_remove dX13_remove_199) rfl).trans ?_
        refine (rg_gf (pc := 200) (dd bX13_remove dX13_remove_200) (ci := 14) (j := 15) rfl rfl (key := 1515) rfl (kc := 34) rfl ((vup_k (by decide)).trans s1.1) ((vup_k (by decide)).trans s1.2.2.2.2.2.2.2.2.2.2.2.2.2.2.2.2.2.2.2.2.2.2.2.2.2.2.2.2.2.2.2.2.2.2.2.2.2.2.2.2.1)).trans ?_
        refine (rn_iload (pc := 203) (dd bX13_remove dX13_remove_203) rfl).trans ?_
        refine (rg_iaload (pc := 205) (dd bX13_remove dX13_remove_205) ((vup_k (by decide)).trans s1.2.2.2.2.2.2.2.2.2.2.2.2.2.2.2.2.2.2.2.2.2.2.2.2.2.2.2.2.2.2.2.2.2.2.2.2.2.2.2.2.2.1) ((vup_k (by decide)).trans s1.2.2.2.2.2.2.2.2.2.2.2.2.2.2.2.2.2.2.2.2.2.2.2.2.2.2.2.2.2.2.2.2.2.2.2.2.2.2.2.2.2.2.1) (by have z0 := p2 c1; omega) (Int.not_le.mp c1) ((vup_r (by omega)).trans rfl)).trans ?_
        refine (rn_iload_n (pc := 206) (dd bX13_remove dX13_remove_206) rfl).trans ?_
        refine (rn_iload_n (pc := 207) (dd bX13_remove dX13_remove_207) rfl).trans ?_
        refine (rg_static (pc := 208) (dd bX13_remove dX13_remove_208) rfl (by decide) (Nat.le_of_ble_eq_true rfl) (as := [(0, h 2 296 x6), (0, x2), (0, x3)]) rfl rfl ⟨Nat.le_of_ble_eq_true rfl, Nat.le_of_ble_eq_true rfl, Nat.le_of_ble_eq_true rfl, Nat.le_of_ble_eq_true rfl⟩).trans ?_
        refine (vret_v (spX13_without (p7 c1 c3) (p8 c1 c3) (p9 c1 c3) (p10 c1 c3))).trans ?_
        refine (rn_goto (t := 221) (pc := 211) (dd bX13_remove dX13_remove_211) rfl).trans ?_
        refine Eq.trans (b := vrun mX13_remove 221 [(1, 282), (0, x1), (0, x2), (0, x3), (0, x4), (0, x5), (0, x6)] [(0, fX13_without (vup h 2 295 x6 (if h 2 294 x6 = x1 then fX13_without h (h 2 295 x6) x2 x3 else h 2 295 x6)) (h 2 296 x6) x2 x3), (0, x6), (1, 296)] (vup h 2 295 x6 (if h 2 294 x6 = x1 then fX13_without h (h 2 295 x6) x2 x3 else h 2 295 x6))) rfl ?_
        simp only [if_pos c3]
      · refine (if_neg c3).trans ?_
        refine (rn_aload_n (pc := 214) (dd bX13_remove dX13_remove_214) rfl).trans ?_
        refine (rg_gf (pc := 215) (dd bX13_remove dX13_remove_215) (ci := 14) (j := 15) rfl rfl (key := 1515) rfl (kc := 34) rfl ((vup_k (by decide)).trans s1.1) ((vup_k (by decide)).trans s1.2.2.2.2.2.2.2.2.2.2.2.2.2.2.2.2.2.2.2.2.2.2.2.2.2.2.2.2.2.2.2.2.2.2.2.2.2.2.2.2.1)).trans ?_
        refine (rn_iload (pc := 218) (dd bX13_remove dX13_remove_218) rfl).trans ?_
        refine (rg_iaload (pc := 220) (dd bX13_remove dX13_remove_220) ((vup_k (by decide)).trans s1.2.2.2.2.2.2.2.2.2.2.2.2.2.2.2.2.2.2.2.2.2.2.2.2.2.2.2.2.2.2.2.2.2.2.2.2.2.2.2.2.2.1) ((vup_k (by decide)).trans s1.2.2.2.2.2.2.2.2.2.2.2.2.2.2.2.2.2.2.2.2.2.2.2.2.2.2.2.2.2.2.2.2.2.2.2.2.2.2.2.2.2.2.1) (by have z0 := p2 c1; omega) (Int.not_le.mp c1) ((vup_r (by omega)).trans rfl)).trans ?_
        refine Eq.trans (b := vrun mX13_remove 221 [(1, 282), (0, x1), (0, x2), (0, x3), (0, x4), (0, x5), (0, x6)] [(0, h 2 296 x6), (0, x6), (1, 296)] (vup h 2 295 x6 (if h 2 294 x6 = x1 then fX13_without h (h 2 295 x6) x2 x3 else h 2 295 x6))) rfl ?_
        simp only [if_neg c3]
    refine e2.trans ?_
    refine (rg_iastore (pc := 221) (dd bX13_remove dX13_remove_221) ((vup_k (by decide)).trans s1.2.2.2.2.2.2.2.2.2.2.2.2.2.2.2.2.2.2.2.2.2.2.2.2.2.2.2.2.2.2.2.2.2.2.2.2.2.2.2.2.2.1) ((vup_k (by decide)).trans s1.2.2.2.2.2.2.2.2.2.2.2.2.2.2.2.2.2.2.2.2.2.2.2.2.2.2.2.2.2.2.2.2.2.2.2.2.2.2.2.2.2.2.1) (by have z0 := p2 c1; omega) (Int.not_le.mp c1)).trans ?_
    refine (rn_aload_n (pc := 222) (dd bX13_remove dX13_remove_222) rfl).trans ?_
    refine (rg_gf (pc := 223) (dd bX13_remove dX13_remove_223) (ci := 14) (j := 18) rfl rfl (key := 1518) rfl (kc := 34) rfl ((vup_k (by decide)).trans ((vup_k (by decide)).trans s1.1)) ((vup_k (by decide)).trans ((vup_k (by decide)).trans s1.2.2.2.2.2.2.2.2.2.2.2.2.2.2.2.2.2.2.2.2.2.2.2.2.2.2.2.2.2.2.2.2.2.2.2.2.2.2.2.2.2.2.2.2.2.2.2.2.2.1))).trans ?_
    refine (rn_iload (pc := 226) (dd bX13_remove dX13_remove_226) rfl).trans ?_
    refine (rn_aload_n (pc := 228) (dd bX13_remove dX13_remove_228) rfl).trans ?_
    refine (rg_gf (pc := 229) (dd bX13_remove dX13_remove_229) (ci := 14) (j := 17) rfl rfl (key := 1517) rfl (kc := 34) rfl ((vup_k (by decide)).trans ((vup_k (by decide)).trans s1.1)) ((vup_k (by decide)).trans ((vup_k (by decide)).trans s1.2.2.2.2.2.2.2.2.2.2.2.2.2.2.2.2.2.2.2.2.2.2.2.2.2.2.2.2.2.2.2.2.2.2.2.2.2.2.2.2.2.2.2.2.2.2.1))).trans ?_
    refine (rn_iload (pc := 232) (dd bX13_remove dX13_remove_232) rfl).trans ?_
    refine (rg_iaload (pc := 234) (dd bX13_remove dX13_remove_234) ((vup_k (by decide)).trans ((vup_k (by decide)).trans s1.2.2.2.2.2.2.2.2.2.2.2.2.2.2.2.2.2.2.2.2.2.2.2.2.2.2.2.2.2.2.2.2.2.2.2.2.2.2.2.2.2.2.2.2.2.2.2.1)) ((vup_k (by decide)).trans ((vup_k (by decide)).trans s1.2.2.2.2.2.2.2.2.2.2.2.2.2.2.2.2.2.2.2.2.2.2.2.2.2.2.2.2.2.2.2.2.2.2.2.2.2.2.2.2.2.2.2.2.2.2.2.2.1)) (by have z0 := p2 c1; omega) (Int.not_le.mp c1) ((vup_r (by omega)).trans ((vup_r (by omega)).trans rfl))).trans ?_
    refine (rn_iload_n (pc := 235) (dd bX13_remove dX13_remove_235) rfl).trans ?_
    have e3 : vrun mX13_remove 236 [(1, 282), (0, x1), (0, x2), (0, x3), (0, x4), (0, x5), (0, x6)] [(0, x1), (0, h 2 298 x6), (0, x6), (1, 299)] (vup (vup h 2 295 x6 (if h 2 294 x6 = x1 then fX13_without h (h 2 295 x6) x2 x3 else h 2 295 x6)) 2 296 x6 (if h 2 294 x6 = x1 then fX13_without (vup h 2 295 x6 (if h 2 294 x6 = x1 then fX13_without h (h 2 295 x6) x2 x3 else h 2 295 x6)) (h 2 296 x6) x2 x3 else h 2 296 x6)) = vrun mX13_remove 261 [(1, 282), (0, x1), (0, x2), (0, x3), (0, x4), (0, x5), (0, x6)] [(0, (if h 2 298 x6 = x1 then fX13_without (vup (vup h 2 295 x6 (if h 2 294 x6 = x1 then fX13_without h (h 2 295 x6) x2 x3 else h 2 295 x6)) 2 296 x6 (if h 2 294 x6 = x1 then fX13_without (vup h 2 295 x6 (if h 2 294 x6 = x1 then fX13_without h (h 2 295 x6) x2 x3 else h 2 295 x6)) (h 2 296 x6) x2 x3 else h 2 296 x6)) (h 2 299 x6) x2 x3 else h 2 299 x6)), (0, x6), (1, 299)] (vup (vup h 2 295 x6 (if h 2 294 x6 = x1 then fX13_without h (h 2 295 x6) x2 x3 else h 2 295 x6)) 2 296 x6 (if h 2 294 x6 = x1 then fX13_without (vup h 2 295 x6 (if h 2 294 x6 = x1 then fX13_without h (h 2 295 x6) x2 x3 else h 2 295 x6)) (h 2 296 x6) x2 x3 else h 2 296 x6)) := by
      refine (rg_icmp_ne (t := 254) (pc := 236) (dd bX13_remove dX13_remove_236) rfl).trans ?_
      by_cases c4 : h 2 298 x6 = x1
      · refine (if_pos c4).trans ?_
        refine (rn_aload_n (pc := 239) (dd bX13_remove dX13_remove_239) rfl).trans ?_
        refine (rg_gf (pc := 240) (dd bX13_remove dX13_remove_240) (ci := 14) (j := 18) rfl rfl (key := 1518) rfl (kc := 34) rfl ((vup_k (by decide)).trans ((vup_k (by decide)).trans s1.1)) ((vup_k (by decide)).trans ((vup_k (by decide)).trans s1.2.2.2.2.2.2.2.2.2.2.2.2.2.2.2.2.2.2.2.2.2.2.2.2.2.2.2.2.2.2.2.2.2.2.2.2.2.2.2.2.2.2.2.2.2.2.2.2.2.1))).trans ?_
        refine (rn_iload (pc := 243) (dd bX13_remove dX13_remove_243) rfl).trans ?_
        refine (rg_iaload (pc := 245) (dd bX13_remove dX13_remove_245) ((vup_k (by decide)).trans ((vup_k (by decide)).trans s1.2.2.2.2.2.2.2.2.2.2.2.2.2.2.2.2.2.2.2.2.2.2.2.2.2.2.2.2.2.2.2.2.2.2.2.2.2.2.2.2.2.2.2.2.2.2.2.2.2.2.1)) ((vup_k (by decide)).trans ((vup_k (by decide)).trans s1.2.2.2.2.2.2.2.2.2.2.2.2.2.2.2.2.2.2.2.2.2.2.2.2.2.2.2.2.2.2.2.2.2.2.2.2.2.2.2.2.2.2.2.2.2.2.2.2.2.2.2.1)) (by have z0 := p2 c1; omega) (Int.not_le.mp c1) ((vup_r (by omega)).trans ((vup_r (by omega)).trans rfl))).trans ?_
        refine (rn_iload_n (pc := 246) (dd bX13_remove dX13_remove_246) rfl).trans ?_
        refine (rn_iload_n (pc := 247) (dd bX13_remove dX13_remove_247) rfl).trans ?_
        refine (rg_static (pc := 248) (dd bX13_remove dX13_remove_248) rfl (by decide) (Nat.le_of_ble_eq_true rfl) (as := [(0, h 2 299 x6), (0, x2), (0, x3)]) rfl rfl ⟨Nat.le_of_ble_eq_true rfl, Nat.le_of_ble_eq_true rfl, Nat.le_of_ble_eq_true rfl, Nat.le_of_ble_eq_true rfl⟩).trans ?_
        refine (vret_v (spX13_without (p11 c1 c4) (p12 c1 c4) (p13 c1 c4) (p14 c1 c4))).trans ?_
        refine (rn_goto (t := 261) (pc := 251) (dd bX13_remove dX13_remove_251) rfl).trans ?_
        refine Eq.trans (b := vrun mX13_remove 261 [(1, 282), (0, x1), (0, x2), (0, x3), (0, x4), (0, x5), (0, x6)] [(0, fX13_without (vup (vup h 2 295 x6 (if h 2 294 x6 = x1 then fX13_without h (h 2 295 x6) x2 x3 else h 2 295 x6)) 2 296 x6 (if h 2 294 x6 = x1 then fX13_without (vup h 2 295 x6 (if h 2 294 x6 = x1 then fX13_without h (h 2 295 x6) x2 x3 else h 2 295 x6)) (h 2 296 x6) x2 x3 else h 2 296 x6)) (h 2 299 x6) x2 x3), (0, x6), (1, 299)] (vup (vup h 2 295 x6 (if h 2 294 x6 = x1 then fX13_without h (h 2 295 x6) x2 x3 else h 2 295 x6)) 2 296 x6 (if h 2 294 x6 = x1 then fX13_without (vup h 2 295 x6 (if h 2 294 x6 = x1 then fX13_without h (h 2 295 x6) x2 x3 else h 2 295 x6)) (h 2 296 x6) x2 x3 else h 2 296 x6))) rfl ?_
        simp only [if_pos c4]
      · refine (if_neg c4).trans ?_
        refine (rn_aload_n (pc := 254) (dd bX13_remove dX13_remove_254) rfl).trans ?_
        refine (rg_gf (pc := 255) (dd bX13_remove dX13_remove_255) (ci := 14) (j := 18) rfl rfl (key := 1518) rfl (kc := 34) rfl ((vup_k (by decide)).trans ((vup_k (by decide)).trans s1.1)) ((vup_k (by decide)).trans ((vup_k (by decide)).trans s1.2.2.2.2.2.2.2.2.2.2.2.2.2.2.2.2.2.2.2.2.2.2.2.2.2.2.2.2.2.2.2.2.2.2.2.2.2.2.2.2.2.2.2.2.2.2.2.2.2.1))).trans ?_
        refine (rn_iload (pc := 258) (dd bX13_remove dX13_remove_258) rfl).trans ?_
        refine (rg_iaload (pc := 260) (dd bX13_remove dX13_remove_260) ((vup_k (by decide)).trans ((vup_k (by decide)).trans s1.2.2.2.2.2.2.2.2.2.2.2.2.2.2.2.2.2.2.2.2.2.2.2.2.2.2.2.2.2.2.2.2.2.2.2.2.2.2.2.2.2.2.2.2.2.2.2.2.2.2.1)) ((vup_k (by decide)).trans ((vup_k (by decide)).trans s1.2.2.2.2.2.2.2.2.2.2.2.2.2.2.2.2.2.2.2.2.2.2.2.2.2.2.2.2.2.2.2.2.2.2.2.2.2.2.2.2.2.2.2.2.2.2.2.2.2.2.2.1)) (by have z0 := p2 c1; omega) (Int.not_le.mp c1) ((vup_r (by omega)).trans ((vup_r (by omega)).trans rfl))).trans ?_
        refine Eq.trans (b := vrun mX13_remove 261 [(1, 282), (0, x1), (0, x2), (0, x3), (0, x4), (0, x5), (0, x6)] [(0, h 2 299 x6), (0, x6), (1, 299)] (vup (vup h 2 295 x6 (if h 2 294 x6 = x1 then fX13_without h (h 2 295 x6) x2 x3 else h 2 295 x6)) 2 296 x6 (if h 2 294 x6 = x1 then fX13_without (vup h 2 295 x6 (if h 2 294 x6 = x1 then fX13_without h (h 2 295 x6) x2 x3 else h 2 295 x6)) (h 2 296 x6) x2 x3 else h 2 296 x6))) rfl ?_
        simp only [if_neg c4]
    refine e3.trans ?_
    refine (rg_iastore (pc := 261) (dd bX13_remove dX13_remove_261) ((vup_k (by decide)).trans ((vup_k (by decide)).trans s1.2.2.2.2.2.2.2.2.2.2.2.2.2.2.2.2.2.2.2.2.2.2.2.2.2.2.2.2.2.2.2.2.2.2.2.2.2.2.2.2.2.2.2.2.2.2.2.2.2.2.1)) ((vup_k (by decide)).trans ((vup_k (by decide)).trans s1.2.2.2.2.2.2.2.2.2.2.2.2.2.2.2.2.2.2.2.2.2.2.2.2.2.2.2.2.2.2.2.2.2.2.2.2.2.2.2.2.2.2.2.2.2.2.2.2.2.2.2.1)) (by have z0 := p2 c1; omega) (Int.not_le.mp c1)).trans ?_
    refine (rg_iinc (pc := 262) (dd bX13_remove dX13_remove_262) rfl (Nat.le_of_ble_eq_true rfl) (by have z0 := p2 c1; omega) (by have z0 := p2 c1; omega) rfl).trans ?_
    refine (rn_goto (t := 135) (pc := 265) (dd bX13_remove dX13_remove_265) rfl).trans ?_
    rfl
theorem rX13_remove_271 {x1 : Int} {x2 : Int} {x3 : Int} {x4 : Int} {x5 : Int} {x6 : Int} {h : vH} (s1 : shModel h) (p2 : ¬ (4 ≤ x6) → 0 ≤ x6) (p3 : ¬ (4 ≤ x6) → h 2 305 x6 = x1 → x2 < h 2 306 x6 → x3 ≤ h 2 306 x6 → (-2147483648) ≤ x3 - x2) (p4 : ¬ (4 ≤ x6) → h 2 305 x6 = x1 → x2 < h 2 306 x6 → x3 ≤ h 2 306 x6 → x3 - x2 < 2147483648) (p5 : ¬ (4 ≤ x6) → h 2 305 x6 = x1 → x2 < h 2 306 x6 → x3 ≤ h 2 306 x6 → (-2147483648) ≤ h 2 306 x6 - (x3 - x2)) (p6 : ¬ (4 ≤ x6) → h 2 305 x6 = x1 → x2 < h 2 306 x6 → x3 ≤ h 2 306 x6 → h 2 306 x6 - (x3 - x2) < 2147483648) (p7 : ¬ (4 ≤ x6) → h 2 308 x6 = x1 → x2 < h 2 309 x6 → x3 ≤ h 2 309 x6 → (-2147483648) ≤ x3 - x2) (p8 : ¬ (4 ≤ x6) → h 2 308 x6 = x1 → x2 < h 2 309 x6 → x3 ≤ h 2 309 x6 → x3 - x2 < 2147483648) (p9 : ¬ (4 ≤ x6) → h 2 308 x6 = x1 → x2 < h 2 309 x6 → x3 ≤ h 2 309 x6 → (-2147483648) ≤ h 2 309 x6 - (x3 - x2)) (p10 : ¬ (4 ≤ x6) → h 2 308 x6 = x1 → x2 < h 2 309 x6 → x3 ≤ h 2 309 x6 → h 2 309 x6 - (x3 - x2) < 2147483648) : vrun mX13_remove 271 [(1, 282), (0, x1), (0, x2), (0, x3), (0, x4), (0, x5), (0, x6)] [] h = if 4 ≤ x6 then vret vrun mX13_remove 364 [(1, 282), (0, x1), (0, x2), (0, x3), (0, x4), (0, x5), (0, x6)] [] (vcl mX13_dropsEmpty [(1, 282)] h) else vrun mX13_remove 271 [(1, 282), (0, x1), (0, x2), (0, x3), (0, x4), (0, x5), (0, x6 + 1)] [] (vup (vup h 2 306 x6 (if h 2 305 x6 = x1 then fX13_without h (h 2 306 x6) x2 x3 else h 2 306 x6)) 2 309 x6 (if h 2 308 x6 = x1 then fX13_without (vup h 2 306 x6 (if h 2 305 x6 = x1 then fX13_without h (h 2 306 x6) x2 x3 else h 2 306 x6)) (h 2 309 x6) x2 x3 else h 2 309 x6)) := by
  refine (rn_iload (pc := 271) (dd bX13_remove dX13_remove_271) rfl).trans ?_
  refine (rn_iconst (pc := 273) (dd bX13_remove dX13_remove_273) (by decide)).trans ?_
  refine (rn_icmp_ge (t := 363) (pc := 274) (dd bX13_remove dX13_remove_274) rfl).trans (itec (fun c1 => ?_) (fun c1 => ?_))
  · refine (rn_aload_n (pc := 363) (dd bX13_remove dX13_remove_363) rfl).trans ?_
    exact rg_virtual (pc := 364) (dd bX13_remove dX13_remove_364) rfl rfl (by decide) (kc := 34) rfl s1.1 (as := [(1, 282)]) rfl ⟨Nat.le_of_ble_eq_true rfl, Nat.le_of_ble_eq_true rfl, Nat.le_of_ble_eq_true rfl, Nat.le_of_ble_eq_true rfl⟩
  · refine (rn_aload_n (pc := 277) (dd bX13_remove dX13_remove_277) rfl).trans ?_
    refine (rg_gf (pc := 278) (dd bX13_remove dX13_remove_278) (ci := 14) (j := 25) rfl rfl (key := 1525) rfl (kc := 34) rfl s1.1 s1.2.2.2.2.2.2.2.2.2.2.2.2.2.2.2.2.2.2.2.2.2.2.2.2.2.2.2.2.2.2.2.2.2.2.2.2.2.2.2.2.2.2.2.2.2.2.2.2.2.2.2.2.2.2.2.2.2.2.2.2.2.2.2.2.2.2.2.2.2.2.1).trans ?_
    refine (rn_iload (pc := 281) (dd bX13_remove dX13_remove_281) rfl).trans ?_
    refine (rn_aload_n (pc := 283) (dd bX13_remove dX13_remove_283) rfl).trans ?_
    refine (rg_gf (pc := 284) (dd bX13_remove dX13_remove_284) (ci := 14) (j := 24) rfl rfl (key := 1524) rfl (kc := 34) rfl s1.1 s1.2.2.2.2.2.2.2.2.2.2.2.2.2.2.2.2.2.2.2.2.2.2.2.2.2.2.2.2.2.2.2.2.2.2.2.2.2.2.2.2.2.2.2.2.2.2.2.2.2.2.2.2.2.2.2.2.2.2.2.2.2.2.2.2.2.2.2.1).trans ?_
    refine (rn_iload (pc := 287) (dd bX13_remove dX13_remove_287) rfl).trans ?_
    refine (rg_iaload (pc := 289) (dd bX13_remove dX13_remove_289) s1.2.2.2.2.2.2.2.2.2.2.2.2.2.2.2.2.2.2.2.2.2.2.2.2.2.2.2.2.2.2.2.2.2.2.2.2.2.2.2.2.2.2.2.2.2.2.2.2.2.2.2.2.2.2.2.2.2.2.2.2.2.2.2.2.2.2.2.2.1 s1.2.2.2.2.2.2.2.2.2.2.2.2.2.2.2.2.2.2.2.2.2.2.2.2.2.2.2.2.2.2.2.2.2.2.2.2.2.2.2.2.2.2.2.2.2.2.2.2.2.2.2.2.2.2.2.2.2.2.2.2.2.2.2.2.2.2.2.2.2.1 (p2 c1) (Int.not_le.mp c1) rfl).trans ?_
    refine (rn_iload_n (pc := 290) (dd bX13_remove dX13_remove_290) rfl).trans ?_
    have e1 : vrun mX13_remove 291 [(1, 282), (0, x1), (0, x2), (0, x3), (0, x4), (0, x5), (0, x6)] [(0, x1), (0, h 2 305 x6), (0, x6), (1, 306)] h = vrun mX13_remove 316 [(1, 282), (0, x1), (0, x2), (0, x3), (0, x4), (0, x5), (0, x6)] [(0, (if h 2 305 x6 = x1 then fX13_without h (h 2 306 x6) x2 x3 else h 2 306 x6)), (0, x6), (1, 306)] h := by
      refine (rg_icmp_ne (t := 309) (pc := 291) (dd bX13_remove dX13_remove_291) rfl).trans ?_
      by_cases c2 : h 2 305 x6 = x1
      · refine (if_pos c2).trans ?_
        refine (rn_aload_n (pc := 294) (dd bX13_remove dX13_remove_294) rfl).trans ?_
        refine (rg_gf (pc := 295) (dd bX13_remove dX13_remove_295) (ci := 14) (j := 25) rfl rfl (key := 1525) rfl (kc := 34) rfl s1.1 s1.2.2.2.2.2.2.2.2.2.2.2.2.2.2.2.2.2.2.2.2.2.2.2.2.2.2.2.2.2.2.2.2.2.2.2.2.2.2.2.2.2.2.2.2.2.2.2.2.2.2.2.2.2.2.2.2.2.2.2.2.2.2.2.2.2.2.2.2.2.2.1).trans ?_
        refine (rn_iload (pc := 298) (dd bX13_remove dX13_remove_298) rfl).trans ?_
        refine (rg_iaload (pc := 300) (dd bX13_remove dX13_remove_300) s1.2.2.2.2.2.2.2.2.2.2.2.2.2.2.2.2.2.2.2.2.2.2.2.2.2.2.2.2.2.2.2.2.2.2.2.2.2.2.2.2.2.2.2.2.2.2.2.2.2.2.2.2.2.2.2.2.2.2.2.2.2.2.2.2.2.2.2.2.2.2.2.1 s1.2.2.2.2.2.2.2.2.2.2.2.2.2.2.2.2.2.2.2.2.2.2.2.2.2.2.2.2.2.2.2.2.2.2.2.2.2.2.2.2.2.2.2.2.2.2.2.2.2.2.2.2.2.2.2.2.2.2.2.2.2.2.2.2.2.2.2.2.2.2.2.2.1 (by have z0 := p2 c1; omega) (Int.not_le.mp c1) rfl).trans ?_
        refine (rn_iload_n (pc := 301) (dd bX13_remove dX13_remove_301) rfl).trans ?_
        refine (rn_iload_n (pc := 302) (dd bX13_remove dX13_remove_302) rfl).trans ?_
        refine (rg_static (pc := 303) (dd bX13_remove dX13_remove_303) rfl (by decide) (Nat.le_of_ble_eq_true rfl) (as := [(0, h 2 306 x6), (0, x2), (0, x3)]) rfl rfl ⟨Nat.le_of_ble_eq_true rfl, Nat.le_of_ble_eq_true rfl, Nat.le_of_ble_eq_true rfl, Nat.le_of_ble_eq_true rfl⟩).trans ?_
        refine (vret_v (spX13_without (p3 c1 c2) (p4 c1 c2) (p5 c1 c2) (p6 c1 c2))).trans ?_
        refine (rn_goto (t := 316) (pc := 306) (dd bX13_remove dX13_remove_306) rfl).trans ?_
        refine Eq.trans (b := vrun mX13_remove 316 [(1, 282), (0, x1), (0, x2), (0, x3), (0, x4), (0, x5), (0, x6)] [(0, fX13_without h (h 2 306 x6) x2 x3), (0, x6), (1, 306)] h) rfl ?_
        simp only [if_pos c2]
      · refine (if_neg c2).trans ?_
        refine (rn_aload_n (pc := 309) (dd bX13_remove dX13_remove_309) rfl).trans ?_
        refine (rg_gf (pc := 310) (dd bX13_remove dX13_remove_310) (ci := 14) (j := 25) rfl rfl (key := 1525) rfl (kc := 34) rfl s1.1 s1.2.2.2.2.2.2.2.2.2.2.2.2.2.2.2.2.2.2.2.2.2.2.2.2.2.2.2.2.2.2.2.2.2.2.2.2.2.2.2.2.2.2.2.2.2.2.2.2.2.2.2.2.2.2.2.2.2.2.2.2.2.2.2.2.2.2.2.2.2.2.1).trans ?_
        refine (rn_iload (pc := 313) (dd bX13_remove dX13_remove_313) rfl).trans ?_
        refine (rg_iaload (pc := 315) (dd bX13_remove dX13_remove_315) s1.2.2.2.2.2.2.2.2.2.2.2.2.2.2.2.2.2.2.2.2.2.2.2.2.2.2.2.2.2.2.2.2.2.2.2.2.2.2.2.2.2.2.2.2.2.2.2.2.2.2.2.2.2.2.2.2.2.2.2.2.2.2.2.2.2.2.2.2.2.2.2.1 s1.2.2.2.2.2.2.2.2.2.2.2.2.2.2.2.2.2.2.2.2.2.2.2.2.2.2.2.2.2.2.2.2.2.2.2.2.2.2.2.2.2.2.2.2.2.2.2.2.2.2.2.2.2.2.2.2.2.2.2.2.2.2.2.2.2.2.2.2.2.2.2.2.1 (by have z0 := p2 c1; omega) (Int.not_le.mp c1) rfl).trans ?_
        refine Eq.trans (b := vrun mX13_remove 316 [(1, 282), (0, x1), (0, x2), (0, x3), (0, x4), (0, x5), (0, x6)] [(0, h 2 306 x6), (0, x6), (1, 306)] h) rfl ?_
        simp only [if_neg c2]
    refine e1.trans ?_
    refine (rg_iastore (pc := 316) (dd bX13_remove dX13_remove_316) s1.2.2.2.2.2.2.2.2.2.2.2.2.2.2.2.2.2.2.2.2.2.2.2.2.2.2.2.2.2.2.2.2.2.2.2.2.2.2.2.2.2.2.2.2.2.2.2.2.2.2.2.2.2.2.2.2.2.2.2.2.2.2.2.2.2.2.2.2.2.2.2.1 s1.2.2.2.2.2.2.2.2.2.2.2.2.2.2.2.2.2.2.2.2.2.2.2.2.2.2.2.2.2.2.2.2.2.2.2.2.2.2.2.2.2.2.2.2.2.2.2.2.2.2.2.2.2.2.2.2.2.2.2.2.2.2.2.2.2.2.2.2.2.2.2.2.1 (by have z0 := p2 c1; omega) (Int.not_le.mp c1)).trans ?_
    refine (rn_aload_n (pc := 317) (dd bX13_remove dX13_remove_317) rfl).trans ?_
    refine (rg_gf (pc := 318) (dd bX13_remove dX13_remove_318) (ci := 14) (j := 28) rfl rfl (key := 1528) rfl (kc := 34) rfl ((vup_k (by decide)).trans s1.1) ((vup_k (by decide)).trans s1.2.2.2.2.2.2.2.2.2.2.2.2.2.2.2.2.2.2.2.2.2.2.2.2.2.2.2.2.2.2.2.2.2.2.2.2.2.2.2.2.2.2.2.2.2.2.2.2.2.2.2.2.2.2.2.2.2.2.2.2.2.2.2.2.2.2.2.2.2.2.2.2.2.2.2.2.2.2.2.1)).trans ?_
    refine (rn_iload (pc := 321) (dd bX13_remove dX13_remove_321) rfl).trans ?_
    refine (rn_aload_n (pc := 323) (dd bX13_remove dX13_remove_323) rfl).trans ?_
    refine (rg_gf (pc := 324) (dd bX13_remove dX13_remove_324) (ci := 14) (j := 27) rfl rfl (key := 1527) rfl (kc := 34) rfl ((vup_k (by decide)).trans s1.1) ((vup_k (by decide)).trans s1.2.2.2.2.2.2.2.2.2.2.2.2.2.2.2.2.2.2.2.2.2.2.2.2.2.2.2.2.2.2.2.2.2.2.2.2.2.2.2.2.2.2.2.2.2.2.2.2.2.2.2.2.2.2.2.2.2.2.2.2.2.2.2.2.2.2.2.2.2.2.2.2.2.2.2.2.1)).trans ?_
    refine (rn_iload (pc := 327) (dd bX13_remove dX13_remove_327) rfl).trans ?_
    refine (rg_iaload (pc := 329) (dd bX13_remove dX13_remove_329) ((vup_k (by decide)).trans s1.2.2.2.2.2.2.2.2.2.2.2.2.2.2.2.2.2.2.2.2.2.2.2.2.2.2.2.2.2.2.2.2.2.2.2.2.2.2.2.2.2.2.2.2.2.2.2.2.2.2.2.2.2.2.2.2.2.2.2.2.2.2.2.2.2.2.2.2.2.2.2.2.2.2.2.2.2.1) ((vup_k (by decide)).trans s1.2.2.2.2.2.2.2.2.2.2.2.2.2.2.2.2.2.2.2.2.2.2.2.2.2.2.2.2.2.2.2.2.2.2.2.2.2.2.2.2.2.2.2.2.2.2.2.2.2.2.2.2.2.2.2.2.2.2.2.2.2.2.2.2.2.2.2.2.2.2.2.2.2.2.2.2.2.2.1) (by have z0 := p2 c1; omega) (Int.not_le.mp c1) ((vup_r (by omega)).trans rfl)).trans ?_
    refine (rn_iload_n (pc := 330) (dd bX13_remove dX13_remove_330) rfl).trans ?_
    have e2 : vrun mX13_remove 331 [(1, 282), (0, x1), (0, x2), (0, x3), (0, x4), (0, x5), (0, x6)] [(0, x1), (0, h 2 308 x6), (0, x6), (1, 309)] (vup h 2 306 x6 (if h 2 305 x6 = x1 then fX13_without h (h 2 306 x6) x2 x3 else h 2 306 x6)) = vrun mX13_remove 356 [(1, 282), (0, x1), (0, x2), (0, x3), (0, x4), (0, x5), (0, x6)] [(0, (if h 2 308 x6 = x1 then fX13_without (vup h 2 306 x6 (if h 2 305 x6 = x1 then fX13_without h (h 2 306 x6) x2 x3 else h 2 306 x6)) (h 2 309 x6) x2 x3 else h 2 309 x6)), (0, x6), (1, 309)] (vup h 2 306 x6 (if h 2 305 x6 = x1 then fX13_without h (h 2 306 x6) x2 x3 else h 2 306 x6)) := by
      refine (rg_icmp_ne (t := 349) (pc := 331) (dd bX13_remove dX13_remove_331) rfl).trans ?_
      by_cases c3 : h 2 308 x6 = x1
      · refine (if_pos c3).trans ?_
        refine (rn_aload_n (pc := 334) (dd bX13_remove dX13_remove_334) rfl).trans ?_
        refine (rg_gf (pc := 335) (dd bX13_remove dX13_remove_335) (ci := 14) (j := 28) rfl rfl (key := 1528) rfl (kc := 34) rfl ((vup_k (by decide)).trans s1.1) ((vup_k (by decide)).trans s1.2.2.2.2.2.2.2.2.2.2.2.2.2.2.2.2.2.2.2.2.2.2.2.2.2.2.2.2.2.2.2.2.2.2.2.2.2.2.2.2.2.2.2.2.2.2.2.2.2.2.2.2.2.2.2.2.2.2.2.2.2.2.2.2.2.2.2.2.2.2.2.2.2.2.2.2.2.2.2.1)).trans ?_
        refine (rn_iload (pc := 338) (dd bX13_remove dX13_remove_338) rfl).trans ?_
        refine (rg_iaload (pc := 340) (dd bX13_remove dX13_remove_340) ((vup_k (by decide)).trans s1.2.2.2.2.2.2.2.2.2.2.2.2.2.2.2.2.2.2.2.2.2.2.2.2.2.2.2.2.2.2.2.2.2.2.2.2.2.2.2.2.2.2.2.2.2.2.2.2.2.2.2.2.2.2.2.2.2.2.2.2.2.2.2.2.2.2.2.2.2.2.2.2.2.2.2.2.2.2.2.2.1) ((vup_k (by decide)).trans s1.2.2.2.2.2.2.2.2.2.2.2.2.2.2.2.2.2.2.2.2.2.2.2.2.2.2.2.2.2.2.2.2.2.2.2.2.2.2.2.2.2.2.2.2.2.2.2.2.2.2.2.2.2.2.2.2.2.2.2.2.2.2.2.2.2.2.2.2.2.2.2.2.2.2.2.2.2.2.2.2.2.1) (by have z0 := p2 c1; omega) (Int.not_le.mp c1) ((vup_r (by omega)).trans rfl)).trans ?_
        refine (rn_iload_n (pc := 341) (dd bX13_remove dX13_remove_341) rfl).trans ?_
        refine (rn_iload_n (pc := 342) (dd bX13_remove dX13_remove_342) rfl).trans ?_
        refine (rg_static (pc := 343) (dd bX13_remove dX13_remove_343) rfl (by decide) (Nat.le_of_ble_eq_true rfl) (as := [(0, h 2 309 x6), (0, x2), (0, x3)]) rfl rfl ⟨Nat.le_of_ble_eq_true rfl, Nat.le_of_ble_eq_true rfl, Nat.le_of_ble_eq_true rfl, Nat.le_of_ble_eq_true rfl⟩).trans ?_
        refine (vret_v (spX13_without (p7 c1 c3) (p8 c1 c3) (p9 c1 c3) (p10 c1 c3))).trans ?_
        refine (rn_goto (t := 356) (pc := 346) (dd bX13_remove dX13_remove_346) rfl).trans ?_
        refine Eq.trans (b := vrun mX13_remove 356 [(1, 282), (0, x1), (0, x2), (0, x3), (0, x4), (0, x5), (0, x6)] [(0, fX13_without (vup h 2 306 x6 (if h 2 305 x6 = x1 then fX13_without h (h 2 306 x6) x2 x3 else h 2 306 x6)) (h 2 309 x6) x2 x3), (0, x6), (1, 309)] (vup h 2 306 x6 (if h 2 305 x6 = x1 then fX13_without h (h 2 306 x6) x2 x3 else h 2 306 x6))) rfl ?_
        simp only [if_pos c3]
      · refine (if_neg c3).trans ?_
        refine (rn_aload_n (pc := 349) (dd bX13_remove dX13_remove_349) rfl).trans ?_
        refine (rg_gf (pc := 350) (dd bX13_remove dX13_remove_350) (ci := 14) (j := 28) rfl rfl (key := 1528) rfl (kc := 34) rfl ((vup_k (by decide)).trans s1.1) ((vup_k (by decide)).trans s1.2.2.2.2.2.2.2.2.2.2.2.2.2.2.2.2.2.2.2.2.2.2.2.2.2.2.2.2.2.2.2.2.2.2.2.2.2.2.2.2.2.2.2.2.2.2.2.2.2.2.2.2.2.2.2.2.2.2.2.2.2.2.2.2.2.2.2.2.2.2.2.2.2.2.2.2.2.2.2.1)).trans ?_
        refine (rn_iload (pc := 353) (dd bX13_remove dX13_remove_353) rfl).trans ?_
        refine (rg_iaload (pc := 355) (dd bX13_remove dX13_remove_355) ((vup_k (by decide)).trans s1.2.2.2.2.2.2.2.2.2.2.2.2.2.2.2.2.2.2.2.2.2.2.2.2.2.2.2.2.2.2.2.2.2.2.2.2.2.2.2.2.2.2.2.2.2.2.2.2.2.2.2.2.2.2.2.2.2.2.2.2.2.2.2.2.2.2.2.2.2.2.2.2.2.2.2.2.2.2.2.2.1) ((vup_k (by decide)).trans s1.2.2.2.2.2.2.2.2.2.2.2.2.2.2.2.2.2.2.2.2.2.2.2.2.2.2.2.2.2.2.2.2.2.2.2.2.2.2.2.2.2.2.2.2.2.2.2.2.2.2.2.2.2.2.2.2.2.2.2.2.2.2.2.2.2.2.2.2.2.2.2.2.2.2.2.2.2.2.2.2.2.1) (by have z0 := p2 c1; omega) (Int.not_le.mp c1) ((vup_r (by omega)).trans rfl)).trans ?_
        refine Eq.trans (b := vrun mX13_remove 356 [(1, 282), (0, x1), (0, x2), (0, x3), (0, x4), (0, x5), (0, x6)] [(0, h 2 309 x6), (0, x6), (1, 309)] (vup h 2 306 x6 (if h 2 305 x6 = x1 then fX13_without h (h 2 306 x6) x2 x3 else h 2 306 x6))) rfl ?_
        simp only [if_neg c3]
    refine e2.trans ?_
    refine (rg_iastore (pc := 356) (dd bX13_remove dX13_remove_356) ((vup_k (by decide)).trans s1.2.2.2.2.2.2.2.2.2.2.2.2.2.2.2.2.2.2.2.2.2.2.2.2.2.2.2.2.2.2.2.2.2.2.2.2.2.2.2.2.2.2.2.2.2.2.2.2.2.2.2.2.2.2.2.2.2.2.2.2.2.2.2.2.2.2.2.2.2.2.2.2.2.2.2.2.2.2.2.2.1) ((vup_k (by decide)).trans s1.2.2.2.2.2.2.2.2.2.2.2.2.2.2.2.2.2.2.2.2.2.2.2.2.2.2.2.2.2.2.2.2.2.2.2.2.2.2.2.2.2.2.2.2.2.2.2.2.2.2.2.2.2.2.2.2.2.2.2.2.2.2.2.2.2.2.2.2.2.2.2.2.2.2.2.2.2.2.2.2.2.1) (by have z0 := p2 c1; omega) (Int.not_le.mp c1)).trans ?_
    refine (rg_iinc (pc := 357) (dd bX13_remove dX13_remove_357) rfl (Nat.le_of_ble_eq_true rfl) (by have z0 := p2 c1; omega) (by have z0 := p2 c1; omega) rfl).trans ?_
    refine (rn_goto (t := 271) (pc := 360) (dd bX13_remove dX13_remove_360) rfl).trans ?_
    rfl
theorem rX13_remove_367 {x1 : Int} {x2 : Int} {x3 : Int} {x4 : Int} {x5 : Int} {x6 : Int} {h : vH} (s1 : shModel h) (p2 : 0 ≤ x1) (p3 : x1 < 60) : vrun mX13_remove 367 [(1, 282), (0, x1), (0, x2), (0, x3), (0, x4), (0, x5), (0, x6)] [] h = some (.inl (some (0, h 2 284 x1)), h) := by
  refine (rn_aload_n (pc := 367) (dd bX13_remove dX13_remove_367) rfl).trans ?_
  refine (rg_gf (pc := 368) (dd bX13_remove dX13_remove_368) (ci := 14) (j := 2) rfl rfl (key := 1502) rfl (kc := 34) rfl s1.1 s1.2.2.2.2.1).trans ?_
  refine (rn_iload_n (pc := 371) (dd bX13_remove dX13_remove_371) rfl).trans ?_
  refine (rg_iaload (pc := 372) (dd bX13_remove dX13_remove_372) s1.2.2.2.2.2.1 s1.2.2.2.2.2.2.1 p2 p3 rfl).trans ?_
  exact rn_ireturn (pc := 373) (dd bX13_remove dX13_remove_373) (Or.inl rfl)
theorem bX13_copiesLine : vmB mX13_copiesLine = cX13_copiesLine := rfl
theorem rX13_copiesLine_0 {x1 : Int} {x2 : Int} {h : vH} (s1 : shModel h) (p2 : 0 ≤ x1) (p3 : x1 < 60) (p4 : 0 ≤ x2) (p5 : x2 < 60) (p6 : h 2 285 x1 = 0 ∨ h 2 285 x1 = 1) : vrun mX13_copiesLine 0 [(1, 282), (0, x1), (0, x2), (9, 0)] [] h = vrun mX13_copiesLine 26 [(1, 282), (0, x1), (0, x2), (0, 0)] [] (vup (vup h 2 284 x2 (h 2 284 x1)) 2 285 x2 (h 2 285 x1)) := by
  refine (rn_aload_n (pc := 0) (dd bX13_copiesLine dX13_copiesLine_0) rfl).trans ?_
  refine (rg_gf (pc := 1) (dd bX13_copiesLine dX13_copiesLine_1) (ci := 14) (j := 2) rfl rfl (key := 1502) rfl (kc := 34) rfl s1.1 s1.2.2.2.2.1).trans ?_
  refine (rn_iload_n (pc := 4) (dd bX13_copiesLine dX13_copiesLine_4) rfl).trans ?_
  refine (rn_aload_n (pc := 5) (dd bX13_copiesLine dX13_copiesLine_5) rfl).trans ?_
  refine (rg_gf (pc := 6) (dd bX13_copiesLine dX13_copiesLine_6) (ci := 14) (j := 2) rfl rfl (key := 1502) rfl (kc := 34) rfl s1.1 s1.2.2.2.2.1).trans ?_
  refine (rn_iload_n (pc := 9) (dd bX13_copiesLine dX13_copiesLine_9) rfl).trans ?_
  refine (rg_iaload (pc := 10) (dd bX13_copiesLine dX13_copiesLine_10) s1.2.2.2.2.2.1 s1.2.2.2.2.2.2.1 p2 p3 rfl).trans ?_
  refine (rg_iastore (pc := 11) (dd bX13_copiesLine dX13_copiesLine_11) s1.2.2.2.2.2.1 s1.2.2.2.2.2.2.1 p4 p5).trans ?_
  refine (rn_aload_n (pc := 12) (dd bX13_copiesLine dX13_copiesLine_12) rfl).trans ?_
  refine (rg_gf (pc := 13) (dd bX13_copiesLine dX13_copiesLine_13) (ci := 14) (j := 3) rfl rfl (key := 1503) rfl (kc := 34) rfl ((vup_k (by decide)).trans s1.1) ((vup_k (by decide)).trans s1.2.2.2.2.2.2.2.1)).trans ?_
  refine (rn_iload_n (pc := 16) (dd bX13_copiesLine dX13_copiesLine_16) rfl).trans ?_
  refine (rn_aload_n (pc := 17) (dd bX13_copiesLine dX13_copiesLine_17) rfl).trans ?_
  refine (rg_gf (pc := 18) (dd bX13_copiesLine dX13_copiesLine_18) (ci := 14) (j := 3) rfl rfl (key := 1503) rfl (kc := 34) rfl ((vup_k (by decide)).trans s1.1) ((vup_k (by decide)).trans s1.2.2.2.2.2.2.2.1)).trans ?_
  refine (rn_iload_n (pc := 21) (dd bX13_copiesLine dX13_copiesLine_21) rfl).trans ?_
  refine (rg_baload (pc := 22) (dd bX13_copiesLine dX13_copiesLine_22) ((vup_k (by decide)).trans s1.2.2.2.2.2.2.2.2.1) ((vup_k (by decide)).trans s1.2.2.2.2.2.2.2.2.2.1) (by omega) (by omega) ((vup_r (by omega)).trans rfl)).trans ?_
  refine (rg_bastore (pc := 23) (dd bX13_copiesLine dX13_copiesLine_23) ((vup_k (by decide)).trans s1.2.2.2.2.2.2.2.2.1) ((vup_k (by decide)).trans s1.2.2.2.2.2.2.2.2.2.1) (by omega) (by omega) p6).trans ?_
  refine (rn_iconst (pc := 24) (dd bX13_copiesLine dX13_copiesLine_24) (by decide)).trans ?_
  refine (rn_istore_n (pc := 25) (dd bX13_copiesLine dX13_copiesLine_25) (Nat.le_of_ble_eq_true rfl) rfl).trans ?_
  rfl
theorem rX13_copiesLine_26 {x1 : Int} {x2 : Int} {x3 : Int} {h : vH} (s1 : shModel h) (p2 : ¬ (80 ≤ x3) → (-2147483648) ≤ 80 * x2) (p3 : ¬ (80 ≤ x3) → 80 * x2 < 2147483648) (p4 : ¬ (80 ≤ x3) → (-2147483648) ≤ 80 * x2 + x3) (p5 : ¬ (80 ≤ x3) → 80 * x2 + x3 < 2147483648) (p6 : ¬ (80 ≤ x3) → (-2147483648) ≤ 80 * x1) (p7 : ¬ (80 ≤ x3) → 80 * x1 < 2147483648) (p8 : ¬ (80 ≤ x3) → (-2147483648) ≤ 80 * x1 + x3) (p9 : ¬ (80 ≤ x3) → 80 * x1 + x3 < 2147483648) (p10 : ¬ (80 ≤ x3) → 0 ≤ 80 * x1 + x3) (p11 : ¬ (80 ≤ x3) → 80 * x1 + x3 < 4800) (p12 : ¬ (80 ≤ x3) → 0 ≤ 80 * x2 + x3) (p13 : ¬ (80 ≤ x3) → 80 * x2 + x3 < 4800) (p14 : ¬ (80 ≤ x3) → (-2147483648) ≤ x3 + 1) : vrun mX13_copiesLine 26 [(1, 282), (0, x1), (0, x2), (0, x3)] [] h = if 80 ≤ x3 then some (.inl none, h) else vrun mX13_copiesLine 26 [(1, 282), (0, x1), (0, x2), (0, x3 + 1)] [] (vup h 2 283 (80 * x2 + x3) (h 2 283 (80 * x1 + x3))) := by
  refine (rn_iload_n (pc := 26) (dd bX13_copiesLine dX13_copiesLine_26) rfl).trans ?_
  refine (rn_bipush (pc := 27) (dd bX13_copiesLine dX13_copiesLine_27) (by decide)).trans ?_
  refine (rn_icmp_ge (t := 60) (pc := 29) (dd bX13_copiesLine dX13_copiesLine_29) rfl).trans (itec (fun c1 => ?_) (fun c1 => ?_))
  · exact rn_return (pc := 60) (dd bX13_copiesLine dX13_copiesLine_60) rfl
  · refine (rn_aload_n (pc := 32) (dd bX13_copiesLine dX13_copiesLine_32) rfl).trans ?_
    refine (rg_gf (pc := 33) (dd bX13_copiesLine dX13_copiesLine_33) (ci := 14) (j := 1) rfl rfl (key := 1501) rfl (kc := 34) rfl s1.1 s1.2.1).trans ?_
    refine (rn_bipush (pc := 36) (dd bX13_copiesLine dX13_copiesLine_36) (by decide)).trans ?_
    refine (rn_iload_n (pc := 38) (dd bX13_copiesLine dX13_copiesLine_38) rfl).trans ?_
    refine (rg_imul (pc := 39) (dd bX13_copiesLine dX13_copiesLine_39) (p2 c1) (p3 c1)).trans ?_
    refine (rn_iload_n (pc := 40) (dd bX13_copiesLine dX13_copiesLine_40) rfl).trans ?_
    refine (rg_iadd (pc := 41) (dd bX13_copiesLine dX13_copiesLine_41) (p4 c1) (p5 c1)).trans ?_
    refine (rn_aload_n (pc := 42) (dd bX13_copiesLine dX13_copiesLine_42) rfl).trans ?_
    refine (rg_gf (pc := 43) (dd bX13_copiesLine dX13_copiesLine_43) (ci := 14) (j := 1) rfl rfl (key := 1501) rfl (kc := 34) rfl s1.1 s1.2.1).trans ?_
    refine (rn_bipush (pc := 46) (dd bX13_copiesLine dX13_copiesLine_46) (by decide)).trans ?_
    refine (rn_iload_n (pc := 48) (dd bX13_copiesLine dX13_copiesLine_48) rfl).trans ?_
    refine (rg_imul (pc := 49) (dd bX13_copiesLine dX13_copiesLine_49) (p6 c1) (p7 c1)).trans ?_
    refine (rn_iload_n (pc := 50) (dd bX13_copiesLine dX13_copiesLine_50) rfl).trans ?_
    refine (rg_iadd (pc := 51) (dd bX13_copiesLine dX13_copiesLine_51) (p8 c1) (p9 c1)).trans ?_
    refine (rg_iaload (pc := 52) (dd bX13_copiesLine dX13_copiesLine_52) s1.2.2.1 s1.2.2.2.1 (p10 c1) (p11 c1) rfl).trans ?_
    refine (rg_iastore (pc := 53) (dd bX13_copiesLine dX13_copiesLine_53) s1.2.2.1 s1.2.2.2.1 (p12 c1) (p13 c1)).trans ?_
    refine (rg_iinc (pc := 54) (dd bX13_copiesLine dX13_copiesLine_54) rfl (Nat.le_of_ble_eq_true rfl) (p14 c1) (by have z0 := p14 c1; omega) rfl).trans ?_
    refine (rn_goto (t := 26) (pc := 57) (dd bX13_copiesLine dX13_copiesLine_57) rfl).trans ?_
    rfl
theorem bX13_lesser : vmB mX13_lesser = cX13_lesser := rfl
theorem rX13_lesser_0 {x0 : Int} {x1 : Int} {h : vH} : vrun mX13_lesser 0 [(0, x0), (0, x1)] [] h = some (.inl (some (0, (if x1 ≤ x0 then x1 else x0))), h) := by
  refine (rn_iload_n (pc := 0) (dd bX13_lesser dX13_lesser_0) rfl).trans ?_
  refine (rn_iload_n (pc := 1) (dd bX13_lesser dX13_lesser_1) rfl).trans ?_
  have e1 : vrun mX13_lesser 2 [(0, x0), (0, x1)] [(0, x1), (0, x0)] h = vrun mX13_lesser 10 [(0, x0), (0, x1)] [(0, (if x1 ≤ x0 then x1 else x0))] h := by
    refine (rn_icmp_ge (t := 9) (pc := 2) (dd bX13_lesser dX13_lesser_2) rfl).trans ?_
    by_cases c1 : x1 ≤ x0
    · refine (if_pos c1).trans ?_
      refine (rn_iload_n (pc := 9) (dd bX13_lesser dX13_lesser_9) rfl).trans ?_
      refine Eq.trans (b := vrun mX13_lesser 10 [(0, x0), (0, x1)] [(0, x1)] h) rfl ?_
      simp only [if_pos c1]
    · refine (if_neg c1).trans ?_
      refine (rn_iload_n (pc := 5) (dd bX13_lesser dX13_lesser_5) rfl).trans ?_
      refine (rn_goto (t := 10) (pc := 6) (dd bX13_lesser dX13_lesser_6) rfl).trans ?_
      refine Eq.trans (b := vrun mX13_lesser 10 [(0, x0), (0, x1)] [(0, x0)] h) rfl ?_
      simp only [if_neg c1]
  refine e1.trans ?_
  exact rn_ireturn (pc := 10) (dd bX13_lesser dX13_lesser_10) (Or.inl rfl)
theorem spX13_lesser {x0 : Int} {x1 : Int} {h : vH} : vcl mX13_lesser [(0, x0), (0, x1)] h = some (.inl (some (0, (if x1 ≤ x0 then x1 else x0))), h) := by
  refine (show _ = _ from rX13_lesser_0).trans ?_
  rfl
theorem bX13_later : vmB mX13_later = cX13_later := rfl
theorem rX13_later_0 {x0 : Int} {x1 : Int} {x2 : Int} {x3 : Int} {h : vH} : vrun mX13_later 0 [(0, x0), (0, x1), (0, x2), (0, x3)] [] h = some (.inl (some (0, (if x2 < x0 ∨ x0 = x2 ∧ ¬ (x1 ≤ x3) then 1 else 0))), h) := by
  refine (rn_iload_n (pc := 0) (dd bX13_later dX13_later_0) rfl).trans ?_
  refine (rn_iload_n (pc := 1) (dd bX13_later dX13_later_1) rfl).trans ?_
  have e3 : vrun mX13_later 2 [(0, x0), (0, x1), (0, x2), (0, x3)] [(0, x2), (0, x0)] h = vrun mX13_later 20 [(0, x0), (0, x1), (0, x2), (0, x3)] [(0, (if x2 < x0 ∨ x0 = x2 ∧ ¬ (x1 ≤ x3) then 1 else 0))] h := by
    refine (rn_icmp_gt (t := 15) (pc := 2) (dd bX13_later dX13_later_2) rfl).trans ?_
    by_cases c1 : x2 < x0
    · refine (if_pos c1).trans ?_
      refine (rn_iconst (pc := 15) (dd bX13_later dX13_later_15) (by decide)).trans ?_
      refine (rn_goto (t := 20) (pc := 16) (dd bX13_later dX13_later_16) rfl).trans ?_
      refine Eq.trans (b := vrun mX13_later 20 [(0, x0), (0, x1), (0, x2), (0, x3)] [(0, 1)] h) rfl ?_
      simp only [c1, true_or, false_or, or_true, or_false, true_and, false_and, and_true, and_false, not_true_eq_false, not_false_eq_true, ne_eq, if_true, if_false, ↓reduceIte]
    · refine (if_neg c1).trans ?_
      refine (rn_iload_n (pc := 5) (dd bX13_later dX13_later_5) rfl).trans ?_
      refine (rn_iload_n (pc := 6) (dd bX13_later dX13_later_6) rfl).trans ?_
      have e2 : vrun mX13_later 7 [(0, x0), (0, x1), (0, x2), (0, x3)] [(0, x2), (0, x0)] h = vrun mX13_later 20 [(0, x0), (0, x1), (0, x2), (0, x3)] [(0, (if x0 = x2 ∧ ¬ (x1 ≤ x3) then 1 else 0))] h := by
        refine (rg_icmp_ne (t := 19) (pc := 7) (dd bX13_later dX13_later_7) rfl).trans ?_
        by_cases c2 : x0 = x2
        · refine (if_pos c2).trans ?_
          refine (rn_iload_n (pc := 10) (dd bX13_later dX13_later_10) rfl).trans ?_
          refine (rn_iload_n (pc := 11) (dd bX13_later dX13_later_11) rfl).trans ?_
          have e1 : vrun mX13_later 12 [(0, x0), (0, x1), (0, x2), (0, x3)] [(0, x3), (0, x1)] h = vrun mX13_later 20 [(0, x0), (0, x1), (0, x2), (0, x3)] [(0, (if ¬ (x1 ≤ x3) then 1 else 0))] h := by
            refine (rn_icmp_le (t := 19) (pc := 12) (dd bX13_later dX13_later_12) rfl).trans ?_
            by_cases c3 : x1 ≤ x3
            · refine (if_pos c3).trans ?_
              refine (rn_iconst (pc := 19) (dd bX13_later dX13_later_19) (by decide)).trans ?_
              refine Eq.trans (b := vrun mX13_later 20 [(0, x0), (0, x1), (0, x2), (0, x3)] [(0, 0)] h) rfl ?_
              simp only [c3, true_or, false_or, or_true, or_false, true_and, false_and, and_true, and_false, not_true_eq_false, not_false_eq_true, ne_eq, if_true, if_false, ↓reduceIte]
            · refine (if_neg c3).trans ?_
              refine (rn_iconst (pc := 15) (dd bX13_later dX13_later_15) (by decide)).trans ?_
              refine (rn_goto (t := 20) (pc := 16) (dd bX13_later dX13_later_16) rfl).trans ?_
              refine Eq.trans (b := vrun mX13_later 20 [(0, x0), (0, x1), (0, x2), (0, x3)] [(0, 1)] h) rfl ?_
              simp only [c3, true_or, false_or, or_true, or_false, true_and, false_and, and_true, and_false, not_true_eq_false, not_false_eq_true, ne_eq, if_true, if_false, ↓reduceIte]
          refine e1.trans ?_
          refine Eq.trans (b := vrun mX13_later 20 [(0, x0), (0, x1), (0, x2), (0, x3)] [(0, (if ¬ (x1 ≤ x3) then 1 else 0))] h) rfl ?_
          simp only [c2, true_or, false_or, or_true, or_false, true_and, false_and, and_true, and_false, not_true_eq_false, not_false_eq_true, ne_eq, if_true, if_false, ↓reduceIte]
        · refine (if_neg c2).trans ?_
          refine (rn_iconst (pc := 19) (dd bX13_later dX13_later_19) (by decide)).trans ?_
          refine Eq.trans (b := vrun mX13_later 20 [(0, x0), (0, x1), (0, x2), (0, x3)] [(0, 0)] h) rfl ?_
          simp only [c2, true_or, false_or, or_true, or_false, true_and, false_and, and_true, and_false, not_true_eq_false, not_false_eq_true, ne_eq, if_true, if_false, ↓reduceIte]
      refine e2.trans ?_
      refine Eq.trans (b := vrun mX13_later 20 [(0, x0), (0, x1), (0, x2), (0, x3)] [(0, (if x0 = x2 ∧ ¬ (x1 ≤ x3) then 1 else 0))] h) rfl ?_
      simp only [c1, true_or, false_or, or_true, or_false, true_and, false_and, and_true, and_false, not_true_eq_false, not_false_eq_true, ne_eq, if_true, if_false, ↓reduceIte]
  refine e3.trans ?_
  exact rn_ireturn (pc := 20) (dd bX13_later dX13_later_20) (Or.inl rfl)
def fX13_later (h : vH) (x0 : Int) (x1 : Int) (x2 : Int) (x3 : Int) : Int := (if x2 < x0 ∨ x0 = x2 ∧ ¬ (x1 ≤ x3) then 1 else 0)
theorem spX13_later {x0 : Int} {x1 : Int} {x2 : Int} {x3 : Int} {h : vH} : vcl mX13_later [(0, x0), (0, x1), (0, x2), (0, x3)] h = some (.inl (some (0, fX13_later h x0 x1 x2 x3)), h) := by
  refine (show _ = _ from rX13_later_0).trans ?_
  rfl
theorem bX13_breaksLayers : vmB mX13_breaksLayers = cX13_breaksLayers := rfl
theorem rX13_breaksLayers_0 {x1 : Int} {x2 : Int} {h : vH} : vrun mX13_breaksLayers 0 [(1, 282), (0, x1), (0, x2), (9, 0), (9, 0), (9, 0)] [] h = vrun mX13_breaksLayers 2 [(1, 282), (0, x1), (0, x2), (0, 0), (9, 0), (9, 0)] [] h := by
  refine (rn_iconst (pc := 0) (dd bX13_breaksLayers dX13_breaksLayers_0) (by decide)).trans ?_
  refine (rn_istore_n (pc := 1) (dd bX13_breaksLayers dX13_breaksLayers_1) (Nat.le_of_ble_eq_true rfl) rfl).trans ?_
  rfl
theorem rX13_breaksLayers_2 {x1 : Int} {x2 : Int} {x3 : Int} {v4 : vv} {v5 : vv} {h : vH} (s1 : shModel h) (p2 : ¬ (24 ≤ x3) → 0 ≤ x3) (p3 : ¬ (24 ≤ x3) → h 2 294 x3 = x1 ∧ ¬ (h 2 295 x3 < x2) → (-2147483648) ≤ h 2 296 x3 - x2) (p4 : ¬ (24 ≤ x3) → h 2 294 x3 = x1 ∧ ¬ (h 2 295 x3 < x2) → h 2 296 x3 - x2 < 2147483648) (p5 : ¬ (24 ≤ x3) → (-2147483648) ≤ h 2 295 x3 - (if h 2 294 x3 = x1 ∧ ¬ (h 2 295 x3 < x2) then x2 else 0)) (p6 : ¬ (24 ≤ x3) → h 2 295 x3 - (if h 2 294 x3 = x1 ∧ ¬ (h 2 295 x3 < x2) then x2 else 0) < 2147483648) (p7 : ¬ (24 ≤ x3) → (-2147483648) ≤ h 2 294 x3 + (if h 2 294 x3 = x1 ∧ ¬ (h 2 295 x3 < x2) ∨ ¬ (h 2 294 x3 ≤ x1) then 1 else 0)) (p8 : ¬ (24 ≤ x3) → h 2 294 x3 + (if h 2 294 x3 = x1 ∧ ¬ (h 2 295 x3 < x2) ∨ ¬ (h 2 294 x3 ≤ x1) then 1 else 0) < 2147483648) (p9 : ¬ (24 ≤ x3) → (-2147483648) ≤ h 2 299 x3 - (if h 2 298 x3 = x1 then (if fX13_later (vup (vup (vup h 2 296 x3 (if h 2 294 x3 = x1 ∧ ¬ (h 2 295 x3 < x2) then h 2 296 x3 - x2 else (if h 2 294 x3 = x1 then (if x2 ≤ h 2 296 x3 then x2 else h 2 296 x3) else h 2 296 x3))) 2 295 x3 (h 2 295 x3 - (if h 2 294 x3 = x1 ∧ ¬ (h 2 295 x3 < x2) then x2 else 0))) 2 294 x3 (h 2 294 x3 + (if h 2 294 x3 = x1 ∧ ¬ (h 2 295 x3 < x2) ∨ ¬ (h 2 294 x3 ≤ x1) then 1 else 0))) (h 2 298 x3) (h 2 299 x3) x1 x2 ≤ 0 then 0 else x2) else 0)) (p10 : ¬ (24 ≤ x3) → h 2 299 x3 - (if h 2 298 x3 = x1 then (if fX13_later (vup (vup (vup h 2 296 x3 (if h 2 294 x3 = x1 ∧ ¬ (h 2 295 x3 < x2) then h 2 296 x3 - x2 else (if h 2 294 x3 = x1 then (if x2 ≤ h 2 296 x3 then x2 else h 2 296 x3) else h 2 296 x3))) 2 295 x3 (h 2 295 x3 - (if h 2 294 x3 = x1 ∧ ¬ (h 2 295 x3 < x2) then x2 else 0))) 2 294 x3 (h 2 294 x3 + (if h 2 294 x3 = x1 ∧ ¬ (h 2 295 x3 < x2) ∨ ¬ (h 2 294 x3 ≤ x1) then 1 else 0))) (h 2 298 x3) (h 2 299 x3) x1 x2 ≤ 0 then 0 else x2) else 0) < 2147483648) (p11 : ¬ (24 ≤ x3) → (-2147483648) ≤ h 2 298 x3 + fX13_later (vup (vup (vup h 2 296 x3 (if h 2 294 x3 = x1 ∧ ¬ (h 2 295 x3 < x2) then h 2 296 x3 - x2 else (if h 2 294 x3 = x1 then (if x2 ≤ h 2 296 x3 then x2 else h 2 296 x3) else h 2 296 x3))) 2 295 x3 (h 2 295 x3 - (if h 2 294 x3 = x1 ∧ ¬ (h 2 295 x3 < x2) then x2 else 0))) 2 294 x3 (h 2 294 x3 + (if h 2 294 x3 = x1 ∧ ¬ (h 2 295 x3 < x2) ∨ ¬ (h 2 294 x3 ≤ x1) then 1 else 0))) (h 2 298 x3) (h 2 299 x3) x1 x2) (p12 : ¬ (24 ≤ x3) → h 2 298 x3 + fX13_later (vup (vup (vup h 2 296 x3 (if h 2 294 x3 = x1 ∧ ¬ (h 2 295 x3 < x2) then h 2 296 x3 - x2 else (if h 2 294 x3 = x1 then (if x2 ≤ h 2 296 x3 then x2 else h 2 296 x3) else h 2 296 x3))) 2 295 x3 (h 2 295 x3 - (if h 2 294 x3 = x1 ∧ ¬ (h 2 295 x3 < x2) then x2 else 0))) 2 294 x3 (h 2 294 x3 + (if h 2 294 x3 = x1 ∧ ¬ (h 2 295 x3 < x2) ∨ ¬ (h 2 294 x3 ≤ x1) then 1 else 0))) (h 2 298 x3) (h 2 299 x3) x1 x2 < 2147483648) (p13 : ¬ (24 ≤ x3) → (-2147483648) ≤ h 2 302 x3 + (if ¬ (h 2 302 x3 ≤ x1) then 1 else 0)) (p14 : ¬ (24 ≤ x3) → h 2 302 x3 + (if ¬ (h 2 302 x3 ≤ x1) then 1 else 0) < 2147483648) (p15 : ¬ (24 ≤ x3) → (-2147483648) ≤ h 2 303 x3 + (if ¬ (h 2 303 x3 < x1) then 1 else 0)) (p16 : ¬ (24 ≤ x3) → h 2 303 x3 + (if ¬ (h 2 303 x3 < x1) then 1 else 0) < 2147483648) : vrun mX13_breaksLayers 2 [(1, 282), (0, x1), (0, x2), (0, x3), v4, v5] [] h = if 24 ≤ x3 then vrun mX13_breaksLayers 249 [(1, 282), (0, x1), (0, x2), (0, 0), v4, v5] [] h else vrun mX13_breaksLayers 2 [(1, 282), (0, x1), (0, x2), (0, x3 + 1), (0, (if h 2 294 x3 = x1 ∧ ¬ (h 2 295 x3 < x2) then 1 else 0)), (0, fX13_later (vup (vup (vup h 2 296 x3 (if h 2 294 x3 = x1 ∧ ¬ (h 2 295 x3 < x2) then h 2 296 x3 - x2 else (if h 2 294 x3 = x1 then (if x2 ≤ h 2 296 x3 then x2 else h 2 296 x3) else h 2 296 x3))) 2 295 x3 (h 2 295 x3 - (if h 2 294 x3 = x1 ∧ ¬ (h 2 295 x3 < x2) then x2 else 0))) 2 294 x3 (h 2 294 x3 + (if h 2 294 x3 = x1 ∧ ¬ (h 2 295 x3 < x2) ∨ ¬ (h 2 294 x3 ≤ x1) then 1 else 0))) (h 2 298 x3) (h 2 299 x3) x1 x2)] [] (vup (vup (vup (vup (vup (vup (vup h 2 296 x3 (if h 2 294 x3 = x1 ∧ ¬ (h 2 295 x3 < x2) then h 2 296 x3 - x2 else (if h 2 294 x3 = x1 then (if x2 ≤ h 2 296 x3 then x2 else h 2 296 x3) else h 2 296 x3))) 2 295 x3 (h 2 295 x3 - (if h 2 294 x3 = x1 ∧ ¬ (h 2 295 x3 < x2) then x2 else 0))) 2 294 x3 (h 2 294 x3 + (if h 2 294 x3 = x1 ∧ ¬ (h 2 295 x3 < x2) ∨ ¬ (h 2 294 x3 ≤ x1) then 1 else 0))) 2 299 x3 (h 2 299 x3 - (if h 2 298 x3 = x1 then (if fX13_later (vup (vup (vup h 2 296 x3 (if h 2 294 x3 = x1 ∧ ¬ (h 2 295 x3 < x2) then h 2 296 x3 - x2 else (if h 2 294 x3 = x1 then (if x2 ≤ h 2 296 x3 then x2 else h 2 296 x3) else h 2 296 x3))) 2 295 x3 (h 2 295 x3 - (if h 2 294 x3 = x1 ∧ ¬ (h 2 295 x3 < x2) then x2 else 0))) 2 294 x3 (h 2 294 x3 + (if h 2 294 x3 = x1 ∧ ¬ (h 2 295 x3 < x2) ∨ ¬ (h 2 294 x3 ≤ x1) then 1 else 0))) (h 2 298 x3) (h 2 299 x3) x1 x2 ≤ 0 then 0 else x2) else 0))) 2 298 x3 (h 2 298 x3 + fX13_later (vup (vup (vup h 2 296 x3 (if h 2 294 x3 = x1 ∧ ¬ (h 2 295 x3 < x2) then h 2 296 x3 - x2 else (if h 2 294 x3 = x1 then (if x2 ≤ h 2 296 x3 then x2 else h 2 296 x3) else h 2 296 x3))) 2 295 x3 (h 2 295 x3 - (if h 2 294 x3 = x1 ∧ ¬ (h 2 295 x3 < x2) then x2 else 0))) 2 294 x3 (h 2 294 x3 + (if h 2 294 x3 = x1 ∧ ¬ (h 2 295 x3 < x2) ∨ ¬ (h 2 294 x3 ≤ x1) then 1 else 0))) (h 2 298 x3) (h 2 299 x3) x1 x2)) 2 302 x3 (h 2 302 x3 + (if ¬ (h 2 302 x3 ≤ x1) then 1 else 0))) 2 303 x3 (h 2 303 x3 + (if ¬ (h 2 303 x3 < x1) then 1 else 0))) := by
  refine (rn_iload_n (pc := 2) (dd bX13_breaksLayers dX13_breaksLayers_2) rfl).trans ?_
  refine (rn_bipush (pc := 3) (dd bX13_breaksLayers dX13_breaksLayers_3) (by decide)).trans ?_
  refine (rn_icmp_ge (t := 247) (pc := 5) (dd bX13_breaksLayers dX13_breaksLayers_5) rfl).trans (itec (fun c1 => ?_) (fun c1 => ?_))
  · refine (rn_iconst (pc := 247) (dd bX13_breaksLayers dX13_breaksLayers_247) (by decide)).trans ?_
    refine (rn_istore_n (pc := 248) (dd bX13_breaksLayers dX13_breaksLayers_248) (Nat.le_of_ble_eq_true rfl) rfl).trans ?_
    rfl
  · refine (rn_aload_n (pc := 8) (dd bX13_breaksLayers dX13_breaksLayers_8) rfl).trans ?_
    refine (rg_gf (pc := 9) (dd bX13_breaksLayers dX13_breaksLayers_9) (ci := 14) (j := 13) rfl rfl (key := 1513) rfl (kc := 34) rfl s1.1 s1.2.2.2.2.2.2.2.2.2.2.2.2.2.2.2.2.2.2.2.2.2.2.2.2.2.2.2.2.2.2.2.2.2.2.1).trans ?_
    refine (rn_iload_n (pc := 12) (dd bX13_breaksLayers dX13_breaksLayers_12) rfl).trans ?_
    refine (rg_iaload (pc := 13) (dd bX13_breaksLayers dX13_breaksLayers_13) s1.2.2.2.2.2.2.2.2.2.2.2.2.2.2.2.2.2.2.2.2.2.2.2.2.2.2.2.2.2.2.2.2.2.2.2.1 s1.2.2.2.2.2.2.2.2.2.2.2.2.2.2.2.2.2.2.2.2.2.2.2.2.2.2.2.2.2.2.2.2.2.2.2.2.1 (p2 c1) (Int.not_le.mp c1) rfl).trans ?_
    refine (rn_iload_n (pc := 14) (dd bX13_breaksLayers dX13_breaksLayers_14) rfl).trans ?_
    have e2 : vrun mX13_breaksLayers 15 [(1, 282), (0, x1), (0, x2), (0, x3), v4, v5] [(0, x1), (0, h 2 294 x3)] h = vrun mX13_breaksLayers 33 [(1, 282), (0, x1), (0, x2), (0, x3), v4, v5] [(0, (if h 2 294 x3 = x1 ∧ ¬ (h 2 295 x3 < x2) then 1 else 0))] h := by
      refine (rg_icmp_ne (t := 32) (pc := 15) (dd bX13_breaksLayers dX13_breaksLayers_15) rfl).trans ?_
      by_cases c2 : h 2 294 x3 = x1
      · refine (if_pos c2).trans ?_
        refine (rn_aload_n (pc := 18) (dd bX13_breaksLayers dX13_breaksLayers_18) rfl).trans ?_
        refine (rg_gf (pc := 19) (dd bX13_breaksLayers dX13_breaksLayers_19) (ci := 14) (j := 14) rfl rfl (key := 1514) rfl (kc := 34) rfl s1.1 s1.2.2.2.2.2.2.2.2.2.2.2.2.2.2.2.2.2.2.2.2.2.2.2.2.2.2.2.2.2.2.2.2.2.2.2.2.2.1).trans ?_
        refine (rn_iload_n (pc := 22) (dd bX13_breaksLayers dX13_breaksLayers_22) rfl).trans ?_
        refine (rg_iaload (pc := 23) (dd bX13_breaksLayers dX13_breaksLayers_23) s1.2.2.2.2.2.2.2.2.2.2.2.2.2.2.2.2.2.2.2.2.2.2.2.2.2.2.2.2.2.2.2.2.2.2.2.2.2.2.1 s1.2.2.2.2.2.2.2.2.2.2.2.2.2.2.2.2.2.2.2.2.2.2.2.2.2.2.2.2.2.2.2.2.2.2.2.2.2.2.2.1 (by have z0 := p2 c1; omega) (Int.not_le.mp c1) rfl).trans ?_
        refine (rn_iload_n (pc := 24) (dd bX13_breaksLayers dX13_breaksLayers_24) rfl).trans ?_
        have e1 : vrun mX13_breaksLayers 25 [(1, 282), (0, x1), (0, x2), (0, x3), v4, v5] [(0, x2), (0, h 2 295 x3)] h = vrun mX13_breaksLayers 33 [(1, 282), (0, x1), (0, x2), (0, x3), v4, v5] [(0, (if ¬ (h 2 295 x3 < x2) then 1 else 0))] h := by
          refine (rn_icmp_lt (t := 32) (pc := 25) (dd bX13_breaksLayers dX13_breaksLayers_25) rfl).trans ?_
          by_cases c3 : h 2 295 x3 < x2
          · refine (if_pos c3).trans ?_
            refine (rn_iconst (pc := 32) (dd bX13_breaksLayers dX13_breaksLayers_32) (by decide)).trans ?_
            refine Eq.trans (b := vrun mX13_breaksLayers 33 [(1, 282), (0, x1), (0, x2), (0, x3), v4, v5] [(0, 0)] h) rfl ?_
            simp only [c3, true_or, false_or, or_true, or_false, true_and, false_and, and_true, and_false, not_true_eq_false, not_false_eq_true, ne_eq, if_true, if_false, ↓reduceIte]
          · refine (if_neg c3).trans ?_
            refine (rn_iconst (pc := 28) (dd bX13_breaksLayers dX13_breaksLayers_28) (by decide)).trans ?_
            refine (rn_goto (t := 33) (pc := 29) (dd bX13_breaksLayers dX13_breaksLayers_29) rfl).trans ?_
            refine Eq.trans (b := vrun mX13_breaksLayers 33 [(1, 282), (0, x1), (0, x2), (0, x3), v4, v5] [(0, 1)] h) rfl ?_
            simp only [c3, true_or, false_or, or_true, or_false, true_and, false_and, and_true, and_false, not_true_eq_false, not_false_eq_true, ne_eq, if_true, if_false, ↓reduceIte]
        refine e1.trans ?_
        refine Eq.trans (b := vrun mX13_breaksLayers 33 [(1, 282), (0, x1), (0, x2), (0, x3), v4, v5] [(0, (if ¬ (h 2 295 x3 < x2) then 1 else 0))] h) rfl ?_
        simp only [c2, true_or, false_or, or_true, or_false, true_and, false_and, and_true, and_false, not_true_eq_false, not_false_eq_true, ne_eq, if_true, if_false, ↓reduceIte]
      · refine (if_neg c2).trans ?_
        refine (rn_iconst (pc := 32) (dd bX13_breaksLayers dX13_breaksLayers_32) (by decide)).trans ?_
        refine Eq.trans (b := vrun mX13_breaksLayers 33 [(1, 282), (0, x1), (0, x2), (0, x3), v4, v5] [(0, 0)] h) rfl ?_
        simp only [c2, true_or, false_or, or_true, or_false, true_and, false_and, and_true, and_false, not_true_eq_false, not_false_eq_true, ne_eq, if_true, if_false, ↓reduceIte]
    refine e2.trans ?_
    refine (rn_istore (pc := 33) (dd bX13_breaksLayers dX13_breaksLayers_33) (Nat.le_of_ble_eq_true rfl) rfl).trans ?_
    refine (rn_aload_n (pc := 35) (dd bX13_breaksLayers dX13_breaksLayers_35) rfl).trans ?_
    refine (rg_gf (pc := 36) (dd bX13_breaksLayers dX13_breaksLayers_36) (ci := 14) (j := 15) rfl rfl (key := 1515) rfl (kc := 34) rfl s1.1 s1.2.2.2.2.2.2.2.2.2.2.2.2.2.2.2.2.2.2.2.2.2.2.2.2.2.2.2.2.2.2.2.2.2.2.2.2.2.2.2.2.1).trans ?_
    refine (rn_iload_n (pc := 39) (dd bX13_breaksLayers dX13_breaksLayers_39) rfl).trans ?_
    refine (rn_iload (pc := 40) (dd bX13_breaksLayers dX13_breaksLayers_40) rfl).trans ?_
    have e4 : vrun mX13_breaksLayers 42 [(1, 282), (0, x1), (0, x2), (0, x3), (0, (if h 2 294 x3 = x1 ∧ ¬ (h 2 295 x3 < x2) then 1 else 0)), v5] [(0, (if h 2 294 x3 = x1 ∧ ¬ (h 2 295 x3 < x2) then 1 else 0)), (0, x3), (1, 296)] h = vrun mX13_breaksLayers 85 [(1, 282), (0, x1), (0, x2), (0, x3), (0, (if h 2 294 x3 = x1 ∧ ¬ (h 2 295 x3 < x2) then 1 else 0)), v5] [(0, (if h 2 294 x3 = x1 ∧ ¬ (h 2 295 x3 < x2) then h 2 296 x3 - x2 else (if h 2 294 x3 = x1 then (if x2 ≤ h 2 296 x3 then x2 else h 2 296 x3) else h 2 296 x3))), (0, x3), (1, 296)] h := by
      refine (rg_beq (t := 56) (pc := 42) (dd bX13_breaksLayers dX13_breaksLayers_42) rfl).trans ?_
      by_cases c4 : h 2 294 x3 = x1 ∧ ¬ (h 2 295 x3 < x2)
      · refine (if_pos c4).trans ?_
        refine (rn_aload_n (pc := 45) (dd bX13_breaksLayers dX13_breaksLayers_45) rfl).trans ?_
        refine (rg_gf (pc := 46) (dd bX13_breaksLayers dX13_breaksLayers_46) (ci := 14) (j := 15) rfl rfl (key := 1515) rfl (kc := 34) rfl s1.1 s1.2.2.2.2.2.2.2.2.2.2.2.2.2.2.2.2.2.2.2.2.2.2.2.2.2.2.2.2.2.2.2.2.2.2.2.2.2.2.2.2.1).trans ?_
        refine (rn_iload_n (pc := 49) (dd bX13_breaksLayers dX13_breaksLayers_49) rfl).trans ?_
        refine (rg_iaload (pc := 50) (dd bX13_breaksLayers dX13_breaksLayers_50) s1.2.2.2.2.2.2.2.2.2.2.2.2.2.2.2.2.2.2.2.2.2.2.2.2.2.2.2.2.2.2.2.2.2.2.2.2.2.2.2.2.2.1 s1.2.2.2.2.2.2.2.2.2.2.2.2.2.2.2.2.2.2.2.2.2.2.2.2.2.2.2.2.2.2.2.2.2.2.2.2.2.2.2.2.2.2.1 (by have z0 := p2 c1; omega) (Int.not_le.mp c1) rfl).trans ?_
        refine (rn_iload_n (pc := 51) (dd bX13_breaksLayers dX13_breaksLayers_51) rfl).trans ?_
        refine (rg_isub (pc := 52) (dd bX13_breaksLayers dX13_breaksLayers_52) (p3 c1 c4) (p4 c1 c4)).trans ?_
        refine (rn_goto (t := 85) (pc := 53) (dd bX13_breaksLayers dX13_breaksLayers_53) rfl).trans ?_
        refine Eq.trans (b := vrun mX13_breaksLayers 85 [(1, 282), (0, x1), (0, x2), (0, x3), (0, (if h 2 294 x3 = x1 ∧ ¬ (h 2 295 x3 < x2) then 1 else 0)), v5] [(0, h 2 296 x3 - x2), (0, x3), (1, 296)] h) rfl ?_
        simp only [if_pos c4]
      · refine (if_neg c4).trans ?_
        refine (rn_aload_n (pc := 56) (dd bX13_breaksLayers dX13_breaksLayers_56) rfl).trans ?_
        refine (rg_gf (pc := 57) (dd bX13_breaksLayers dX13_breaksLayers_57) (ci := 14) (j := 13) rfl rfl (key := 1513) rfl (kc := 34) rfl s1.1 s1.2.2.2.2.2.2.2.2.2.2.2.2.2.2.2.2.2.2.2.2.2.2.2.2.2.2.2.2.2.2.2.2.2.2.1).trans ?_
        refine (rn_iload_n (pc := 60) (dd bX13_breaksLayers dX13_breaksLayers_60) rfl).trans ?_
        refine (rg_iaload (pc := 61) (dd bX13_breaksLayers dX13_breaksLayers_61) s1.2.2.2.2.2.2.2.2.2.2.2.2.2.2.2.2.2.2.2.2.2.2.2.2.2.2.2.2.2.2.2.2.2.2.2.1 s1.2.2.2.2.2.2.2.2.2.2.2.2.2.2.2.2.2.2.2.2.2.2.2.2.2.2.2.2.2.2.2.2.2.2.2.2.1 (by have z0 := p2 c1; omega) (Int.not_le.mp c1) rfl).trans ?_
        refine (rn_iload_n (pc := 62) (dd bX13_breaksLayers dX13_breaksLayers_62) rfl).trans ?_
        have e3 : vrun mX13_breaksLayers 63 [(1, 282), (0, x1), (0, x2), (0, x3), (0, (if h 2 294 x3 = x1 ∧ ¬ (h 2 295 x3 < x2) then 1 else 0)), v5] [(0, x1), (0, h 2 294 x3), (0, x3), (1, 296)] h = vrun mX13_breaksLayers 85 [(1, 282), (0, x1), (0, x2), (0, x3), (0, (if h 2 294 x3 = x1 ∧ ¬ (h 2 295 x3 < x2) then 1 else 0)), v5] [(0, (if h 2 294 x3 = x1 then (if x2 ≤ h 2 296 x3 then x2 else h 2 296 x3) else h 2 296 x3)), (0, x3), (1, 296)] h := by
          refine (rg_icmp_ne (t := 79) (pc := 63) (dd bX13_breaksLayers dX13_breaksLayers_63) rfl).trans ?_
          by_cases c5 : h 2 294 x3 = x1
          · refine (if_pos c5).trans ?_
            refine (rn_aload_n (pc := 66) (dd bX13_breaksLayers dX13_breaksLayers_66) rfl).trans ?_
            refine (rg_gf (pc := 67) (dd bX13_breaksLayers dX13_breaksLayers_67) (ci := 14) (j := 15) rfl rfl (key := 1515) rfl (kc := 34) rfl s1.1 s1.2.2.2.2.2.2.2.2.2.2.2.2.2.2.2.2.2.2.2.2.2.2.2.2.2.2.2.2.2.2.2.2.2.2.2.2.2.2.2.2.1).trans ?_
            refine (rn_iload_n (pc := 70) (dd bX13_breaksLayers dX13_breaksLayers_70) rfl).trans ?_
            refine (rg_iaload (pc := 71) (dd bX13_breaksLayers dX13_breaksLayers_71) s1.2.2.2.2.2.2.2.2.2.2.2.2.2.2.2.2.2.2.2.2.2.2.2.2.2.2.2.2.2.2.2.2.2.2.2.2.2.2.2.2.2.1 s1.2.2.2.2.2.2.2.2.2.2.2.2.2.2.2.2.2.2.2.2.2.2.2.2.2.2.2.2.2.2.2.2.2.2.2.2.2.2.2.2.2.2.1 (by have z0 := p2 c1; omega) (Int.not_le.mp c1) rfl).trans ?_
            refine (rn_iload_n (pc := 72) (dd bX13_breaksLayers dX13_breaksLayers_72) rfl).trans ?_
            refine (rg_static (pc := 73) (dd bX13_breaksLayers dX13_breaksLayers_73) rfl (by decide) (Nat.le_of_ble_eq_true rfl) (as := [(0, h 2 296 x3), (0, x2)]) rfl rfl ⟨Nat.le_of_ble_eq_true rfl, Nat.le_of_ble_eq_true rfl, Nat.le_of_ble_eq_true rfl, Nat.le_of_ble_eq_true rfl⟩).trans ?_
            refine (vret_v spX13_lesser).trans ?_
            refine (rn_goto (t := 85) (pc := 76) (dd bX13_breaksLayers dX13_breaksLayers_76) rfl).trans ?_
            refine Eq.trans (b := vrun mX13_breaksLayers 85 [(1, 282), (0, x1), (0, x2), (0, x3), (0, (if h 2 294 x3 = x1 ∧ ¬ (h 2 295 x3 < x2) then 1 else 0)), v5] [(0, (if x2 ≤ h 2 296 x3 then x2 else h 2 296 x3)), (0, x3), (1, 296)] h) rfl ?_
            simp only [if_pos c5]
          · refine (if_neg c5).trans ?_
            refine (rn_aload_n (pc := 79) (dd bX13_breaksLayers dX13_breaksLayers_79) rfl).trans ?_
            refine (rg_gf (pc := 80) (dd bX13_breaksLayers dX13_breaksLayers_80) (ci := 14) (j := 15) rfl rfl (key := 1515) rfl (kc := 34) rfl s1.1 s1.2.2.2.2.2.2.2.2.2.2.2.2.2.2.2.2.2.2.2.2.2.2.2.2.2.2.2.2.2.2.2.2.2.2.2.2.2.2.2.2.1).trans ?_
            refine (rn_iload_n (pc := 83) (dd bX13_breaksLayers dX13_breaksLayers_83) rfl).trans ?_
            refine (rg_iaload (pc := 84) (dd bX13_breaksLayers dX13_breaksLayers_84) s1.2.2.2.2.2.2.2.2.2.2.2.2.2.2.2.2.2.2.2.2.2.2.2.2.2.2.2.2.2.2.2.2.2.2.2.2.2.2.2.2.2.1 s1.2.2.2.2.2.2.2.2.2.2.2.2.2.2.2.2.2.2.2.2.2.2.2.2.2.2.2.2.2.2.2.2.2.2.2.2.2.2.2.2.2.2.1 (by have z0 := p2 c1; omega) (Int.not_le.mp c1) rfl).trans ?_
            refine Eq.trans (b := vrun mX13_breaksLayers 85 [(1, 282), (0, x1), (0, x2), (0, x3), (0, (if h 2 294 x3 = x1 ∧ ¬ (h 2 295 x3 < x2) then 1 else 0)), v5] [(0, h 2 296 x3), (0, x3), (1, 296)] h) rfl ?_
            simp only [if_neg c5]
        refine e3.trans ?_
        refine Eq.trans (b := vrun mX13_breaksLayers 85 [(1, 282), (0, x1), (0, x2), (0, x3), (0, (if h 2 294 x3 = x1 ∧ ¬ (h 2 295 x3 < x2) then 1 else 0)), v5] [(0, (if h 2 294 x3 = x1 then (if x2 ≤ h 2 296 x3 then x2 else h 2 296 x3) else h 2 296 x3)), (0, x3), (1, 296)] h) rfl ?_
        simp only [if_neg c4]
    refine e4.trans ?_
    refine (rg_iastore (pc := 85) (dd bX13_breaksLayers dX13_breaksLayers_85) s1.2.2.2.2.2.2.2.2.2.2.2.2.2.2.2.2.2.2.2.2.2.2.2.2.2.2.2.2.2.2.2.2.2.2.2.2.2.2.2.2.2.1 s1.2.2.2.2.2.2.2.2.2.2.2.2.2.2.2.2.2.2.2.2.2.2.2.2.2.2.2.2.2.2.2.2.2.2.2.2.2.2.2.2.2.2.1 (by have z0 := p2 c1; omega) (Int.not_le.mp c1)).trans ?_
    refine (rn_aload_n (pc := 86) (dd bX13_breaksLayers dX13_breaksLayers_86) rfl).trans ?_
    refine (rg_gf (pc := 87) (dd bX13_breaksLayers dX13_breaksLayers_87) (ci := 14) (j := 14) rfl rfl (key := 1514) rfl (kc := 34) rfl ((vup_k (by decide)).trans s1.1) ((vup_k (by decide)).trans s1.2.2.2.2.2.2.2.2.2.2.2.2.2.2.2.2.2.2.2.2.2.2.2.2.2.2.2.2.2.2.2.2.2.2.2.2.2.1)).trans ?_
    refine (rn_iload_n (pc := 90) (dd bX13_breaksLayers dX13_breaksLayers_90) rfl).trans ?_
    refine (rn_dup2 (pc := 91) (dd bX13_breaksLayers dX13_breaksLayers_91) (by decide)).trans ?_
    refine (rg_iaload (pc := 92) (dd bX13_breaksLayers dX13_breaksLayers_92) ((vup_k (by decide)).trans s1.2.2.2.2.2.2.2.2.2.2.2.2.2.2.2.2.2.2.2.2.2.2.2.2.2.2.2.2.2.2.2.2.2.2.2.2.2.2.1) ((vup_k (by decide)).trans s1.2.2.2.2.2.2.2.2.2.2.2.2.2.2.2.2.2.2.2.2.2.2.2.2.2.2.2.2.2.2.2.2.2.2.2.2.2.2.2.1) (by have z0 := p2 c1; omega) (Int.not_le.mp c1) ((vup_r (by omega)).trans rfl)).trans ?_
    refine (rn_iload (pc := 93) (dd bX13_breaksLayers dX13_breaksLayers_93) rfl).trans ?_
    have e5 : vrun mX13_breaksLayers 95 [(1, 282), (0, x1), (0, x2), (0, x3), (0, (if h 2 294 x3 = x1 ∧ ¬ (h 2 295 x3 < x2) then 1 else 0)), v5] [(0, (if h 2 294 x3 = x1 ∧ ¬ (h 2 295 x3 < x2) then 1 else 0)), (0, h 2 295 x3), (0, x3), (1, 295)] (vup h 2 296 x3 (if h 2 294 x3 = x1 ∧ ¬ (h 2 295 x3 < x2) then h 2 296 x3 - x2 else (if h 2 294 x3 = x1 then (if x2 ≤ h 2 296 x3 then x2 else h 2 296 x3) else h 2 296 x3))) = vrun mX13_breaksLayers 103 [(1, 282), (0, x1), (0, x2), (0, x3), (0, (if h 2 294 x3 = x1 ∧ ¬ (h 2 295 x3 < x2) then 1 else 0)), v5] [(0, (if h 2 294 x3 = x1 ∧ ¬ (h 2 295 x3 < x2) then x2 else 0)), (0, h 2 295 x3), (0, x3), (1, 295)] (vup h 2 296 x3 (if h 2 294 x3 = x1 ∧ ¬ (h 2 295 x3 < x2) then h 2 296 x3 - x2 else (if h 2 294 x3 = x1 then (if x2 ≤ h 2 296 x3 then x2 else h 2 296 x3) else h 2 296 x3))) := by
      refine (rg_beq (t := 102) (pc := 95) (dd bX13_breaksLayers dX13_breaksLayers_95) rfl).trans ?_
      by_cases c6 : h 2 294 x3 = x1 ∧ ¬ (h 2 295 x3 < x2)
      · refine (if_pos c6).trans ?_
        refine (rn_iload_n (pc := 98) (dd bX13_breaksLayers dX13_breaksLayers_98) rfl).trans ?_
        refine (rn_goto (t := 103) (pc := 99) (dd bX13_breaksLayers dX13_breaksLayers_99) rfl).trans ?_
        refine Eq.trans (b := vrun mX13_breaksLayers 103 [(1, 282), (0, x1), (0, x2), (0, x3), (0, (if h 2 294 x3 = x1 ∧ ¬ (h 2 295 x3 < x2) then 1 else 0)), v5] [(0, x2), (0, h 2 295 x3), (0, x3), (1, 295)] (vup h 2 296 x3 (if h 2 294 x3 = x1 ∧ ¬ (h 2 295 x3 < x2) then h 2 296 x3 - x2 else (if h 2 294 x3 = x1 then (if x2 ≤ h 2 296 x3 then x2 else h 2 296 x3) else h 2 296 x3)))) rfl ?_
        simp only [if_pos c6]
      · refine (if_neg c6).trans ?_
        refine (rn_iconst (pc := 102) (dd bX13_breaksLayers dX13_breaksLayers_102) (by decide)).trans ?_
        refine Eq.trans (b := vrun mX13_breaksLayers 103 [(1, 282), (0, x1), (0, x2), (0, x3), (0, (if h 2 294 x3 = x1 ∧ ¬ (h 2 295 x3 < x2) then 1 else 0)), v5] [(0, 0), (0, h 2 295 x3), (0, x3), (1, 295)] (vup h 2 296 x3 (if h 2 294 x3 = x1 ∧ ¬ (h 2 295 x3 < x2) then h 2 296 x3 - x2 else (if h 2 294 x3 = x1 then (if x2 ≤ h 2 296 x3 then x2 else h 2 296 x3) else h 2 296 x3)))) rfl ?_
        simp only [if_neg c6]
    refine e5.trans ?_
    refine (rg_isub (pc := 103) (dd bX13_breaksLayers dX13_breaksLayers_103) (p5 c1) (p6 c1)).trans ?_
    refine (rg_iastore (pc := 104) (dd bX13_breaksLayers dX13_breaksLayers_104) ((vup_k (by decide)).trans s1.2.2.2.2.2.2.2.2.2.2.2.2.2.2.2.2.2.2.2.2.2.2.2.2.2.2.2.2.2.2.2.2.2.2.2.2.2.2.1) ((vup_k (by decide)).trans s1.2.2.2.2.2.2.2.2.2.2.2.2.2.2.2.2.2.2.2.2.2.2.2.2.2.2.2.2.2.2.2.2.2.2.2.2.2.2.2.1) (by have z0 := p2 c1; omega) (Int.not_le.mp c1)).trans ?_
    refine (rn_aload_n (pc := 105) (dd bX13_breaksLayers dX13_breaksLayers_105) rfl).trans ?_
    refine (rg_gf (pc := 106) (dd bX13_breaksLayers dX13_breaksLayers_106) (ci := 14) (j := 13) rfl rfl (key := 1513) rfl (kc := 34) rfl ((vup_k (by decide)).trans ((vup_k (by decide)).trans s1.1)) ((vup_k (by decide)).trans ((vup_k (by decide)).trans s1.2.2.2.2.2.2.2.2.2.2.2.2.2.2.2.2.2.2.2.2.2.2.2.2.2.2.2.2.2.2.2.2.2.2.1))).trans ?_
    refine (rn_iload_n (pc := 109) (dd bX13_breaksLayers dX13_breaksLayers_109) rfl).trans ?_
    refine (rn_dup2 (pc := 110) (dd bX13_breaksLayers dX13_breaksLayers_110) (by decide)).trans ?_
    refine (rg_iaload (pc := 111) (dd bX13_breaksLayers dX13_breaksLayers_111) ((vup_k (by decide)).trans ((vup_k (by decide)).trans s1.2.2.2.2.2.2.2.2.2.2.2.2.2.2.2.2.2.2.2.2.2.2.2.2.2.2.2.2.2.2.2.2.2.2.2.1)) ((vup_k (by decide)).trans ((vup_k (by decide)).trans s1.2.2.2.2.2.2.2.2.2.2.2.2.2.2.2.2.2.2.2.2.2.2.2.2.2.2.2.2.2.2.2.2.2.2.2.2.1)) (by have z0 := p2 c1; omega) (Int.not_le.mp c1) ((vup_r (by omega)).trans ((vup_r (by omega)).trans rfl))).trans ?_
    refine (rn_iload (pc := 112) (dd bX13_breaksLayers dX13_breaksLayers_112) rfl).trans ?_
    have e7 : vrun mX13_breaksLayers 114 [(1, 282), (0, x1), (0, x2), (0, x3), (0, (if h 2 294 x3 = x1 ∧ ¬ (h 2 295 x3 < x2) then 1 else 0)), v5] [(0, (if h 2 294 x3 = x1 ∧ ¬ (h 2 295 x3 < x2) then 1 else 0)), (0, h 2 294 x3), (0, x3), (1, 294)] (vup (vup h 2 296 x3 (if h 2 294 x3 = x1 ∧ ¬ (h 2 295 x3 < x2) then h 2 296 x3 - x2 else (if h 2 294 x3 = x1 then (if x2 ≤ h 2 296 x3 then x2 else h 2 296 x3) else h 2 296 x3))) 2 295 x3 (h 2 295 x3 - (if h 2 294 x3 = x1 ∧ ¬ (h 2 295 x3 < x2) then x2 else 0))) = vrun mX13_breaksLayers 132 [(1, 282), (0, x1), (0, x2), (0, x3), (0, (if h 2 294 x3 = x1 ∧ ¬ (h 2 295 x3 < x2) then 1 else 0)), v5] [(0, (if h 2 294 x3 = x1 ∧ ¬ (h 2 295 x3 < x2) ∨ ¬ (h 2 294 x3 ≤ x1) then 1 else 0)), (0, h 2 294 x3), (0, x3), (1, 294)] (vup (vup h 2 296 x3 (if h 2 294 x3 = x1 ∧ ¬ (h 2 295 x3 < x2) then h 2 296 x3 - x2 else (if h 2 294 x3 = x1 then (if x2 ≤ h 2 296 x3 then x2 else h 2 296 x3) else h 2 296 x3))) 2 295 x3 (h 2 295 x3 - (if h 2 294 x3 = x1 ∧ ¬ (h 2 295 x3 < x2) then x2 else 0))) := by
      refine (rg_bne (t := 127) (pc := 114) (dd bX13_breaksLayers dX13_breaksLayers_114) rfl).trans ?_
      by_cases c7 : h 2 294 x3 = x1 ∧ ¬ (h 2 295 x3 < x2)
      · refine (if_pos c7).trans ?_
        refine (rn_iconst (pc := 127) (dd bX13_breaksLayers dX13_breaksLayers_127) (by decide)).trans ?_
        refine (rn_goto (t := 132) (pc := 128) (dd bX13_breaksLayers dX13_breaksLayers_128) rfl).trans ?_
        refine Eq.trans (b := vrun mX13_breaksLayers 132 [(1, 282), (0, x1), (0, x2), (0, x3), (0, (if h 2 294 x3 = x1 ∧ ¬ (h 2 295 x3 < x2) then 1 else 0)), v5] [(0, 1), (0, h 2 294 x3), (0, x3), (1, 294)] (vup (vup h 2 296 x3 (if h 2 294 x3 = x1 ∧ ¬ (h 2 295 x3 < x2) then h 2 296 x3 - x2 else (if h 2 294 x3 = x1 then (if x2 ≤ h 2 296 x3 then x2 else h 2 296 x3) else h 2 296 x3))) 2 295 x3 (h 2 295 x3 - (if h 2 294 x3 = x1 ∧ ¬ (h 2 295 x3 < x2) then x2 else 0)))) rfl ?_
        simp only [c7, true_or, false_or, or_true, or_false, true_and, false_and, and_true, and_false, not_true_eq_false, not_false_eq_true, ne_eq, if_true, if_false, ↓reduceIte]
      · refine (if_neg c7).trans ?_
        refine (rn_aload_n (pc := 117) (dd bX13_breaksLayers dX13_breaksLayers_117) rfl).trans ?_
        refine (rg_gf (pc := 118) (dd bX13_breaksLayers dX13_breaksLayers_118) (ci := 14) (j := 13) rfl rfl (key := 1513) rfl (kc := 34) rfl ((vup_k (by decide)).trans ((vup_k (by decide)).trans s1.1)) ((vup_k (by decide)).trans ((vup_k (by decide)).trans s1.2.2.2.2.2.2.2.2.2.2.2.2.2.2.2.2.2.2.2.2.2.2.2.2.2.2.2.2.2.2.2.2.2.2.1))).trans ?_
        refine (rn_iload_n (pc := 121) (dd bX13_breaksLayers dX13_breaksLayers_121) rfl).trans ?_
        refine (rg_iaload (pc := 122) (dd bX13_breaksLayers dX13_breaksLayers_122) ((vup_k (by decide)).trans ((vup_k (by decide)).trans s1.2.2.2.2.2.2.2.2.2.2.2.2.2.2.2.2.2.2.2.2.2.2.2.2.2.2.2.2.2.2.2.2.2.2.2.1)) ((vup_k (by decide)).trans ((vup_k (by decide)).trans s1.2.2.2.2.2.2.2.2.2.2.2.2.2.2.2.2.2.2.2.2.2.2.2.2.2.2.2.2.2.2.2.2.2.2.2.2.1)) (by have z0 := p2 c1; omega) (Int.not_le.mp c1) ((vup_r (by omega)).trans ((vup_r (by omega)).trans rfl))).trans ?_
        refine (rn_iload_n (pc := 123) (dd bX13_breaksLayers dX13_breaksLayers_123) rfl).trans ?_
        have e6 : vrun mX13_breaksLayers 124 [(1, 282), (0, x1), (0, x2), (0, x3), (0, (if h 2 294 x3 = x1 ∧ ¬ (h 2 295 x3 < x2) then 1 else 0)), v5] [(0, x1), (0, h 2 294 x3), (0, h 2 294 x3), (0, x3), (1, 294)] (vup (vup h 2 296 x3 (if h 2 294 x3 = x1 ∧ ¬ (h 2 295 x3 < x2) then h 2 296 x3 - x2 else (if h 2 294 x3 = x1 then (if x2 ≤ h 2 296 x3 then x2 else h 2 296 x3) else h 2 296 x3))) 2 295 x3 (h 2 295 x3 - (if h 2 294 x3 = x1 ∧ ¬ (h 2 295 x3 < x2) then x2 else 0))) = vrun mX13_breaksLayers 132 [(1, 282), (0, x1), (0, x2), (0, x3), (0, (if h 2 294 x3 = x1 ∧ ¬ (h 2 295 x3 < x2) then 1 else 0)), v5] [(0, (if ¬ (h 2 294 x3 ≤ x1) then 1 else 0)), (0, h 2 294 x3), (0, x3), (1, 294)] (vup (vup h 2 296 x3 (if h 2 294 x3 = x1 ∧ ¬ (h 2 295 x3 < x2) then h 2 296 x3 - x2 else (if h 2 294 x3 = x1 then (if x2 ≤ h 2 296 x3 then x2 else h 2 296 x3) else h 2 296 x3))) 2 295 x3 (h 2 295 x3 - (if h 2 294 x3 = x1 ∧ ¬ (h 2 295 x3 < x2) then x2 else 0))) := by
          refine (rn_icmp_le (t := 131) (pc := 124) (dd bX13_breaksLayers dX13_breaksLayers_124) rfl).trans ?_
          by_cases c8 : h 2 294 x3 ≤ x1
          · refine (if_pos c8).trans ?_
            refine (rn_iconst (pc := 131) (dd bX13_breaksLayers dX13_breaksLayers_131) (by decide)).trans ?_
            refine Eq.trans (b := vrun mX13_breaksLayers 132 [(1, 282), (0, x1), (0, x2), (0, x3), (0, (if h 2 294 x3 = x1 ∧ ¬ (h 2 295 x3 < x2) then 1 else 0)), v5] [(0, 0), (0, h 2 294 x3), (0, x3), (1, 294)] (vup (vup h 2 296 x3 (if h 2 294 x3 = x1 ∧ ¬ (h 2 295 x3 < x2) then h 2 296 x3 - x2 else (if h 2 294 x3 = x1 then (if x2 ≤ h 2 296 x3 then x2 else h 2 296 x3) else h 2 296 x3))) 2 295 x3 (h 2 295 x3 - (if h 2 294 x3 = x1 ∧ ¬ (h 2 295 x3 < x2) then x2 else 0)))) rfl ?_
            simp only [c8, true_or, false_or, or_true, or_false, true_and, false_and, and_true, and_false, not_true_eq_false, not_false_eq_true, ne_eq, if_true, if_false, ↓reduceIte]
          · refine (if_neg c8).trans ?_
            refine (rn_iconst (pc := 127) (dd bX13_breaksLayers dX13_breaksLayers_127) (by decide)).trans ?_
            refine (rn_goto (t := 132) (pc := 128) (dd bX13_breaksLayers dX13_breaksLayers_128) rfl).trans ?_
            refine Eq.trans (b := vrun mX13_breaksLayers 132 [(1, 282), (0, x1), (0, x2), (0, x3), (0, (if h 2 294 x3 = x1 ∧ ¬ (h 2 295 x3 < x2) then 1 else 0)), v5] [(0, 1), (0, h 2 294 x3), (0, x3), (1, 294)] (vup (vup h 2 296 x3 (if h 2 294 x3 = x1 ∧ ¬ (h 2 295 x3 < x2) then h 2 296 x3 - x2 else (if h 2 294 x3 = x1 then (if x2 ≤ h 2 296 x3 then x2 else h 2 296 x3) else h 2 296 x3))) 2 295 x3 (h 2 295 x3 - (if h 2 294 x3 = x1 ∧ ¬ (h 2 295 x3 < x2) then x2 else 0)))) rfl ?_
            simp only [c8, true_or, false_or, or_true, or_false, true_and, false_and, and_true, and_false, not_true_eq_false, not_false_eq_true, ne_eq, if_true, if_false, ↓reduceIte]
        refine e6.trans ?_
        refine Eq.trans (b := vrun mX13_breaksLayers 132 [(1, 282), (0, x1), (0, x2), (0, x3), (0, (if h 2 294 x3 = x1 ∧ ¬ (h 2 295 x3 < x2) then 1 else 0)), v5] [(0, (if ¬ (h 2 294 x3 ≤ x1) then 1 else 0)), (0, h 2 294 x3), (0, x3), (1, 294)] (vup (vup h 2 296 x3 (if h 2 294 x3 = x1 ∧ ¬ (h 2 295 x3 < x2) then h 2 296 x3 - x2 else (if h 2 294 x3 = x1 then (if x2 ≤ h 2 296 x3 then x2 else h 2 296 x3) else h 2 296 x3))) 2 295 x3 (h 2 295 x3 - (if h 2 294 x3 = x1 ∧ ¬ (h 2 295 x3 < x2) then x2 else 0)))) rfl ?_
        simp only [c7, true_or, false_or, or_true, or_false, true_and, false_and, and_true, and_false, not_true_eq_false, not_false_eq_true, ne_eq, if_true, if_false, ↓reduceIte]
    refine e7.trans ?_
    refine (rg_iadd (pc := 132) (dd bX13_breaksLayers dX13_breaksLayers_132) (p7 c1) (p8 c1)).trans ?_
    refine (rg_iastore (pc := 133) (dd bX13_breaksLayers dX13_breaksLayers_133) ((vup_k (by decide)).trans ((vup_k (by decide)).trans s1.2.2.2.2.2.2.2.2.2.2.2.2.2.2.2.2.2.2.2.2.2.2.2.2.2.2.2.2.2.2.2.2.2.2.2.1)) ((vup_k (by decide)).trans ((vup_k (by decide)).trans s1.2.2.2.2.2.2.2.2.2.2.2.2.2.2.2.2.2.2.2.2.2.2.2.2.2.2.2.2.2.2.2.2.2.2.2.2.1)) (by have z0 := p2 c1; omega) (Int.not_le.mp c1)).trans ?_
    refine (rn_aload_n (pc := 134) (dd bX13_breaksLayers dX13_breaksLayers_134) rfl).trans ?_
    refine (rg_gf (pc := 135) (dd bX13_breaksLayers dX13_breaksLayers_135) (ci := 14) (j := 17) rfl rfl (key := 1517) rfl (kc := 34) rfl ((vup_k (by decide)).trans ((vup_k (by decide)).trans ((vup_k (by decide)).trans s1.1))) ((vup_k (by decide)).trans ((vup_k (by decide)).trans ((vup_k (by decide)).trans s1.2.2.2.2.2.2.2.2.2.2.2.2.2.2.2.2.2.2.2.2.2.2.2.2.2.2.2.2.2.2.2.2.2.2.2.2.2.2.2.2.2.2.2.2.2.2.1)))).trans ?_
    refine (rn_iload_n (pc := 138) (dd bX13_breaksLayers dX13_breaksLayers_138) rfl).trans ?_
    refine (rg_iaload (pc := 139) (dd bX13_breaksLayers dX13_breaksLayers_139) ((vup_k (by decide)).trans ((vup_k (by decide)).trans ((vup_k (by decide)).trans s1.2.2.2.2.2.2.2.2.2.2.2.2.2.2.2.2.2.2.2.2.2.2.2.2.2.2.2.2.2.2.2.2.2.2.2.2.2.2.2.2.2.2.2.2.2.2.2.1))) ((vup_k (by decide)).trans ((vup_k (by decide)).trans ((vup_k (by decide)).trans s1.2.2.2.2.2.2.2.2.2.2.2.2.2.2.2.2.2.2.2.2.2.2.2.2.2.2.2.2.2.2.2.2.2.2.2.2.2.2.2.2.2.2.2.2.2.2.2.2.1))) (by have z0 := p2 c1; omega) (Int.not_le.mp c1) ((vup_r (by omega)).trans ((vup_r (by omega)).trans ((vup_r (by omega)).trans rfl)))).trans ?_
    refine (rn_aload_n (pc := 140) (dd bX13_breaksLayers dX13_breaksLayers_140) rfl).trans ?_
    refine (rg_gf (pc := 141) (dd bX13_breaksLayers dX13_breaksLayers_141) (ci := 14) (j := 18) rfl rfl (key := 1518) rfl (kc := 34) rfl ((vup_k (by decide)).trans ((vup_k (by decide)).trans ((vup_k (by decide)).trans s1.1))) ((vup_k (by decide)).trans ((vup_k (by decide)).trans ((vup_k (by decide)).trans s1.2.2.2.2.2.2.2.2.2.2.2.2.2.2.2.2.2.2.2.2.2.2.2.2.2.2.2.2.2.2.2.2.2.2.2.2.2.2.2.2.2.2.2.2.2.2.2.2.2.1)))).trans ?_
    refine (rn_iload_n (pc := 144) (dd bX13_breaksLayers dX13_breaksLayers_144) rfl).trans ?_
    refine (rg_iaload (pc := 145) (dd bX13_breaksLayers dX13_breaksLayers_145) ((vup_k (by decide)).trans ((vup_k (by decide)).trans ((vup_k (by decide)).trans s1.2.2.2.2.2.2.2.2.2.2.2.2.2.2.2.2.2.2.2.2.2.2.2.2.2.2.2.2.2.2.2.2.2.2.2.2.2.2.2.2.2.2.2.2.2.2.2.2.2.2.1))) ((vup_k (by decide)).trans ((vup_k (by decide)).trans ((vup_k (by decide)).trans s1.2.2.2.2.2.2.2.2.2.2.2.2.2.2.2.2.2.2.2.2.2.2.2.2.2.2.2.2.2.2.2.2.2.2.2.2.2.2.2.2.2.2.2.2.2.2.2.2.2.2.2.1))) (by have z0 := p2 c1; omega) (Int.not_le.mp c1) ((vup_r (by omega)).trans ((vup_r (by omega)).trans ((vup_r (by omega)).trans rfl)))).trans ?_
    refine (rn_iload_n (pc := 146) (dd bX13_breaksLayers dX13_breaksLayers_146) rfl).trans ?_
    refine (rn_iload_n (pc := 147) (dd bX13_breaksLayers dX13_breaksLayers_147) rfl).trans ?_
    refine (rg_static (pc := 148) (dd bX13_breaksLayers dX13_breaksLayers_148) rfl (by decide) (Nat.le_of_ble_eq_true rfl) (as := [(0, h 2 298 x3), (0, h 2 299 x3), (0, x1), (0, x2)]) rfl rfl ⟨Nat.le_of_ble_eq_true rfl, Nat.le_of_ble_eq_true rfl, Nat.le_of_ble_eq_true rfl, Nat.le_of_ble_eq_true rfl⟩).trans ?_
    refine (vret_v spX13_later).trans ?_
    refine (rn_istore (pc := 151) (dd bX13_breaksLayers dX13_breaksLayers_151) (Nat.le_of_ble_eq_true rfl) rfl).trans ?_
    refine (rn_aload_n (pc := 153) (dd bX13_breaksLayers dX13_breaksLayers_153) rfl).trans ?_
    refine (rg_gf (pc := 154) (dd bX13_breaksLayers dX13_breaksLayers_154) (ci := 14) (j := 18) rfl rfl (key := 1518) rfl (kc := 34) rfl ((vup_k (by decide)).trans ((vup_k (by decide)).trans ((vup_k (by decide)).trans s1.1))) ((vup_k (by decide)).trans ((vup_k (by decide)).trans ((vup_k (by decide)).trans s1.2.2.2.2.2.2.2.2.2.2.2.2.2.2.2.2.2.2.2.2.2.2.2.2.2.2.2.2.2.2.2.2.2.2.2.2.2.2.2.2.2.2.2.2.2.2.2.2.2.1)))).trans ?_
    refine (rn_iload_n (pc := 157) (dd bX13_breaksLayers dX13_breaksLayers_157) rfl).trans ?_
    refine (rn_dup2 (pc := 158) (dd bX13_breaksLayers dX13_breaksLayers_158) (by decide)).trans ?_
    refine (rg_iaload (pc := 159) (dd bX13_breaksLayers dX13_breaksLayers_159) ((vup_k (by decide)).trans ((vup_k (by decide)).trans ((vup_k (by decide)).trans s1.2.2.2.2.2.2.2.2.2.2.2.2.2.2.2.2.2.2.2.2.2.2.2.2.2.2.2.2.2.2.2.2.2.2.2.2.2.2.2.2.2.2.2.2.2.2.2.2.2.2.1))) ((vup_k (by decide)).trans ((vup_k (by decide)).trans ((vup_k (by decide)).trans s1.2.2.2.2.2.2.2.2.2.2.2.2.2.2.2.2.2.2.2.2.2.2.2.2.2.2.2.2.2.2.2.2.2.2.2.2.2.2.2.2.2.2.2.2.2.2.2.2.2.2.2.1))) (by have z0 := p2 c1; omega) (Int.not_le.mp c1) ((vup_r (by omega)).trans ((vup_r (by omega)).trans ((vup_r (by omega)).trans rfl)))).trans ?_
    refine (rn_aload_n (pc := 160) (dd bX13_breaksLayers dX13_breaksLayers_160) rfl).trans ?_
    refine (rg_gf (pc := 161) (dd bX13_breaksLayers dX13_breaksLayers_161) (ci := 14) (j := 17) rfl rfl (key := 1517) rfl (kc := 34) rfl ((vup_k (by decide)).trans ((vup_k (by decide)).trans ((vup_k (by decide)).trans s1.1))) ((vup_k (by decide)).trans ((vup_k (by decide)).trans ((vup_k (by decide)).trans s1.2.2.2.2.2.2.2.2.2.2.2.2.2.2.2.2.2.2.2.2.2.2.2.2.2.2.2.2.2.2.2.2.2.2.2.2.2.2.2.2.2.2.2.2.2.2.1)))).trans ?_
    refine (rn_iload_n (pc := 164) (dd bX13_breaksLayers dX13_breaksLayers_164) rfl).trans ?_
    refine (rg_iaload (pc := 165) (dd bX13_breaksLayers dX13_breaksLayers_165) ((vup_k (by decide)).trans ((vup_k (by decide)).trans ((vup_k (by decide)).trans s1.2.2.2.2.2.2.2.2.2.2.2.2.2.2.2.2.2.2.2.2.2.2.2.2.2.2.2.2.2.2.2.2.2.2.2.2.2.2.2.2.2.2.2.2.2.2.2.1))) ((vup_k (by decide)).trans ((vup_k (by decide)).trans ((vup_k (by decide)).trans s1.2.2.2.2.2.2.2.2.2.2.2.2.2.2.2.2.2.2.2.2.2.2.2.2.2.2.2.2.2.2.2.2.2.2.2.2.2.2.2.2.2.2.2.2.2.2.2.2.1))) (by have z0 := p2 c1; omega) (Int.not_le.mp c1) ((vup_r (by omega)).trans ((vup_r (by omega)).trans ((vup_r (by omega)).trans rfl)))).trans ?_
    refine (rn_iload_n (pc := 166) (dd bX13_breaksLayers dX13_breaksLayers_166) rfl).trans ?_
    have e9 : vrun mX13_breaksLayers 167 [(1, 282), (0, x1), (0, x2), (0, x3), (0, (if h 2 294 x3 = x1 ∧ ¬ (h 2 295 x3 < x2) then 1 else 0)), (0, fX13_later (vup (vup (vup h 2 296 x3 (if h 2 294 x3 = x1 ∧ ¬ (h 2 295 x3 < x2) then h 2 296 x3 - x2 else (if h 2 294 x3 = x1 then (if x2 ≤ h 2 296 x3 then x2 else h 2 296 x3) else h 2 296 x3))) 2 295 x3 (h 2 295 x3 - (if h 2 294 x3 = x1 ∧ ¬ (h 2 295 x3 < x2) then x2 else 0))) 2 294 x3 (h 2 294 x3 + (if h 2 294 x3 = x1 ∧ ¬ (h 2 295 x3 < x2) ∨ ¬ (h 2 294 x3 ≤ x1) then 1 else 0))) (h 2 298 x3) (h 2 299 x3) x1 x2)] [(0, x1), (0, h 2 298 x3), (0, h 2 299 x3), (0, x3), (1, 299)] (vup (vup (vup h 2 296 x3 (if h 2 294 x3 = x1 ∧ ¬ (h 2 295 x3 < x2) then h 2 296 x3 - x2 else (if h 2 294 x3 = x1 then (if x2 ≤ h 2 296 x3 then x2 else h 2 296 x3) else h 2 296 x3))) 2 295 x3 (h 2 295 x3 - (if h 2 294 x3 = x1 ∧ ¬ (h 2 295 x3 < x2) then x2 else 0))) 2 294 x3 (h 2 294 x3 + (if h 2 294 x3 = x1 ∧ ¬ (h 2 295 x3 < x2) ∨ ¬ (h 2 294 x3 ≤ x1) then 1 else 0))) = vrun mX13_breaksLayers 180 [(1, 282), (0, x1), (0, x2), (0, x3), (0, (if h 2 294 x3 = x1 ∧ ¬ (h 2 295 x3 < x2) then 1 else 0)), (0, fX13_later (vup (vup (vup h 2 296 x3 (if h 2 294 x3 = x1 ∧ ¬ (h 2 295 x3 < x2) then h 2 296 x3 - x2 else (if h 2 294 x3 = x1 then (if x2 ≤ h 2 296 x3 then x2 else h 2 296 x3) else h 2 296 x3))) 2 295 x3 (h 2 295 x3 - (if h 2 294 x3 = x1 ∧ ¬ (h 2 295 x3 < x2) then x2 else 0))) 2 294 x3 (h 2 294 x3 + (if h 2 294 x3 = x1 ∧ ¬ (h 2 295 x3 < x2) ∨ ¬ (h 2 294 x3 ≤ x1) then 1 else 0))) (h 2 298 x3) (h 2 299 x3) x1 x2)] [(0, (if h 2 298 x3 = x1 then (if fX13_later (vup (vup (vup h 2 296 x3 (if h 2 294 x3 = x1 ∧ ¬ (h 2 295 x3 < x2) then h 2 296 x3 - x2 else (if h 2 294 x3 = x1 then (if x2 ≤ h 2 296 x3 then x2 else h 2 296 x3) else h 2 296 x3))) 2 295 x3 (h 2 295 x3 - (if h 2 294 x3 = x1 ∧ ¬ (h 2 295 x3 < x2) then x2 else 0))) 2 294 x3 (h 2 294 x3 + (if h 2 294 x3 = x1 ∧ ¬ (h 2 295 x3 < x2) ∨ ¬ (h 2 294 x3 ≤ x1) then 1 else 0))) (h 2 298 x3) (h 2 299 x3) x1 x2 ≤ 0 then 0 else x2) else 0)), (0, h 2 299 x3), (0, x3), (1, 299)] (vup (vup (vup h 2 296 x3 (if h 2 294 x3 = x1 ∧ ¬ (h 2 295 x3 < x2) then h 2 296 x3 - x2 else (if h 2 294 x3 = x1 then (if x2 ≤ h 2 296 x3 then x2 else h 2 296 x3) else h 2 296 x3))) 2 295 x3 (h 2 295 x3 - (if h 2 294 x3 = x1 ∧ ¬ (h 2 295 x3 < x2) then x2 else 0))) 2 294 x3 (h 2 294 x3 + (if h 2 294 x3 = x1 ∧ ¬ (h 2 295 x3 < x2) ∨ ¬ (h 2 294 x3 ≤ x1) then 1 else 0))) := by
      refine (rg_icmp_ne (t := 179) (pc := 167) (dd bX13_breaksLayers dX13_breaksLayers_167) rfl).trans ?_
      by_cases c9 : h 2 298 x3 = x1
      · refine (if_pos c9).trans ?_
        refine (rn_iload (pc := 170) (dd bX13_breaksLayers dX13_breaksLayers_170) rfl).trans ?_
        have e8 : vrun mX13_breaksLayers 172 [(1, 282), (0, x1), (0, x2), (0, x3), (0, (if h 2 294 x3 = x1 ∧ ¬ (h 2 295 x3 < x2) then 1 else 0)), (0, fX13_later (vup (vup (vup h 2 296 x3 (if h 2 294 x3 = x1 ∧ ¬ (h 2 295 x3 < x2) then h 2 296 x3 - x2 else (if h 2 294 x3 = x1 then (if x2 ≤ h 2 296 x3 then x2 else h 2 296 x3) else h 2 296 x3))) 2 295 x3 (h 2 295 x3 - (if h 2 294 x3 = x1 ∧ ¬ (h 2 295 x3 < x2) then x2 else 0))) 2 294 x3 (h 2 294 x3 + (if h 2 294 x3 = x1 ∧ ¬ (h 2 295 x3 < x2) ∨ ¬ (h 2 294 x3 ≤ x1) then 1 else 0))) (h 2 298 x3) (h 2 299 x3) x1 x2)] [(0, fX13_later (vup (vup (vup h 2 296 x3 (if h 2 294 x3 = x1 ∧ ¬ (h 2 295 x3 < x2) then h 2 296 x3 - x2 else (if h 2 294 x3 = x1 then (if x2 ≤ h 2 296 x3 then x2 else h 2 296 x3) else h 2 296 x3))) 2 295 x3 (h 2 295 x3 - (if h 2 294 x3 = x1 ∧ ¬ (h 2 295 x3 < x2) then x2 else 0))) 2 294 x3 (h 2 294 x3 + (if h 2 294 x3 = x1 ∧ ¬ (h 2 295 x3 < x2) ∨ ¬ (h 2 294 x3 ≤ x1) then 1 else 0))) (h 2 298 x3) (h 2 299 x3) x1 x2), (0, h 2 299 x3), (0, x3), (1, 299)] (vup (vup (vup h 2 296 x3 (if h 2 294 x3 = x1 ∧ ¬ (h 2 295 x3 < x2) then h 2 296 x3 - x2 else (if h 2 294 x3 = x1 then (if x2 ≤ h 2 296 x3 then x2 else h 2 296 x3) else h 2 296 x3))) 2 295 x3 (h 2 295 x3 - (if h 2 294 x3 = x1 ∧ ¬ (h 2 295 x3 < x2) then x2 else 0))) 2 294 x3 (h 2 294 x3 + (if h 2 294 x3 = x1 ∧ ¬ (h 2 295 x3 < x2) ∨ ¬ (h 2 294 x3 ≤ x1) then 1 else 0))) = vrun mX13_breaksLayers 180 [(1, 282), (0, x1), (0, x2), (0, x3), (0, (if h 2 294 x3 = x1 ∧ ¬ (h 2 295 x3 < x2) then 1 else 0)), (0, fX13_later (vup (vup (vup h 2 296 x3 (if h 2 294 x3 = x1 ∧ ¬ (h 2 295 x3 < x2) then h 2 296 x3 - x2 else (if h 2 294 x3 = x1 then (if x2 ≤ h 2 296 x3 then x2 else h 2 296 x3) else h 2 296 x3))) 2 295 x3 (h 2 295 x3 - (if h 2 294 x3 = x1 ∧ ¬ (h 2 295 x3 < x2) then x2 else 0))) 2 294 x3 (h 2 294 x3 + (if h 2 294 x3 = x1 ∧ ¬ (h 2 295 x3 < x2) ∨ ¬ (h 2 294 x3 ≤ x1) then 1 else 0))) (h 2 298 x3) (h 2 299 x3) x1 x2)] [(0, (if fX13_later (vup (vup (vup h 2 296 x3 (if h 2 294 x3 = x1 ∧ ¬ (h 2 295 x3 < x2) then h 2 296 x3 - x2 else (if h 2 294 x3 = x1 then (if x2 ≤ h 2 296 x3 then x2 else h 2 296 x3) else h 2 296 x3))) 2 295 x3 (h 2 295 x3 - (if h 2 294 x3 = x1 ∧ ¬ (h 2 295 x3 < x2) then x2 else 0))) 2 294 x3 (h 2 294 x3 + (if h 2 294 x3 = x1 ∧ ¬ (h 2 295 x3 < x2) ∨ ¬ (h 2 294 x3 ≤ x1) then 1 else 0))) (h 2 298 x3) (h 2 299 x3) x1 x2 ≤ 0 then 0 else x2)), (0, h 2 299 x3), (0, x3), (1, 299)] (vup (vup (vup h 2 296 x3 (if h 2 294 x3 = x1 ∧ ¬ (h 2 295 x3 < x2) then h 2 296 x3 - x2 else (if h 2 294 x3 = x1 then (if x2 ≤ h 2 296 x3 then x2 else h 2 296 x3) else h 2 296 x3))) 2 295 x3 (h 2 295 x3 - (if h 2 294 x3 = x1 ∧ ¬ (h 2 295 x3 < x2) then x2 else 0))) 2 294 x3 (h 2 294 x3 + (if h 2 294 x3 = x1 ∧ ¬ (h 2 295 x3 < x2) ∨ ¬ (h 2 294 x3 ≤ x1) then 1 else 0))) := by
          refine (rn_if_le (t := 179) (pc := 172) (dd bX13_breaksLayers dX13_breaksLayers_172) rfl).trans ?_
          by_cases c10 : fX13_later (vup (vup (vup h 2 296 x3 (if h 2 294 x3 = x1 ∧ ¬ (h 2 295 x3 < x2) then h 2 296 x3 - x2 else (if h 2 294 x3 = x1 then (if x2 ≤ h 2 296 x3 then x2 else h 2 296 x3) else h 2 296 x3))) 2 295 x3 (h 2 295 x3 - (if h 2 294 x3 = x1 ∧ ¬ (h 2 295 x3 < x2) then x2 else 0))) 2 294 x3 (h 2 294 x3 + (if h 2 294 x3 = x1 ∧ ¬ (h 2 295 x3 < x2) ∨ ¬ (h 2 294 x3 ≤ x1) then 1 else 0))) (h 2 298 x3) (h 2 299 x3) x1 x2 ≤ 0
          · refine (if_pos c10).trans ?_
            refine (rn_iconst (pc := 179) (dd bX13_breaksLayers dX13_breaksLayers_179) (by decide)).trans ?_
            refine Eq.trans (b := vrun mX13_breaksLayers 180 [(1, 282), (0, x1), (0, x2), (0, x3), (0, (if h 2 294 x3 = x1 ∧ ¬ (h 2 295 x3 < x2) then 1 else 0)), (0, fX13_later (vup (vup (vup h 2 296 x3 (if h 2 294 x3 = x1 ∧ ¬ (h 2 295 x3 < x2) then h 2 296 x3 - x2 else (if h 2 294 x3 = x1 then (if x2 ≤ h 2 296 x3 then x2 else h 2 296 x3) else h 2 296 x3))) 2 295 x3 (h 2 295 x3 - (if h 2 294 x3 = x1 ∧ ¬ (h 2 295 x3 < x2) then x2 else 0))) 2 294 x3 (h 2 294 x3 + (if h 2 294 x3 = x1 ∧ ¬ (h 2 295 x3 < x2) ∨ ¬ (h 2 294 x3 ≤ x1) then 1 else 0))) (h 2 298 x3) (h 2 299 x3) x1 x2)] [(0, 0), (0, h 2 299 x3), (0, x3), (1, 299)] (vup (vup (vup h 2 296 x3 (if h 2 294 x3 = x1 ∧ ¬ (h 2 295 x3 < x2) then h 2 296 x3 - x2 else (if h 2 294 x3 = x1 then (if x2 ≤ h 2 296 x3 then x2 else h 2 296 x3) else h 2 296 x3))) 2 295 x3 (h 2 295 x3 - (if h 2 294 x3 = x1 ∧ ¬ (h 2 295 x3 < x2) then x2 else 0))) 2 294 x3 (h 2 294 x3 + (if h 2 294 x3 = x1 ∧ ¬ (h 2 295 x3 < x2) ∨ ¬ (h 2 294 x3 ≤ x1) then 1 else 0)))) rfl ?_
            simp only [if_pos c10]
          · refine (if_neg c10).trans ?_
            refine (rn_iload_n (pc := 175) (dd bX13_breaksLayers dX13_breaksLayers_175) rfl).trans ?_
            refine (rn_goto (t := 180) (pc := 176) (dd bX13_breaksLayers dX13_breaksLayers_176) rfl).trans ?_
            refine Eq.trans (b := vrun mX13_breaksLayers 180 [(1, 282), (0, x1), (0, x2), (0, x3), (0, (if h 2 294 x3 = x1 ∧ ¬ (h 2 295 x3 < x2) then 1 else 0)), (0, fX13_later (vup (vup (vup h 2 296 x3 (if h 2 294 x3 = x1 ∧ ¬ (h 2 295 x3 < x2) then h 2 296 x3 - x2 else (if h 2 294 x3 = x1 then (if x2 ≤ h 2 296 x3 then x2 else h 2 296 x3) else h 2 296 x3))) 2 295 x3 (h 2 295 x3 - (if h 2 294 x3 = x1 ∧ ¬ (h 2 295 x3 < x2) then x2 else 0))) 2 294 x3 (h 2 294 x3 + (if h 2 294 x3 = x1 ∧ ¬ (h 2 295 x3 < x2) ∨ ¬ (h 2 294 x3 ≤ x1) then 1 else 0))) (h 2 298 x3) (h 2 299 x3) x1 x2)] [(0, x2), (0, h 2 299 x3), (0, x3), (1, 299)] (vup (vup (vup h 2 296 x3 (if h 2 294 x3 = x1 ∧ ¬ (h 2 295 x3 < x2) then h 2 296 x3 - x2 else (if h 2 294 x3 = x1 then (if x2 ≤ h 2 296 x3 then x2 else h 2 296 x3) else h 2 296 x3))) 2 295 x3 (h 2 295 x3 - (if h 2 294 x3 = x1 ∧ ¬ (h 2 295 x3 < x2) then x2 else 0))) 2 294 x3 (h 2 294 x3 + (if h 2 294 x3 = x1 ∧ ¬ (h 2 295 x3 < x2) ∨ ¬ (h 2 294 x3 ≤ x1) then 1 else 0)))) rfl ?_
            simp only [if_neg c10]
        refine e8.trans ?_
        refine Eq.trans (b := vrun mX13_breaksLayers 180 [(1, 282), (0, x1), (0, x2), (0, x3), (0, (if h 2 294 x3 = x1 ∧ ¬ (h 2 295 x3 < x2) then 1 else 0)), (0, fX13_later (vup (vup (vup h 2 296 x3 (if h 2 294 x3 = x1 ∧ ¬ (h 2 295 x3 < x2) then h 2 296 x3 - x2 else (if h 2 294 x3 = x1 then (if x2 ≤ h 2 296 x3 then x2 else h 2 296 x3) else h 2 296 x3))) 2 295 x3 (h 2 295 x3 - (if h 2 294 x3 = x1 ∧ ¬ (h 2 295 x3 < x2) then x2 else 0))) 2 294 x3 (h 2 294 x3 + (if h 2 294 x3 = x1 ∧ ¬ (h 2 295 x3 < x2) ∨ ¬ (h 2 294 x3 ≤ x1) then 1 else 0))) (h 2 298 x3) (h 2 299 x3) x1 x2)] [(0, (if fX13_later (vup (vup (vup h 2 296 x3 (if h 2 294 x3 = x1 ∧ ¬ (h 2 295 x3 < x2) then h 2 296 x3 - x2 else (if h 2 294 x3 = x1 then (if x2 ≤ h 2 296 x3 then x2 else h 2 296 x3) else h 2 296 x3))) 2 295 x3 (h 2 295 x3 - (if h 2 294 x3 = x1 ∧ ¬ (h 2 295 x3 < x2) then x2 else 0))) 2 294 x3 (h 2 294 x3 + (if h 2 294 x3 = x1 ∧ ¬ (h 2 295 x3 < x2) ∨ ¬ (h 2 294 x3 ≤ x1) then 1 else 0))) (h 2 298 x3) (h 2 299 x3) x1 x2 ≤ 0 then 0 else x2)), (0, h 2 299 x3), (0, x3), (1, 299)] (vup (vup (vup h 2 296 x3 (if h 2 294 x3 = x1 ∧ ¬ (h 2 295 x3 < x2) then h 2 296 x3 - x2 else (if h 2 294 x3 = x1 then (if x2 ≤ h 2 296 x3 then x2 else h 2 296 x3) else h 2 296 x3))) 2 295 x3 (h 2 295 x3 - (if h 2 294 x3 = x1 ∧ ¬ (h 2 295 x3 < x2) then x2 else 0))) 2 294 x3 (h 2 294 x3 + (if h 2 294 x3 = x1 ∧ ¬ (h 2 295 x3 < x2) ∨ ¬ (h 2 294 x3 ≤ x1) then 1 else 0)))) rfl ?_
        simp only [if_pos c9]
      · refine (if_neg c9).trans ?_
        refine (rn_iconst (pc := 179) (dd bX13_breaksLayers dX13_breaksLayers_179) (by decide)).trans ?_
        refine Eq.trans (b := vrun mX13_breaksLayers 180 [(1, 282), (0, x1), (0, x2), (0, x3), (0, (if h 2 294 x3 = x1 ∧ ¬ (h 2 295 x3 < x2) then 1 else 0)), (0, fX13_later (vup (vup (vup h 2 296 x3 (if h 2 294 x3 = x1 ∧ ¬ (h 2 295 x3 < x2) then h 2 296 x3 - x2 else (if h 2 294 x3 = x1 then (if x2 ≤ h 2 296 x3 then x2 else h 2 296 x3) else h 2 296 x3))) 2 295 x3 (h 2 295 x3 - (if h 2 294 x3 = x1 ∧ ¬ (h 2 295 x3 < x2) then x2 else 0))) 2 294 x3 (h 2 294 x3 + (if h 2 294 x3 = x1 ∧ ¬ (h 2 295 x3 < x2) ∨ ¬ (h 2 294 x3 ≤ x1) then 1 else 0))) (h 2 298 x3) (h 2 299 x3) x1 x2)] [(0, 0), (0, h 2 299 x3), (0, x3), (1, 299)] (vup (vup (vup h 2 296 x3 (if h 2 294 x3 = x1 ∧ ¬ (h 2 295 x3 < x2) then h 2 296 x3 - x2 else (if h 2 294 x3 = x1 then (if x2 ≤ h 2 296 x3 then x2 else h 2 296 x3) else h 2 296 x3))) 2 295 x3 (h 2 295 x3 - (if h 2 294 x3 = x1 ∧ ¬ (h 2 295 x3 < x2) then x2 else 0))) 2 294 x3 (h 2 294 x3 + (if h 2 294 x3 = x1 ∧ ¬ (h 2 295 x3 < x2) ∨ ¬ (h 2 294 x3 ≤ x1) then 1 else 0)))) rfl ?_
        simp only [if_neg c9]
    refine e9.trans ?_
    refine (rg_isub (pc := 180) (dd bX13_breaksLayers dX13_breaksLayers_180) (p9 c1) (p10 c1)).trans ?_
    refine (rg_iastore (pc := 181) (dd bX13_breaksLayers dX13_breaksLayers_181) ((vup_k (by decide)).trans ((vup_k (by decide)).trans ((vup_k (by decide)).trans s1.2.2.2.2.2.2.2.2.2.2.2.2.2.2.2.2.2.2.2.2.2.2.2.2.2.2.2.2.2.2.2.2.2.2.2.2.2.2.2.2.2.2.2.2.2.2.2.2.2.2.1))) ((vup_k (by decide)).trans ((vup_k (by decide)).trans ((vup_k (by decide)).trans s1.2.2.2.2.2.2.2.2.2.2.2.2.2.2.2.2.2.2.2.2.2.2.2.2.2.2.2.2.2.2.2.2.2.2.2.2.2.2.2.2.2.2.2.2.2.2.2.2.2.2.2.1))) (by have z0 := p2 c1; omega) (Int.not_le.mp c1)).trans ?_
    refine (rn_aload_n (pc := 182) (dd bX13_breaksLayers dX13_breaksLayers_182) rfl).trans ?_
    refine (rg_gf (pc := 183) (dd bX13_breaksLayers dX13_breaksLayers_183) (ci := 14) (j := 17) rfl rfl (key := 1517) rfl (kc := 34) rfl ((vup_k (by decide)).trans ((vup_k (by decide)).trans ((vup_k (by decide)).trans ((vup_k (by decide)).trans s1.1)))) ((vup_k (by decide)).trans ((vup_k (by decide)).trans ((vup_k (by decide)).trans ((vup_k (by decide)).trans s1.2.2.2.2.2.2.2.2.2.2.2.2.2.2.2.2.2.2.2.2.2.2.2.2.2.2.2.2.2.2.2.2.2.2.2.2.2.2.2.2.2.2.2.2.2.2.1))))).trans ?_
    refine (rn_iload_n (pc := 186) (dd bX13_breaksLayers dX13_breaksLayers_186) rfl).trans ?_
    refine (rn_dup2 (pc := 187) (dd bX13_breaksLayers dX13_breaksLayers_187) (by decide)).trans ?_
    refine (rg_iaload (pc := 188) (dd bX13_breaksLayers dX13_breaksLayers_188) ((vup_k (by decide)).trans ((vup_k (by decide)).trans ((vup_k (by decide)).trans ((vup_k (by decide)).trans s1.2.2.2.2.2.2.2.2.2.2.2.2.2.2.2.2.2.2.2.2.2.2.2.2.2.2.2.2.2.2.2.2.2.2.2.2.2.2.2.2.2.2.2.2.2.2.2.1)))) ((vup_k (by decide)).trans ((vup_k (by decide)).trans ((vup_k (by decide)).trans ((vup_k (by decide)).trans s1.2.2.2.2.2.2.2.2.2.2.2.2.2.2.2.2.2.2.2.2.2.2.2.2.2.2.2.2.2.2.2.2.2.2.2.2.2.2.2.2.2.2.2.2.2.2.2.2.1)))) (by have z0 := p2 c1; omega) (Int.not_le.mp c1) ((vup_r (by omega)).trans ((vup_r (by omega)).trans ((vup_r (by omega)).trans ((vup_r (by omega)).trans rfl))))).trans ?_
    refine (rn_iload (pc := 189) (dd bX13_breaksLayers dX13_breaksLayers_189) rfl).trans ?_
    refine (rg_iadd (pc := 191) (dd bX13_breaksLayers dX13_breaksLayers_191) (p11 c1) (p12 c1)).trans ?_
    refine (rg_iastore (pc := 192) (dd bX13_breaksLayers dX13_breaksLayers_192) ((vup_k (by decide)).trans ((vup_k (by decide)).trans ((vup_k (by decide)).trans ((vup_k (by decide)).trans s1.2.2.2.2.2.2.2.2.2.2.2.2.2.2.2.2.2.2.2.2.2.2.2.2.2.2.2.2.2.2.2.2.2.2.2.2.2.2.2.2.2.2.2.2.2.2.2.1)))) ((vup_k (by decide)).trans ((vup_k (by decide)).trans ((vup_k (by decide)).trans ((vup_k (by decide)).trans s1.2.2.2.2.2.2.2.2.2.2.2.2.2.2.2.2.2.2.2.2.2.2.2.2.2.2.2.2.2.2.2.2.2.2.2.2.2.2.2.2.2.2.2.2.2.2.2.2.1)))) (by have z0 := p2 c1; omega) (Int.not_le.mp c1)).trans ?_
    refine (rn_aload_n (pc := 193) (dd bX13_breaksLayers dX13_breaksLayers_193) rfl).trans ?_
    refine (rg_gf (pc := 194) (dd bX13_breaksLayers dX13_breaksLayers_194) (ci := 14) (j := 21) rfl rfl (key := 1521) rfl (kc := 34) rfl ((vup_k (by decide)).trans ((vup_k (by decide)).trans ((vup_k (by decide)).trans ((vup_k (by decide)).trans ((vup_k (by decide)).trans s1.1))))) ((vup_k (by decide)).trans ((vup_k (by decide)).trans ((vup_k (by decide)).trans ((vup_k (by decide)).trans ((vup_k (by decide)).trans s1.2.2.2.2.2.2.2.2.2.2.2.2.2.2.2.2.2.2.2.2.2.2.2.2.2.2.2.2.2.2.2.2.2.2.2.2.2.2.2.2.2.2.2.2.2.2.2.2.2.2.2.2.2.2.2.2.2.2.1)))))).trans ?_
    refine (rn_iload_n (pc := 197) (dd bX13_breaksLayers dX13_breaksLayers_197) rfl).trans ?_
    refine (rn_dup2 (pc := 198) (dd bX13_breaksLayers dX13_breaksLayers_198) (by decide)).trans ?_
    refine (rg_iaload (pc := 199) (dd bX13_breaksLayers dX13_breaksLayers_199) ((vup_k (by decide)).trans ((vup_k (by decide)).trans ((vup_k (by decide)).trans ((vup_k (by decide)).trans ((vup_k (by decide)).trans s1.2.2.2.2.2.2.2.2.2.2.2.2.2.2.2.2.2.2.2.2.2.2.2.2.2.2.2.2.2.2.2.2.2.2.2.2.2.2.2.2.2.2.2.2.2.2.2.2.2.2.2.2.2.2.2.2.2.2.2.1))))) ((vup_k (by decide)).trans ((vup_k (by decide)).trans ((vup_k (by decide)).trans ((vup_k (by decide)).trans ((vup_k (by decide)).trans s1.2.2.2.2.2.2.2.2.2.2.2.2.2.2.2.2.2.2.2.2.2.2.2.2.2.2.2.2.2.2.2.2.2.2.2.2.2.2.2.2.2.2.2.2.2.2.2.2.2.2.2.2.2.2.2.2.2.2.2.2.1))))) (by have z0 := p2 c1; omega) (Int.not_le.mp c1) ((vup_r (by omega)).trans ((vup_r (by omega)).trans ((vup_r (by omega)).trans ((vup_r (by omega)).trans ((vup_r (by omega)).trans rfl)))))).trans ?_
    refine (rn_aload_n (pc := 200) (dd bX13_breaksLayers dX13_breaksLayers_200) rfl).trans ?_
    refine (rg_gf (pc := 201) (dd bX13_breaksLayers dX13_breaksLayers_201) (ci := 14) (j := 21) rfl rfl (key := 1521) rfl (kc := 34) rfl ((vup_k (by decide)).trans ((vup_k (by decide)).trans ((vup_k (by decide)).trans ((vup_k (by decide)).trans ((vup_k (by decide)).trans s1.1))))) ((vup_k (by decide)).trans ((vup_k (by decide)).trans ((vup_k (by decide)).trans ((vup_k (by decide)).trans ((vup_k (by decide)).trans s1.2.2.2.2.2.2.2.2.2.2.2.2.2.2.2.2.2.2.2.2.2.2.2.2.2.2.2.2.2.2.2.2.2.2.2.2.2.2.2.2.2.2.2.2.2.2.2.2.2.2.2.2.2.2.2.2.2.2.1)))))).trans ?_
    refine (rn_iload_n (pc := 204) (dd bX13_breaksLayers dX13_breaksLayers_204) rfl).trans ?_
    refine (rg_iaload (pc := 205) (dd bX13_breaksLayers dX13_breaksLayers_205) ((vup_k (by decide)).trans ((vup_k (by decide)).trans ((vup_k (by decide)).trans ((vup_k (by decide)).trans ((vup_k (by decide)).trans s1.2.2.2.2.2.2.2.2.2.2.2.2.2.2.2.2.2.2.2.2.2.2.2.2.2.2.2.2.2.2.2.2.2.2.2.2.2.2.2.2.2.2.2.2.2.2.2.2.2.2.2.2.2.2.2.2.2.2.2.1))))) ((vup_k (by decide)).trans ((vup_k (by decide)).trans ((vup_k (by decide)).trans ((vup_k (by decide)).trans ((vup_k (by decide)).trans s1.2.2.2.2.2.2.2.2.2.2.2.2.2.2.2.2.2.2.2.2.2.2.2.2.2.2.2.2.2.2.2.2.2.2.2.2.2.2.2.2.2.2.2.2.2.2.2.2.2.2.2.2.2.2.2.2.2.2.2.2.1))))) (by have z0 := p2 c1; omega) (Int.not_le.mp c1) ((vup_r (by omega)).trans ((vup_r (by omega)).trans ((vup_r (by omega)).trans ((vup_r (by omega)).trans ((vup_r (by omega)).trans rfl)))))).trans ?_
    refine (rn_iload_n (pc := 206) (dd bX13_breaksLayers dX13_breaksLayers_206) rfl).trans ?_
    have e10 : vrun mX13_breaksLayers 207 [(1, 282), (0, x1), (0, x2), (0, x3), (0, (if h 2 294 x3 = x1 ∧ ¬ (h 2 295 x3 < x2) then 1 else 0)), (0, fX13_later (vup (vup (vup h 2 296 x3 (if h 2 294 x3 = x1 ∧ ¬ (h 2 295 x3 < x2) then h 2 296 x3 - x2 else (if h 2 294 x3 = x1 then (if x2 ≤ h 2 296 x3 then x2 else h 2 296 x3) else h 2 296 x3))) 2 295 x3 (h 2 295 x3 - (if h 2 294 x3 = x1 ∧ ¬ (h 2 295 x3 < x2) then x2 else 0))) 2 294 x3 (h 2 294 x3 + (if h 2 294 x3 = x1 ∧ ¬ (h 2 295 x3 < x2) ∨ ¬ (h 2 294 x3 ≤ x1) then 1 else 0))) (h 2 298 x3) (h 2 299 x3) x1 x2)] [(0, x1), (0, h 2 302 x3), (0, h 2 302 x3), (0, x3), (1, 302)] (vup (vup (vup (vup (vup h 2 296 x3 (if h 2 294 x3 = x1 ∧ ¬ (h 2 295 x3 < x2) then h 2 296 x3 - x2 else (if h 2 294 x3 = x1 then (if x2 ≤ h 2 296 x3 then x2 else h 2 296 x3) else h 2 296 x3))) 2 295 x3 (h 2 295 x3 - (if h 2 294 x3 = x1 ∧ ¬ (h 2 295 x3 < x2) then x2 else 0))) 2 294 x3 (h 2 294 x3 + (if h 2 294 x3 = x1 ∧ ¬ (h 2 295 x3 < x2) ∨ ¬ (h 2 294 x3 ≤ x1) then 1 else 0))) 2 299 x3 (h 2 299 x3 - (if h 2 298 x3 = x1 then (if fX13_later (vup (vup (vup h 2 296 x3 (if h 2 294 x3 = x1 ∧ ¬ (h 2 295 x3 < x2) then h 2 296 x3 - x2 else (if h 2 294 x3 = x1 then (if x2 ≤ h 2 296 x3 then x2 else h 2 296 x3) else h 2 296 x3))) 2 295 x3 (h 2 295 x3 - (if h 2 294 x3 = x1 ∧ ¬ (h 2 295 x3 < x2) then x2 else 0))) 2 294 x3 (h 2 294 x3 + (if h 2 294 x3 = x1 ∧ ¬ (h 2 295 x3 < x2) ∨ ¬ (h 2 294 x3 ≤ x1) then 1 else 0))) (h 2 298 x3) (h 2 299 x3) x1 x2 ≤ 0 then 0 else x2) else 0))) 2 298 x3 (h 2 298 x3 + fX13_later (vup (vup (vup h 2 296 x3 (if h 2 294 x3 = x1 ∧ ¬ (h 2 295 x3 < x2) then h 2 296 x3 - x2 else (if h 2 294 x3 = x1 then (if x2 ≤ h 2 296 x3 then x2 else h 2 296 x3) else h 2 296 x3))) 2 295 x3 (h 2 295 x3 - (if h 2 294 x3 = x1 ∧ ¬ (h 2 295 x3 < x2) then x2 else 0))) 2 294 x3 (h 2 294 x3 + (if h 2 294 x3 = x1 ∧ ¬ (h 2 295 x3 < x2) ∨ ¬ (h 2 294 x3 ≤ x1) then 1 else 0))) (h 2 298 x3) (h 2 299 x3) x1 x2)) = vrun mX13_breaksLayers 215 [(1, 282), (0, x1), (0, x2), (0, x3), (0, (if h 2 294 x3 = x1 ∧ ¬ (h 2 295 x3 < x2) then 1 else 0)), (0, fX13_later (vup (vup (vup h 2 296 x3 (if h 2 294 x3 = x1 ∧ ¬ (h 2 295 x3 < x2) then h 2 296 x3 - x2 else (if h 2 294 x3 = x1 then (if x2 ≤ h 2 296 x3 then x2 else h 2 296 x3) else h 2 296 x3))) 2 295 x3 (h 2 295 x3 - (if h 2 294 x3 = x1 ∧ ¬ (h 2 295 x3 < x2) then x2 else 0))) 2 294 x3 (h 2 294 x3 + (if h 2 294 x3 = x1 ∧ ¬ (h 2 295 x3 < x2) ∨ ¬ (h 2 294 x3 ≤ x1) then 1 else 0))) (h 2 298 x3) (h 2 299 x3) x1 x2)] [(0, (if ¬ (h 2 302 x3 ≤ x1) then 1 else 0)), (0, h 2 302 x3), (0, x3), (1, 302)] (vup (vup (vup (vup (vup h 2 296 x3 (if h 2 294 x3 = x1 ∧ ¬ (h 2 295 x3 < x2) then h 2 296 x3 - x2 else (if h 2 294 x3 = x1 then (if x2 ≤ h 2 296 x3 then x2 else h 2 296 x3) else h 2 296 x3))) 2 295 x3 (h 2 295 x3 - (if h 2 294 x3 = x1 ∧ ¬ (h 2 295 x3 < x2) then x2 else 0))) 2 294 x3 (h 2 294 x3 + (if h 2 294 x3 = x1 ∧ ¬ (h 2 295 x3 < x2) ∨ ¬ (h 2 294 x3 ≤ x1) then 1 else 0))) 2 299 x3 (h 2 299 x3 - (if h 2 298 x3 = x1 then (if fX13_later (vup (vup (vup h 2 296 x3 (if h 2 294 x3 = x1 ∧ ¬ (h 2 295 x3 < x2) then h 2 296 x3 - x2 else (if h 2 294 x3 = x1 then (if x2 ≤ h 2 296 x3 then x2 else h 2 296 x3) else h 2 296 x3))) 2 295 x3 (h 2 295 x3 - (if h 2 294 x3 = x1 ∧ ¬ (h 2 295 x3 < x2) then x2 else 0))) 2 294 x3 (h 2 294 x3 + (if h 2 294 x3 = x1 ∧ ¬ (h 2 295 x3 < x2) ∨ ¬ (h 2 294 x3 ≤ x1) then 1 else 0))) (h 2 298 x3) (h 2 299 x3) x1 x2 ≤ 0 then 0 else x2) else 0))) 2 298 x3 (h 2 298 x3 + fX13_later (vup (vup (vup h 2 296 x3 (if h 2 294 x3 = x1 ∧ ¬ (h 2 295 x3 < x2) then h 2 296 x3 - x2 else (if h 2 294 x3 = x1 then (if x2 ≤ h 2 296 x3 then x2 else h 2 296 x3) else h 2 296 x3))) 2 295 x3 (h 2 295 x3 - (if h 2 294 x3 = x1 ∧ ¬ (h 2 295 x3 < x2) then x2 else 0))) 2 294 x3 (h 2 294 x3 + (if h 2 294 x3 = x1 ∧ ¬ (h 2 295 x3 < x2) ∨ ¬ (h 2 294 x3 ≤ x1) then 1 else 0))) (h 2 298 x3) (h 2 299 x3) x1 x2)) := by
      refine (rn_icmp_le (t := 214) (pc := 207) (dd bX13_breaksLayers dX13_breaksLayers_207) rfl).trans ?_
      by_cases c11 : h 2 302 x3 ≤ x1
      · refine (if_pos c11).trans ?_
        refine (rn_iconst (pc := 214) (dd bX13_breaksLayers dX13_breaksLayers_214) (by decide)).trans ?_
        refine Eq.trans (b := vrun mX13_breaksLayers 215 [(1, 282), (0, x1), (0, x2), (0, x3), (0, (if h 2 294 x3 = x1 ∧ ¬ (h 2 295 x3 < x2) then 1 else 0)), (0, fX13_later (vup (vup (vup h 2 296 x3 (if h 2 294 x3 = x1 ∧ ¬ (h 2 295 x3 < x2) then h 2 296 x3 - x2 else (if h 2 294 x3 = x1 then (if x2 ≤ h 2 296 x3 then x2 else h 2 296 x3) else h 2 296 x3))) 2 295 x3 (h 2 295 x3 - (if h 2 294 x3 = x1 ∧ ¬ (h 2 295 x3 < x2) then x2 else 0))) 2 294 x3 (h 2 294 x3 + (if h 2 294 x3 = x1 ∧ ¬ (h 2 295 x3 < x2) ∨ ¬ (h 2 294 x3 ≤ x1) then 1 else 0))) (h 2 298 x3) (h 2 299 x3) x1 x2)] [(0, 0), (0, h 2 302 x3), (0, x3), (1, 302)] (vup (vup (vup (vup (vup h 2 296 x3 (if h 2 294 x3 = x1 ∧ ¬ (h 2 295 x3 < x2) then h 2 296 x3 - x2 else (if h 2 294 x3 = x1 then (if x2 ≤ h 2 296 x3 then x2 else h 2 296 x3) else h 2 296 x3))) 2 295 x3 (h 2 295 x3 - (if h 2 294 x3 = x1 ∧ ¬ (h 2 295 x3 < x2) then x2 else 0))) 2 294 x3 (h 2 294 x3 + (if h 2 294 x3 = x1 ∧ ¬ (h 2 295 x3 < x2) ∨ ¬ (h 2 294 x3 ≤ x1) then 1 else 0))) 2 299 x3 (h 2 299 x3 - (if h 2 298 x3 = x1 then (if fX13_later (vup (vup (vup h 2 296 x3 (if h 2 294 x3 = x1 ∧ ¬ (h 2 295 x3 < x2) then h 2 296 x3 - x2 else (if h 2 294 x3 = x1 then (if x2 ≤ h 2 296 x3 then x2 else h 2 296 x3) else h 2 296 x3))) 2 295 x3 (h 2 295 x3 - (if h 2 294 x3 = x1 ∧ ¬ (h 2 295 x3 < x2) then x2 else 0))) 2 294 x3 (h 2 294 x3 + (if h 2 294 x3 = x1 ∧ ¬ (h 2 295 x3 < x2) ∨ ¬ (h 2 294 x3 ≤ x1) then 1 else 0))) (h 2 298 x3) (h 2 299 x3) x1 x2 ≤ 0 then 0 else x2) else 0))) 2 298 x3 (h 2 298 x3 + fX13_later (vup (vup (vup h 2 296 x3 (if h 2 294 x3 = x1 ∧ ¬ (h 2 295 x3 < x2) then h 2 296 x3 - x2 else (if h 2 294 x3 = x1 then (if x2 ≤ h 2 296 x3 then x2 else h 2 296 x3) else h 2 296 x3))) 2 295 x3 (h 2 295 x3 - (if h 2 294 x3 = x1 ∧ ¬ (h 2 295 x3 < x2) then x2 else 0))) 2 294 x3 (h 2 294 x3 + (if h 2 294 x3 = x1 ∧ ¬ (h 2 295 x3 < x2) ∨ ¬ (h 2 294 x3 ≤ x1) then 1 else 0))) (h 2 298 x3) (h 2 299 x3) x1 x2))) rfl ?_
        simp only [c11, true_or, false_or, or_true, or_false, true_and, false_and, and_true, and_false, not_true_eq_false, not_false_eq_true, ne_eq, if_true, if_false, ↓reduceIte]
      · refine (if_neg c11).trans ?_
        refine (rn_iconst (pc := 210) (dd bX13_breaksLayers dX13_breaksLayers_210) (by decide)).trans ?_
        refine (rn_goto (t := 215) (pc := 211) (dd bX13_breaksLayers dX13_breaksLayers_211) rfl).trans ?_
        refine Eq.trans (b := vrun mX13_breaksLayers 215 [(1, 282), (0, x1), (0, x2), (0, x3), (0, (if h 2 294 x3 = x1 ∧ ¬ (h 2 295 x3 < x2) then 1 else 0)), (0, fX13_later (vup (vup (vup h 2 296 x3 (if h 2 294 x3 = x1 ∧ ¬ (h 2 295 x3 < x2) then h 2 296 x3 - x2 else (if h 2 294 x3 = x1 then (if x2 ≤ h 2 296 x3 then x2 else h 2 296 x3) else h 2 296 x3))) 2 295 x3 (h 2 295 x3 - (if h 2 294 x3 = x1 ∧ ¬ (h 2 295 x3 < x2) then x2 else 0))) 2 294 x3 (h 2 294 x3 + (if h 2 294 x3 = x1 ∧ ¬ (h 2 295 x3 < x2) ∨ ¬ (h 2 294 x3 ≤ x1) then 1 else 0))) (h 2 298 x3) (h 2 299 x3) x1 x2)] [(0, 1), (0, h 2 302 x3), (0, x3), (1, 302)] (vup (vup (vup (vup (vup h 2 296 x3 (if h 2 294 x3 = x1 ∧ ¬ (h 2 295 x3 < x2) then h 2 296 x3 - x2 else (if h 2 294 x3 = x1 then (if x2 ≤ h 2 296 x3 then x2 else h 2 296 x3) else h 2 296 x3))) 2 295 x3 (h 2 295 x3 - (if h 2 294 x3 = x1 ∧ ¬ (h 2 295 x3 < x2) then x2 else 0))) 2 294 x3 (h 2 294 x3 + (if h 2 294 x3 = x1 ∧ ¬ (h 2 295 x3 < x2) ∨ ¬ (h 2 294 x3 ≤ x1) then 1 else 0))) 2 299 x3 (h 2 299 x3 - (if h 2 298 x3 = x1 then (if fX13_later (vup (vup (vup h 2 296 x3 (if h 2 294 x3 = x1 ∧ ¬ (h 2 295 x3 < x2) then h 2 296 x3 - x2 else (if h 2 294 x3 = x1 then (if x2 ≤ h 2 296 x3 then x2 else h 2 296 x3) else h 2 296 x3))) 2 295 x3 (h 2 295 x3 - (if h 2 294 x3 = x1 ∧ ¬ (h 2 295 x3 < x2) then x2 else 0))) 2 294 x3 (h 2 294 x3 + (if h 2 294 x3 = x1 ∧ ¬ (h 2 295 x3 < x2) ∨ ¬ (h 2 294 x3 ≤ x1) then 1 else 0))) (h 2 298 x3) (h 2 299 x3) x1 x2 ≤ 0 then 0 else x2) else 0))) 2 298 x3 (h 2 298 x3 + fX13_later (vup (vup (vup h 2 296 x3 (if h 2 294 x3 = x1 ∧ ¬ (h 2 295 x3 < x2) then h 2 296 x3 - x2 else (if h 2 294 x3 = x1 then (if x2 ≤ h 2 296 x3 then x2 else h 2 296 x3) else h 2 296 x3))) 2 295 x3 (h 2 295 x3 - (if h 2 294 x3 = x1 ∧ ¬ (h 2 295 x3 < x2) then x2 else 0))) 2 294 x3 (h 2 294 x3 + (if h 2 294 x3 = x1 ∧ ¬ (h 2 295 x3 < x2) ∨ ¬ (h 2 294 x3 ≤ x1) then 1 else 0))) (h 2 298 x3) (h 2 299 x3) x1 x2))) rfl ?_
        simp only [c11, true_or, false_or, or_true, or_false, true_and, false_and, and_true, and_false, not_true_eq_false, not_false_eq_true, ne_eq, if_true, if_false, ↓reduceIte]
    refine e10.trans ?_
    refine (rg_iadd (pc := 215) (dd bX13_breaksLayers dX13_breaksLayers_215) (p13 c1) (p14 c1)).trans ?_
    refine (rg_iastore (pc := 216) (dd bX13_breaksLayers dX13_breaksLayers_216) ((vup_k (by decide)).trans ((vup_k (by decide)).trans ((vup_k (by decide)).trans ((vup_k (by decide)).trans ((vup_k (by decide)).trans s1.2.2.2.2.2.2.2.2.2.2.2.2.2.2.2.2.2.2.2.2.2.2.2.2.2.2.2.2.2.2.2.2.2.2.2.2.2.2.2.2.2.2.2.2.2.2.2.2.2.2.2.2.2.2.2.2.2.2.2.1))))) ((vup_k (by decide)).trans ((vup_k (by decide)).trans ((vup_k (by decide)).trans ((vup_k (by decide)).trans ((vup_k (by decide)).trans s1.2.2.2.2.2.2.2.2.2.2.2.2.2.2.2.2.2.2.2.2.2.2.2.2.2.2.2.2.2.2.2.2.2.2.2.2.2.2.2.2.2.2.2.2.2.2.2.2.2.2.2.2.2.2.2.2.2.2.2.2.1))))) (by have z0 := p2 c1; omega) (Int.not_le.mp c1)).trans ?_
    refine (rn_aload_n (pc := 217) (dd bX13_breaksLayers dX13_breaksLayers_217) rfl).trans ?_
    refine (rg_gf (pc := 218) (dd bX13_breaksLayers dX13_breaksLayers_218) (ci := 14) (j := 22) rfl rfl (key := 1522) rfl (kc := 34) rfl ((vup_k (by decide)).trans ((vup_k (by decide)).trans ((vup_k (by decide)).trans ((vup_k (by decide)).trans ((vup_k (by decide)).trans ((vup_k (by decide)).trans s1.1)))))) ((vup_k (by decide)).trans ((vup_k (by decide)).trans ((vup_k (by decide)).trans ((vup_k (by decide)).trans ((vup_k (by decide)).trans ((vup_k (by decide)).trans s1.2.2.2.2.2.2.2.2.2.2.2.2.2.2.2.2.2.2.2.2.2.2.2.2.2.2.2.2.2.2.2.2.2.2.2.2.2.2.2.2.2.2.2.2.2.2.2.2.2.2.2.2.2.2.2.2.2.2.2.2.2.1))))))).trans ?_
    refine (rn_iload_n (pc := 221) (dd bX13_breaksLayers dX13_breaksLayers_221) rfl).trans ?_
    refine (rn_dup2 (pc := 222) (dd bX13_breaksLayers dX13_breaksLayers_222) (by decide)).trans ?_
    refine (rg_iaload (pc := 223) (dd bX13_breaksLayers dX13_breaksLayers_223) ((vup_k (by decide)).trans ((vup_k (by decide)).trans ((vup_k (by decide)).trans ((vup_k (by decide)).trans ((vup_k (by decide)).trans ((vup_k (by decide)).trans s1.2.2.2.2.2.2.2.2.2.2.2.2.2.2.2.2.2.2.2.2.2.2.2.2.2.2.2.2.2.2.2.2.2.2.2.2.2.2.2.2.2.2.2.2.2.2.2.2.2.2.2.2.2.2.2.2.2.2.2.2.2.2.1)))))) ((vup_k (by decide)).trans ((vup_k (by decide)).trans ((vup_k (by decide)).trans ((vup_k (by decide)).trans ((vup_k (by decide)).trans ((vup_k (by decide)).trans s1.2.2.2.2.2.2.2.2.2.2.2.2.2.2.2.2.2.2.2.2.2.2.2.2.2.2.2.2.2.2.2.2.2.2.2.2.2.2.2.2.2.2.2.2.2.2.2.2.2.2.2.2.2.2.2.2.2.2.2.2.2.2.2.1)))))) (by have z0 := p2 c1; omega) (Int.not_le.mp c1) ((vup_r (by omega)).trans ((vup_r (by omega)).trans ((vup_r (by omega)).trans ((vup_r (by omega)).trans ((vup_r (by omega)).trans ((vup_r (by omega)).trans rfl))))))).trans ?_
    refine (rn_aload_n (pc := 224) (dd bX13_breaksLayers dX13_breaksLayers_224) rfl).trans ?_
    refine (rg_gf (pc := 225) (dd bX13_breaksLayers dX13_breaksLayers_225) (ci := 14) (j := 22) rfl rfl (key := 1522) rfl (kc := 34) rfl ((vup_k (by decide)).trans ((vup_k (by decide)).trans ((vup_k (by decide)).trans ((vup_k (by decide)).trans ((vup_k (by decide)).trans ((vup_k (by decide)).trans s1.1)))))) ((vup_k (by decide)).trans ((vup_k (by decide)).trans ((vup_k (by decide)).trans ((vup_k (by decide)).trans ((vup_k (by decide)).trans ((vup_k (by decide)).trans s1.2.2.2.2.2.2.2.2.2.2.2.2.2.2.2.2.2.2.2.2.2.2.2.2.2.2.2.2.2.2.2.2.2.2.2.2.2.2.2.2.2.2.2.2.2.2.2.2.2.2.2.2.2.2.2.2.2.2.2.2.2.1))))))).trans ?_
    refine (rn_iload_n (pc := 228) (dd bX13_breaksLayers dX13_breaksLayers_228) rfl).trans ?_
    refine (rg_iaload (pc := 229) (dd bX13_breaksLayers dX13_breaksLayers_229) ((vup_k (by decide)).trans ((vup_k (by decide)).trans ((vup_k (by decide)).trans ((vup_k (by decide)).trans ((vup_k (by decide)).trans ((vup_k (by decide)).trans s1.2.2.2.2.2.2.2.2.2.2.2.2.2.2.2.2.2.2.2.2.2.2.2.2.2.2.2.2.2.2.2.2.2.2.2.2.2.2.2.2.2.2.2.2.2.2.2.2.2.2.2.2.2.2.2.2.2.2.2.2.2.2.1)))))) ((vup_k (by decide)).trans ((vup_k (by decide)).trans ((vup_k (by decide)).trans ((vup_k (by decide)).trans ((vup_k (by decide)).trans ((vup_k (by decide)).trans s1.2.2.2.2.2.2.2.2.2.2.2.2.2.2.2.2.2.2.2.2.2.2.2.2.2.2.2.2.2.2.2.2.2.2.2.2.2.2.2.2.2.2.2.2.2.2.2.2.2.2.2.2.2.2.2.2.2.2.2.2.2.2.2.1)))))) (by have z0 := p2 c1; omega) (Int.not_le.mp c1) ((vup_r (by omega)).trans ((vup_r (by omega)).trans ((vup_r (by omega)).trans ((vup_r (by omega)).trans ((vup_r (by omega)).trans ((vup_r (by omega)).trans rfl))))))).trans ?_
    refine (rn_iload_n (pc := 230) (dd bX13_breaksLayers dX13_breaksLayers_230) rfl).trans ?_
    have e11 : vrun mX13_breaksLayers 231 [(1, 282), (0, x1), (0, x2), (0, x3), (0, (if h 2 294 x3 = x1 ∧ ¬ (h 2 295 x3 < x2) then 1 else 0)), (0, fX13_later (vup (vup (vup h 2 296 x3 (if h 2 294 x3 = x1 ∧ ¬ (h 2 295 x3 < x2) then h 2 296 x3 - x2 else (if h 2 294 x3 = x1 then (if x2 ≤ h 2 296 x3 then x2 else h 2 296 x3) else h 2 296 x3))) 2 295 x3 (h 2 295 x3 - (if h 2 294 x3 = x1 ∧ ¬ (h 2 295 x3 < x2) then x2 else 0))) 2 294 x3 (h 2 294 x3 + (if h 2 294 x3 = x1 ∧ ¬ (h 2 295 x3 < x2) ∨ ¬ (h 2 294 x3 ≤ x1) then 1 else 0))) (h 2 298 x3) (h 2 299 x3) x1 x2)] [(0, x1), (0, h 2 303 x3), (0, h 2 303 x3), (0, x3), (1, 303)] (vup (vup (vup (vup (vup (vup h 2 296 x3 (if h 2 294 x3 = x1 ∧ ¬ (h 2 295 x3 < x2) then h 2 296 x3 - x2 else (if h 2 294 x3 = x1 then (if x2 ≤ h 2 296 x3 then x2 else h 2 296 x3) else h 2 296 x3))) 2 295 x3 (h 2 295 x3 - (if h 2 294 x3 = x1 ∧ ¬ (h 2 295 x3 < x2) then x2 else 0))) 2 294 x3 (h 2 294 x3 + (if h 2 294 x3 = x1 ∧ ¬ (h 2 295 x3 < x2) ∨ ¬ (h 2 294 x3 ≤ x1) then 1 else 0))) 2 299 x3 (h 2 299 x3 - (if h 2 298 x3 = x1 then (if fX13_later (vup (vup (vup h 2 296 x3 (if h 2 294 x3 = x1 ∧ ¬ (h 2 295 x3 < x2) then h 2 296 x3 - x2 else (if h 2 294 x3 = x1 then (if x2 ≤ h 2 296 x3 then x2 else h 2 296 x3) else h 2 296 x3))) 2 295 x3 (h 2 295 x3 - (if h 2 294 x3 = x1 ∧ ¬ (h 2 295 x3 < x2) then x2 else 0))) 2 294 x3 (h 2 294 x3 + (if h 2 294 x3 = x1 ∧ ¬ (h 2 295 x3 < x2) ∨ ¬ (h 2 294 x3 ≤ x1) then 1 else 0))) (h 2 298 x3) (h 2 299 x3) x1 x2 ≤ 0 then 0 else x2) else 0))) 2 298 x3 (h 2 298 x3 + fX13_later (vup (vup (vup h 2 296 x3 (if h 2 294 x3 = x1 ∧ ¬ (h 2 295 x3 < x2) then h 2 296 x3 - x2 else (if h 2 294 x3 = x1 then (if x2 ≤ h 2 296 x3 then x2 else h 2 296 x3) else h 2 296 x3))) 2 295 x3 (h 2 295 x3 - (if h 2 294 x3 = x1 ∧ ¬ (h 2 295 x3 < x2) then x2 else 0))) 2 294 x3 (h 2 294 x3 + (if h 2 294 x3 = x1 ∧ ¬ (h 2 295 x3 < x2) ∨ ¬ (h 2 294 x3 ≤ x1) then 1 else 0))) (h 2 298 x3) (h 2 299 x3) x1 x2)) 2 302 x3 (h 2 302 x3 + (if ¬ (h 2 302 x3 ≤ x1) then 1 else 0))) = vrun mX13_breaksLayers 239 [(1, 282), (0, x1), (0, x2), (0, x3), (0, (if h 2 294 x3 = x1 ∧ ¬ (h 2 295 x3 < x2) then 1 else 0)), (0, fX13_later (vup (vup (vup h 2 296 x3 (if h 2 294 x3 = x1 ∧ ¬ (h 2 295 x3 < x2) then h 2 296 x3 - x2 else (if h 2 294 x3 = x1 then (if x2 ≤ h 2 296 x3 then x2 else h 2 296 x3) else h 2 296 x3))) 2 295 x3 (h 2 295 x3 - (if h 2 294 x3 = x1 ∧ ¬ (h 2 295 x3 < x2) then x2 else 0))) 2 294 x3 (h 2 294 x3 + (if h 2 294 x3 = x1 ∧ ¬ (h 2 295 x3 < x2) ∨ ¬ (h 2 294 x3 ≤ x1) then 1 else 0))) (h 2 298 x3) (h 2 299 x3) x1 x2)] [(0, (if ¬ (h 2 303 x3 < x1) then 1 else 0)), (0, h 2 303 x3), (0, x3), (1, 303)] (vup (vup (vup (vup (vup (vup h 2 296 x3 (if h 2 294 x3 = x1 ∧ ¬ (h 2 295 x3 < x2) then h 2 296 x3 - x2 else (if h 2 294 x3 = x1 then (if x2 ≤ h 2 296 x3 then x2 else h 2 296 x3) else h 2 296 x3))) 2 295 x3 (h 2 295 x3 - (if h 2 294 x3 = x1 ∧ ¬ (h 2 295 x3 < x2) then x2 else 0))) 2 294 x3 (h 2 294 x3 + (if h 2 294 x3 = x1 ∧ ¬ (h 2 295 x3 < x2) ∨ ¬ (h 2 294 x3 ≤ x1) then 1 else 0))) 2 299 x3 (h 2 299 x3 - (if h 2 298 x3 = x1 then (if fX13_later (vup (vup (vup h 2 296 x3 (if h 2 294 x3 = x1 ∧ ¬ (h 2 295 x3 < x2) then h 2 296 x3 - x2 else (if h 2 294 x3 = x1 then (if x2 ≤ h 2 296 x3 then x2 else h 2 296 x3) else h 2 296 x3))) 2 295 x3 (h 2 295 x3 - (if h 2 294 x3 = x1 ∧ ¬ (h 2 295 x3 < x2) then x2 else 0))) 2 294 x3 (h 2 294 x3 + (if h 2 294 x3 = x1 ∧ ¬ (h 2 295 x3 < x2) ∨ ¬ (h 2 294 x3 ≤ x1) then 1 else 0))) (h 2 298 x3) (h 2 299 x3) x1 x2 ≤ 0 then 0 else x2) else 0))) 2 298 x3 (h 2 298 x3 + fX13_later (vup (vup (vup h 2 296 x3 (if h 2 294 x3 = x1 ∧ ¬ (h 2 295 x3 < x2) then h 2 296 x3 - x2 else (if h 2 294 x3 = x1 then (if x2 ≤ h 2 296 x3 then x2 else h 2 296 x3) else h 2 296 x3))) 2 295 x3 (h 2 295 x3 - (if h 2 294 x3 = x1 ∧ ¬ (h 2 295 x3 < x2) then x2 else 0))) 2 294 x3 (h 2 294 x3 + (if h 2 294 x3 = x1 ∧ ¬ (h 2 295 x3 < x2) ∨ ¬ (h 2 294 x3 ≤ x1) then 1 else 0))) (h 2 298 x3) (h 2 299 x3) x1 x2)) 2 302 x3 (h 2 302 x3 + (if ¬ (h 2 302 x3 ≤ x1) then 1 else 0))) := by
      refine (rn_icmp_lt (t := 238) (pc := 231) (dd bX13_breaksLayers dX13_breaksLayers_231) rfl).trans ?_
      by_cases c12 : h 2 303 x3 < x1
      · refine (if_pos c12).trans ?_
        refine (rn_iconst (pc := 238) (dd bX13_breaksLayers dX13_breaksLayers_238) (by decide)).trans ?_
        refine Eq.trans (b := vrun mX13_breaksLayers 239 [(1, 282), (0, x1), (0, x2), (0, x3), (0, (if h 2 294 x3 = x1 ∧ ¬ (h 2 295 x3 < x2) then 1 else 0)), (0, fX13_later (vup (vup (vup h 2 296 x3 (if h 2 294 x3 = x1 ∧ ¬ (h 2 295 x3 < x2) then h 2 296 x3 - x2 else (if h 2 294 x3 = x1 then (if x2 ≤ h 2 296 x3 then x2 else h 2 296 x3) else h 2 296 x3))) 2 295 x3 (h 2 295 x3 - (if h 2 294 x3 = x1 ∧ ¬ (h 2 295 x3 < x2) then x2 else 0))) 2 294 x3 (h 2 294 x3 + (if h 2 294 x3 = x1 ∧ ¬ (h 2 295 x3 < x2) ∨ ¬ (h 2 294 x3 ≤ x1) then 1 else 0))) (h 2 298 x3) (h 2 299 x3) x1 x2)] [(0, 0), (0, h 2 303 x3), (0, x3), (1, 303)] (vup (vup (vup (vup (vup (vup h 2 296 x3 (if h 2 294 x3 = x1 ∧ ¬ (h 2 295 x3 < x2) then h 2 296 x3 - x2 else (if h 2 294 x3 = x1 then (if x2 ≤ h 2 296 x3 then x2 else h 2 296 x3) else h 2 296 x3))) 2 295 x3 (h 2 295 x3 - (if h 2 294 x3 = x1 ∧ ¬ (h 2 295 x3 < x2) then x2 else 0))) 2 294 x3 (h 2 294 x3 + (if h 2 294 x3 = x1 ∧ ¬ (h 2 295 x3 < x2) ∨ ¬ (h 2 294 x3 ≤ x1) then 1 else 0))) 2 299 x3 (h 2 299 x3 - (if h 2 298 x3 = x1 then (if fX13_later (vup (vup (vup h 2 296 x3 (if h 2 294 x3 = x1 ∧ ¬ (h 2 295 x3 < x2) then h 2 296 x3 - x2 else (if h 2 294 x3 = x1 then (if x2 ≤ h 2 296 x3 then x2 else h 2 296 x3) else h 2 296 x3))) 2 295 x3 (h 2 295 x3 - (if h 2 294 x3 = x1 ∧ ¬ (h 2 295 x3 < x2) then x2 else 0))) 2 294 x3 (h 2 294 x3 + (if h 2 294 x3 = x1 ∧ ¬ (h 2 295 x3 < x2) ∨ ¬ (h 2 294 x3 ≤ x1) then 1 else 0))) (h 2 298 x3) (h 2 299 x3) x1 x2 ≤ 0 then 0 else x2) else 0))) 2 298 x3 (h 2 298 x3 + fX13_later (vup (vup (vup h 2 296 x3 (if h 2 294 x3 = x1 ∧ ¬ (h 2 295 x3 < x2) then h 2 296 x3 - x2 else (if h 2 294 x3 = x1 then (if x2 ≤ h 2 296 x3 then x2 else h 2 296 x3) else h 2 296 x3))) 2 295 x3 (h 2 295 x3 - (if h 2 294 x3 = x1 ∧ ¬ (h 2 295 x3 < x2) then x2 else 0))) 2 294 x3 (h 2 294 x3 + (if h 2 294 x3 = x1 ∧ ¬ (h 2 295 x3 < x2) ∨ ¬ (h 2 294 x3 ≤ x1) then 1 else 0))) (h 2 298 x3) (h 2 299 x3) x1 x2)) 2 302 x3 (h 2 302 x3 + (if ¬ (h 2 302 x3 ≤ x1) then 1 else 0)))) rfl ?_
        simp only [c12, true_or, false_or, or_true, or_false, true_and, false_and, and_true, and_false, not_true_eq_false, not_false_eq_true, ne_eq, if_true, if_false, ↓reduceIte]
      · refine (if_neg c12).trans ?_
        refine (rn_iconst (pc := 234) (dd bX13_breaksLayers dX13_breaksLayers_234) (by decide)).trans ?_
        refine (rn_goto (t := 239) (pc := 235) (dd bX13_breaksLayers dX13_breaksLayers_235) rfl).trans ?_
        refine Eq.trans (b := vrun mX13_breaksLayers 239 [(1, 282), (0, x1), (0, x2), (0, x3), (0, (if h 2 294 x3 = x1 ∧ ¬ (h 2 295 x3 < x2) then 1 else 0)), (0, fX13_later (vup (vup (vup h 2 296 x3 (if h 2 294 x3 = x1 ∧ ¬ (h 2 295 x3 < x2) then h 2 296 x3 - x2 else (if h 2 294 x3 = x1 then (if x2 ≤ h 2 296 x3 then x2 else h 2 296 x3) else h 2 296 x3))) 2 295 x3 (h 2 295 x3 - (if h 2 294 x3 = x1 ∧ ¬ (h 2 295 x3 < x2) then x2 else 0))) 2 294 x3 (h 2 294 x3 + (if h 2 294 x3 = x1 ∧ ¬ (h 2 295 x3 < x2) ∨ ¬ (h 2 294 x3 ≤ x1) then 1 else 0))) (h 2 298 x3) (h 2 299 x3) x1 x2)] [(0, 1), (0, h 2 303 x3), (0, x3), (1, 303)] (vup (vup (vup (vup (vup (vup h 2 296 x3 (if h 2 294 x3 = x1 ∧ ¬ (h 2 295 x3 < x2) then h 2 296 x3 - x2 else (if h 2 294 x3 = x1 then (if x2 ≤ h 2 296 x3 then x2 else h 2 296 x3) else h 2 296 x3))) 2 295 x3 (h 2 295 x3 - (if h 2 294 x3 = x1 ∧ ¬ (h 2 295 x3 < x2) then x2 else 0))) 2 294 x3 (h 2 294 x3 + (if h 2 294 x3 = x1 ∧ ¬ (h 2 295 x3 < x2) ∨ ¬ (h 2 294 x3 ≤ x1) then 1 else 0))) 2 299 x3 (h 2 299 x3 - (if h 2 298 x3 = x1 then (if fX13_later (vup (vup (vup h 2 296 x3 (if h 2 294 x3 = x1 ∧ ¬ (h 2 295 x3 < x2) then h 2 296 x3 - x2 else (if h 2 294 x3 = x1 then (if x2 ≤ h 2 296 x3 then x2 else h 2 296 x3) else h 2 296 x3))) 2 295 x3 (h 2 295 x3 - (if h 2 294 x3 = x1 ∧ ¬ (h 2 295 x3 < x2) then x2 else 0))) 2 294 x3 (h 2 294 x3 + (if h 2 294 x3 = x1 ∧ ¬ (h 2 295 x3 < x2) ∨ ¬ (h 2 294 x3 ≤ x1) then 1 else 0))) (h 2 298 x3) (h 2 299 x3) x1 x2 ≤ 0 then 0 else x2) else 0))) 2 298 x3 (h 2 298 x3 + fX13_later (vup (vup (vup h 2 296 x3 (if h 2 294 x3 = x1 ∧ ¬ (h 2 295 x3 < x2) then h 2 296 x3 - x2 else (if h 2 294 x3 = x1 then (if x2 ≤ h 2 296 x3 then x2 else h 2 296 x3) else h 2 296 x3))) 2 295 x3 (h 2 295 x3 - (if h 2 294 x3 = x1 ∧ ¬ (h 2 295 x3 < x2) then x2 else 0))) 2 294 x3 (h 2 294 x3 + (if h 2 294 x3 = x1 ∧ ¬ (h 2 295 x3 < x2) ∨ ¬ (h 2 294 x3 ≤ x1) then 1 else 0))) (h 2 298 x3) (h 2 299 x3) x1 x2)) 2 302 x3 (h 2 302 x3 + (if ¬ (h 2 302 x3 ≤ x1) then 1 else 0)))) rfl ?_
        simp only [c12, true_or, false_or, or_true, or_false, true_and, false_and, and_true, and_false, not_true_eq_false, not_false_eq_true, ne_eq, if_true, if_false, ↓reduceIte]
    refine e11.trans ?_
    refine (rg_iadd (pc := 239) (dd bX13_breaksLayers dX13_breaksLayers_239) (p15 c1) (p16 c1)).trans ?_
    refine (rg_iastore (pc := 240) (dd bX13_breaksLayers dX13_breaksLayers_240) ((vup_k (by decide)).trans ((vup_k (by decide)).trans ((vup_k (by decide)).trans ((vup_k (by decide)).trans ((vup_k (by decide)).trans ((vup_k (by decide)).trans s1.2.2.2.2.2.2.2.2.2.2.2.2.2.2.2.2.2.2.2.2.2.2.2.2.2.2.2.2.2.2.2.2.2.2.2.2.2.2.2.2.2.2.2.2.2.2.2.2.2.2.2.2.2.2.2.2.2.2.2.2.2.2.1)))))) ((vup_k (by decide)).trans ((vup_k (by decide)).trans ((vup_k (by decide)).trans ((vup_k (by decide)).trans ((vup_k (by decide)).trans ((vup_k (by decide)).trans s1.2.2.2.2.2.2.2.2.2.2.2.2.2.2.2.2.2.2.2.2.2.2.2.2.2.2.2.2.2.2.2.2.2.2.2.2.2.2.2.2.2.2.2.2.2.2.2.2.2.2.2.2.2.2.2.2.2.2.2.2.2.2.2.1)))))) (by have z0 := p2 c1; omega) (Int.not_le.mp c1)).trans ?_
    refine (rg_iinc (pc := 241) (dd bX13_breaksLayers dX13_breaksLayers_241) rfl (Nat.le_of_ble_eq_true rfl) (by have z0 := p2 c1; omega) (by have z0 := p2 c1; omega) rfl).trans ?_
    refine (rn_goto (t := 2) (pc := 244) (dd bX13_breaksLayers dX13_breaksLayers_244) rfl).trans ?_
    rfl
theorem rX13_breaksLayers_249 {x1 : Int} {x2 : Int} {x3 : Int} {v4 : vv} {v5 : vv} {h : vH} (s1 : shModel h) (p2 : ¬ (4 ≤ x3) → 0 ≤ x3) (p3 : ¬ (4 ≤ x3) → (-2147483648) ≤ h 2 306 x3 - (if h 2 305 x3 = x1 then (if fX13_later h (h 2 305 x3) (h 2 306 x3) x1 x2 ≤ 0 then 0 else x2) else 0)) (p4 : ¬ (4 ≤ x3) → h 2 306 x3 - (if h 2 305 x3 = x1 then (if fX13_later h (h 2 305 x3) (h 2 306 x3) x1 x2 ≤ 0 then 0 else x2) else 0) < 2147483648) (p5 : ¬ (4 ≤ x3) → (-2147483648) ≤ h 2 305 x3 + fX13_later h (h 2 305 x3) (h 2 306 x3) x1 x2) (p6 : ¬ (4 ≤ x3) → h 2 305 x3 + fX13_later h (h 2 305 x3) (h 2 306 x3) x1 x2 < 2147483648) (p7 : ¬ (4 ≤ x3) → (-2147483648) ≤ h 2 309 x3 - (if h 2 308 x3 = x1 then (if fX13_later (vup (vup h 2 306 x3 (h 2 306 x3 - (if h 2 305 x3 = x1 then (if fX13_later h (h 2 305 x3) (h 2 306 x3) x1 x2 ≤ 0 then 0 else x2) else 0))) 2 305 x3 (h 2 305 x3 + fX13_later h (h 2 305 x3) (h 2 306 x3) x1 x2)) (h 2 308 x3) (h 2 309 x3) x1 x2 ≤ 0 then 0 else x2) else 0)) (p8 : ¬ (4 ≤ x3) → h 2 309 x3 - (if h 2 308 x3 = x1 then (if fX13_later (vup (vup h 2 306 x3 (h 2 306 x3 - (if h 2 305 x3 = x1 then (if fX13_later h (h 2 305 x3) (h 2 306 x3) x1 x2 ≤ 0 then 0 else x2) else 0))) 2 305 x3 (h 2 305 x3 + fX13_later h (h 2 305 x3) (h 2 306 x3) x1 x2)) (h 2 308 x3) (h 2 309 x3) x1 x2 ≤ 0 then 0 else x2) else 0) < 2147483648) (p9 : ¬ (4 ≤ x3) → (-2147483648) ≤ h 2 308 x3 + fX13_later (vup (vup h 2 306 x3 (h 2 306 x3 - (if h 2 305 x3 = x1 then (if fX13_later h (h 2 305 x3) (h 2 306 x3) x1 x2 ≤ 0 then 0 else x2) else 0))) 2 305 x3 (h 2 305 x3 + fX13_later h (h 2 305 x3) (h 2 306 x3) x1 x2)) (h 2 308 x3) (h 2 309 x3) x1 x2) (p10 : ¬ (4 ≤ x3) → h 2 308 x3 + fX13_later (vup (vup h 2 306 x3 (h 2 306 x3 - (if h 2 305 x3 = x1 then (if fX13_later h (h 2 305 x3) (h 2 306 x3) x1 x2 ≤ 0 then 0 else x2) else 0))) 2 305 x3 (h 2 305 x3 + fX13_later h (h 2 305 x3) (h 2 306 x3) x1 x2)) (h 2 308 x3) (h 2 309 x3) x1 x2 < 2147483648) : vrun mX13_breaksLayers 249 [(1, 282), (0, x1), (0, x2), (0, x3), v4, v5] [] h = if 4 ≤ x3 then some (.inl none, h) else vrun mX13_breaksLayers 249 [(1, 282), (0, x1), (0, x2), (0, x3 + 1), (0, fX13_later (vup (vup h 2 306 x3 (h 2 306 x3 - (if h 2 305 x3 = x1 then (if fX13_later h (h 2 305 x3) (h 2 306 x3) x1 x2 ≤ 0 then 0 else x2) else 0))) 2 305 x3 (h 2 305 x3 + fX13_later h (h 2 305 x3) (h 2 306 x3) x1 x2)) (h 2 308 x3) (h 2 309 x3) x1 x2), v5] [] (vup (vup (vup (vup h 2 306 x3 (h 2 306 x3 - (if h 2 305 x3 = x1 then (if fX13_later h (h 2 305 x3) (h 2 306 x3) x1 x2 ≤ 0 then 0 else x2) else 0))) 2 305 x3 (h 2 305 x3 + fX13_later h (h 2 305 x3) (h 2 306 x3) x1 x2)) 2 309 x3 (h 2 309 x3 - (if h 2 308 x3 = x1 then (if fX13_later (vup (vup h 2 306 x3 (h 2 306 x3 - (if h 2 305 x3 = x1 then (if fX13_later h (h 2 305 x3) (h 2 306 x3) x1 x2 ≤ 0 then 0 else x2) else 0))) 2 305 x3 (h 2 305 x3 + fX13_later h (h 2 305 x3) (h 2 306 x3) x1 x2)) (h 2 308 x3) (h 2 309 x3) x1 x2 ≤ 0 then 0 else x2) else 0))) 2 308 x3 (h 2 308 x3 + fX13_later (vup (vup h 2 306 x3 (h 2 306 x3 - (if h 2 305 x3 = x1 then (if fX13_later h (h 2 305 x3) (h 2 306 x3) x1 x2 ≤ 0 then 0 else x2) else 0))) 2 305 x3 (h 2 305 x3 + fX13_later h (h 2 305 x3) (h 2 306 x3) x1 x2)) (h 2 308 x3) (h 2 309 x3) x1 x2)) := by
  refine (rn_iload_n (pc := 249) (dd bX13_breaksLayers dX13_breaksLayers_249) rfl).trans ?_
  refine (rn_iconst (pc := 250) (dd bX13_breaksLayers dX13_breaksLayers_250) (by decide)).trans ?_
  refine (rn_icmp_ge (t := 378) (pc := 251) (dd bX13_breaksLayers dX13_breaksLayers_251) rfl).trans (itec (fun c1 => ?_) (fun c1 => ?_))
  · exact rn_return (pc := 378) (dd bX13_breaksLayers dX13_breaksLayers_378) rfl
  · refine (rn_aload_n (pc := 254) (dd bX13_breaksLayers dX13_breaksLayers_254) rfl).trans ?_
    refine (rg_gf (pc := 255) (dd bX13_breaksLayers dX13_breaksLayers_255) (ci := 14) (j := 24) rfl rfl (key := 1524) rfl (kc := 34) rfl s1.1 s1.2.2.2.2.2.2.2.2.2.2.2.2.2.2.2.2.2.2.2.2.2.2.2.2.2.2.2.2.2.2.2.2.2.2.2.2.2.2.2.2.2.2.2.2.2.2.2.2.2.2.2.2.2.2.2.2.2.2.2.2.2.2.2.2.2.2.2.1).trans ?_
    refine (rn_iload_n (pc := 258) (dd bX13_breaksLayers dX13_breaksLayers_258) rfl).trans ?_
    refine (rg_iaload (pc := 259) (dd bX13_breaksLayers dX13_breaksLayers_259) s1.2.2.2.2.2.2.2.2.2.2.2.2.2.2.2.2.2.2.2.2.2.2.2.2.2.2.2.2.2.2.2.2.2.2.2.2.2.2.2.2.2.2.2.2.2.2.2.2.2.2.2.2.2.2.2.2.2.2.2.2.2.2.2.2.2.2.2.2.1 s1.2.2.2.2.2.2.2.2.2.2.2.2.2.2.2.2.2.2.2.2.2.2.2.2.2.2.2.2.2.2.2.2.2.2.2.2.2.2.2.2.2.2.2.2.2.2.2.2.2.2.2.2.2.2.2.2.2.2.2.2.2.2.2.2.2.2.2.2.2.1 (p2 c1) (Int.not_le.mp c1) rfl).trans ?_
    refine (rn_aload_n (pc := 260) (dd bX13_breaksLayers dX13_breaksLayers_260) rfl).trans ?_
    refine (rg_gf (pc := 261) (dd bX13_breaksLayers dX13_breaksLayers_261) (ci := 14) (j := 25) rfl rfl (key := 1525) rfl (kc := 34) rfl s1.1 s1.2.2.2.2.2.2.2.2.2.2.2.2.2.2.2.2.2.2.2.2.2.2.2.2.2.2.2.2.2.2.2.2.2.2.2.2.2.2.2.2.2.2.2.2.2.2.2.2.2.2.2.2.2.2.2.2.2.2.2.2.2.2.2.2.2.2.2.2.2.2.1).trans ?_
    refine (rn_iload_n (pc := 264) (dd bX13_breaksLayers dX13_breaksLayers_264) rfl).trans ?_
    refine (rg_iaload (pc := 265) (dd bX13_breaksLayers dX13_breaksLayers_265) s1.2.2.2.2.2.2.2.2.2.2.2.2.2.2.2.2.2.2.2.2.2.2.2.2.2.2.2.2.2.2.2.2.2.2.2.2.2.2.2.2.2.2.2.2.2.2.2.2.2.2.2.2.2.2.2.2.2.2.2.2.2.2.2.2.2.2.2.2.2.2.2.1 s1.2.2.2.2.2.2.2.2.2.2.2.2.2.2.2.2.2.2.2.2.2.2.2.2.2.2.2.2.2.2.2.2.2.2.2.2.2.2.2.2.2.2.2.2.2.2.2.2.2.2.2.2.2.2.2.2.2.2.2.2.2.2.2.2.2.2.2.2.2.2.2.2.1 (by have z0 := p2 c1; omega) (Int.not_le.mp c1) rfl).trans ?_
    refine (rn_iload_n (pc := 266) (dd bX13_breaksLayers dX13_breaksLayers_266) rfl).trans ?_
    refine (rn_iload_n (pc := 267) (dd bX13_breaksLayers dX13_breaksLayers_267) rfl).trans ?_
    refine (rg_static (pc := 268) (dd bX13_breaksLayers dX13_breaksLayers_268) rfl (by decide) (Nat.le_of_ble_eq_true rfl) (as := [(0, h 2 305 x3), (0, h 2 306 x3), (0, x1), (0, x2)]) rfl rfl ⟨Nat.le_of_ble_eq_true rfl, Nat.le_of_ble_eq_true rfl, Nat.le_of_ble_eq_true rfl, Nat.le_of_ble_eq_true rfl⟩).trans ?_
    refine (vret_v spX13_later).trans ?_
    refine (rn_istore (pc := 271) (dd bX13_breaksLayers dX13_breaksLayers_271) (Nat.le_of_ble_eq_true rfl) rfl).trans ?_
    refine (rn_aload_n (pc := 273) (dd bX13_breaksLayers dX13_breaksLayers_273) rfl).trans ?_
    refine (rg_gf (pc := 274) (dd bX13_breaksLayers dX13_breaksLayers_274) (ci := 14) (j := 25) rfl rfl (key := 1525) rfl (kc := 34) rfl s1.1 s1.2.2.2.2.2.2.2.2.2.2.2.2.2.2.2.2.2.2.2.2.2.2.2.2.2.2.2.2.2.2.2.2.2.2.2.2.2.2.2.2.2.2.2.2.2.2.2.2.2.2.2.2.2.2.2.2.2.2.2.2.2.2.2.2.2.2.2.2.2.2.1).trans ?_
    refine (rn_iload_n (pc := 277) (dd bX13_breaksLayers dX13_breaksLayers_277) rfl).trans ?_
    refine (rn_dup2 (pc := 278) (dd bX13_breaksLayers dX13_breaksLayers_278) (by decide)).trans ?_
    refine (rg_iaload (pc := 279) (dd bX13_breaksLayers dX13_breaksLayers_279) s1.2.2.2.2.2.2.2.2.2.2.2.2.2.2.2.2.2.2.2.2.2.2.2.2.2.2.2.2.2.2.2.2.2.2.2.2.2.2.2.2.2.2.2.2.2.2.2.2.2.2.2.2.2.2.2.2.2.2.2.2.2.2.2.2.2.2.2.2.2.2.2.1 s1.2.2.2.2.2.2.2.2.2.2.2.2.2.2.2.2.2.2.2.2.2.2.2.2.2.2.2.2.2.2.2.2.2.2.2.2.2.2.2.2.2.2.2.2.2.2.2.2.2.2.2.2.2.2.2.2.2.2.2.2.2.2.2.2.2.2.2.2.2.2.2.2.1 (by have z0 := p2 c1; omega) (Int.not_le.mp c1) rfl).trans ?_
    refine (rn_aload_n (pc := 280) (dd bX13_breaksLayers dX13_breaksLayers_280) rfl).trans ?_
    refine (rg_gf (pc := 281) (dd bX13_breaksLayers dX13_breaksLayers_281) (ci := 14) (j := 24) rfl rfl (key := 1524) rfl (kc := 34) rfl s1.1 s1.2.2.2.2.2.2.2.2.2.2.2.2.2.2.2.2.2.2.2.2.2.2.2.2.2.2.2.2.2.2.2.2.2.2.2.2.2.2.2.2.2.2.2.2.2.2.2.2.2.2.2.2.2.2.2.2.2.2.2.2.2.2.2.2.2.2.2.1).trans ?_
    refine (rn_iload_n (pc := 284) (dd bX13_breaksLayers dX13_breaksLayers_284) rfl).trans ?_
    refine (rg_iaload (pc := 285) (dd bX13_breaksLayers dX13_breaksLayers_285) s1.2.2.2.2.2.2.2.2.2.2.2.2.2.2.2.2.2.2.2.2.2.2.2.2.2.2.2.2.2.2.2.2.2.2.2.2.2.2.2.2.2.2.2.2.2.2.2.2.2.2.2.2.2.2.2.2.2.2.2.2.2.2.2.2.2.2.2.2.1 s1.2.2.2.2.2.2.2.2.2.2.2.2.2.2.2.2.2.2.2.2.2.2.2.2.2.2.2.2.2.2.2.2.2.2.2.2.2.2.2.2.2.2.2.2.2.2.2.2.2.2.2.2.2.2.2.2.2.2.2.2.2.2.2.2.2.2.2.2.2.1 (by have z0 := p2 c1; omega) (Int.not_le.mp c1) rfl).trans ?_
    refine (rn_iload_n (pc := 286) (dd bX13_breaksLayers dX13_breaksLayers_286) rfl).trans ?_
    have e2 : vrun mX13_breaksLayers 287 [(1, 282), (0, x1), (0, x2), (0, x3), (0, fX13_later h (h 2 305 x3) (h 2 306 x3) x1 x2), v5] [(0, x1), (0, h 2 305 x3), (0, h 2 306 x3), (0, x3), (1, 306)] h = vrun mX13_breaksLayers 300 [(1, 282), (0, x1), (0, x2), (0, x3), (0, fX13_later h (h 2 305 x3) (h 2 306 x3) x1 x2), v5] [(0, (if h 2 305 x3 = x1 then (if fX13_later h (h 2 305 x3) (h 2 306 x3) x1 x2 ≤ 0 then 0 else x2) else 0)), (0, h 2 306 x3), (0, x3), (1, 306)] h := by
      refine (rg_icmp_ne (t := 299) (pc := 287) (dd bX13_breaksLayers dX13_breaksLayers_287) rfl).trans ?_
      by_cases c2 : h 2 305 x3 = x1
      · refine (if_pos c2).trans ?_
        refine (rn_iload (pc := 290) (dd bX13_breaksLayers dX13_breaksLayers_290) rfl).trans ?_
        have e1 : vrun mX13_breaksLayers 292 [(1, 282), (0, x1), (0, x2), (0, x3), (0, fX13_later h (h 2 305 x3) (h 2 306 x3) x1 x2), v5] [(0, fX13_later h (h 2 305 x3) (h 2 306 x3) x1 x2), (0, h 2 306 x3), (0, x3), (1, 306)] h = vrun mX13_breaksLayers 300 [(1, 282), (0, x1), (0, x2), (0, x3), (0, fX13_later h (h 2 305 x3) (h 2 306 x3) x1 x2), v5] [(0, (if fX13_later h (h 2 305 x3) (h 2 306 x3) x1 x2 ≤ 0 then 0 else x2)), (0, h 2 306 x3), (0, x3), (1, 306)] h := by
          refine (rn_if_le (t := 299) (pc := 292) (dd bX13_breaksLayers dX13_breaksLayers_292) rfl).trans ?_
          by_cases c3 : fX13_later h (h 2 305 x3) (h 2 306 x3) x1 x2 ≤ 0
          · refine (if_pos c3).trans ?_
            refine (rn_iconst (pc := 299) (dd bX13_breaksLayers dX13_breaksLayers_299) (by decide)).trans ?_
            refine Eq.trans (b := vrun mX13_breaksLayers 300 [(1, 282), (0, x1), (0, x2), (0, x3), (0, fX13_later h (h 2 305 x3) (h 2 306 x3) x1 x2), v5] [(0, 0), (0, h 2 306 x3), (0, x3), (1, 306)] h) rfl ?_
            simp only [if_pos c3]
          · refine (if_neg c3).trans ?_
            refine (rn_iload_n (pc := 295) (dd bX13_breaksLayers dX13_breaksLayers_295) rfl).trans ?_
            refine (rn_goto (t := 300) (pc := 296) (dd bX13_breaksLayers dX13_breaksLayers_296) rfl).trans ?_
            refine Eq.trans (b := vrun mX13_breaksLayers 300 [(1, 282), (0, x1), (0, x2), (0, x3), (0, fX13_later h (h 2 305 x3) (h 2 306 x3) x1 x2), v5] [(0, x2), (0, h 2 306 x3), (0, x3), (1, 306)] h) rfl ?_
            simp only [if_neg c3]
        refine e1.trans ?_
        refine Eq.trans (b := vrun mX13_breaksLayers 300 [(1, 282), (0, x1), (0, x2), (0, x3), (0, fX13_later h (h 2 305 x3) (h 2 306 x3) x1 x2), v5] [(0, (if fX13_later h (h 2 305 x3) (h 2 306 x3) x1 x2 ≤ 0 then 0 else x2)), (0, h 2 306 x3), (0, x3), (1, 306)] h) rfl ?_
        simp only [if_pos c2]
      · refine (if_neg c2).trans ?_
        refine (rn_iconst (pc := 299) (dd bX13_breaksLayers dX13_breaksLayers_299) (by decide)).trans ?_
        refine Eq.trans (b := vrun mX13_breaksLayers 300 [(1, 282), (0, x1), (0, x2), (0, x3), (0, fX13_later h (h 2 305 x3) (h 2 306 x3) x1 x2), v5] [(0, 0), (0, h 2 306 x3), (0, x3), (1, 306)] h) rfl ?_
        simp only [if_neg c2]
    refine e2.trans ?_
    refine (rg_isub (pc := 300) (dd bX13_breaksLayers dX13_breaksLayers_300) (p3 c1) (p4 c1)).trans ?_
    refine (rg_iastore (pc := 301) (dd bX13_breaksLayers dX13_breaksLayers_301) s1.2.2.2.2.2.2.2.2.2.2.2.2.2.2.2.2.2.2.2.2.2.2.2.2.2.2.2.2.2.2.2.2.2.2.2.2.2.2.2.2.2.2.2.2.2.2.2.2.2.2.2.2.2.2.2.2.2.2.2.2.2.2.2.2.2.2.2.2.2.2.2.1 s1.2.2.2.2.2.2.2.2.2.2.2.2.2.2.2.2.2.2.2.2.2.2.2.2.2.2.2.2.2.2.2.2.2.2.2.2.2.2.2.2.2.2.2.2.2.2.2.2.2.2.2.2.2.2.2.2.2.2.2.2.2.2.2.2.2.2.2.2.2.2.2.2.1 (by have z0 := p2 c1; omega) (Int.not_le.mp c1)).trans ?_
    refine (rn_aload_n (pc := 302) (dd bX13_breaksLayers dX13_breaksLayers_302) rfl).trans ?_
    refine (rg_gf (pc := 303) (dd bX13_breaksLayers dX13_breaksLayers_303) (ci := 14) (j := 24) rfl rfl (key := 1524) rfl (kc := 34) rfl ((vup_k (by decide)).trans s1.1) ((vup_k (by decide)).trans s1.2.2.2.2.2.2.2.2.2.2.2.2.2.2.2.2.2.2.2.2.2.2.2.2.2.2.2.2.2.2.2.2.2.2.2.2.2.2.2.2.2.2.2.2.2.2.2.2.2.2.2.2.2.2.2.2.2.2.2.2.2.2.2.2.2.2.2.1)).trans ?_
    refine (rn_iload_n (pc := 306) (dd bX13_breaksLayers dX13_breaksLayers_306) rfl).trans ?_
    refine (rn_dup2 (pc := 307) (dd bX13_breaksLayers dX13_breaksLayers_307) (by decide)).trans ?_
    refine (rg_iaload (pc := 308) (dd bX13_breaksLayers dX13_breaksLayers_308) ((vup_k (by decide)).trans s1.2.2.2.2.2.2.2.2.2.2.2.2.2.2.2.2.2.2.2.2.2.2.2.2.2.2.2.2.2.2.2.2.2.2.2.2.2.2.2.2.2.2.2.2.2.2.2.2.2.2.2.2.2.2.2.2.2.2.2.2.2.2.2.2.2.2.2.2.1) ((vup_k (by decide)).trans s1.2.2.2.2.2.2.2.2.2.2.2.2.2.2.2.2.2.2.2.2.2.2.2.2.2.2.2.2.2.2.2.2.2.2.2.2.2.2.2.2.2.2.2.2.2.2.2.2.2.2.2.2.2.2.2.2.2.2.2.2.2.2.2.2.2.2.2.2.2.1) (by have z0 := p2 c1; omega) (Int.not_le.mp c1) ((vup_r (by omega)).trans rfl)).trans ?_
    refine (rn_iload (pc := 309) (dd bX13_breaksLayers dX13_breaksLayers_309) rfl).trans ?_
    refine (rg_iadd (pc := 311) (dd bX13_breaksLayers dX13_breaksLayers_311) (p5 c1) (p6 c1)).trans ?_
    refine (rg_iastore (pc := 312) (dd bX13_breaksLayers dX13_breaksLayers_312) ((vup_k (by decide)).trans s1.2.2.2.2.2.2.2.2.2.2.2.2.2.2.2.2.2.2.2.2.2.2.2.2.2.2.2.2.2.2.2.2.2.2.2.2.2.2.2.2.2.2.2.2.2.2.2.2.2.2.2.2.2.2.2.2.2.2.2.2.2.2.2.2.2.2.2.2.1) ((vup_k (by decide)).trans s1.2.2.2.2.2.2.2.2.2.2.2.2.2.2.2.2.2.2.2.2.2.2.2.2.2.2.2.2.2.2.2.2.2.2.2.2.2.2.2.2.2.2.2.2.2.2.2.2.2.2.2.2.2.2.2.2.2.2.2.2.2.2.2.2.2.2.2.2.2.1) (by have z0 := p2 c1; omega) (Int.not_le.mp c1)).trans ?_
    refine (rn_aload_n (pc := 313) (dd bX13_breaksLayers dX13_breaksLayers_313) rfl).trans ?_
    refine (rg_gf (pc := 314) (dd bX13_breaksLayers dX13_breaksLayers_314) (ci := 14) (j := 27) rfl rfl (key := 1527) rfl (kc := 34) rfl ((vup_k (by decide)).trans ((vup_k (by decide)).trans s1.1)) ((vup_k (by decide)).trans ((vup_k (by decide)).trans s1.2.2.2.2.2.2.2.2.2.2.2.2.2.2.2.2.2.2.2.2.2.2.2.2.2.2.2.2.2.2.2.2.2.2.2.2.2.2.2.2.2.2.2.2.2.2.2.2.2.2.2.2.2.2.2.2.2.2.2.2.2.2.2.2.2.2.2.2.2.2.2.2.2.2.2.2.1))).trans ?_
    refine (rn_iload_n (pc := 317) (dd bX13_breaksLayers dX13_breaksLayers_317) rfl).trans ?_
    refine (rg_iaload (pc := 318) (dd bX13_breaksLayers dX13_breaksLayers_318) ((vup_k (by decide)).trans ((vup_k (by decide)).trans s1.2.2.2.2.2.2.2.2.2.2.2.2.2.2.2.2.2.2.2.2.2.2.2.2.2.2.2.2.2.2.2.2.2.2.2.2.2.2.2.2.2.2.2.2.2.2.2.2.2.2.2.2.2.2.2.2.2.2.2.2.2.2.2.2.2.2.2.2.2.2.2.2.2.2.2.2.2.1)) ((vup_k (by decide)).trans ((vup_k (by decide)).trans s1.2.2.2.2.2.2.2.2.2.2.2.2.2.2.2.2.2.2.2.2.2.2.2.2.2.2.2.2.2.2.2.2.2.2.2.2.2.2.2.2.2.2.2.2.2.2.2.2.2.2.2.2.2.2.2.2.2.2.2.2.2.2.2.2.2.2.2.2.2.2.2.2.2.2.2.2.2.2.1)) (by have z0 := p2 c1; omega) (Int.not_le.mp c1) ((vup_r (by omega)).trans ((vup_r (by omega)).trans rfl))).trans ?_
    refine (rn_aload_n (pc := 319) (dd bX13_breaksLayers dX13_breaksLayers_319) rfl).trans ?_
    refine (rg_gf (pc := 320) (dd bX13_breaksLayers dX13_breaksLayers_320) (ci := 14) (j := 28) rfl rfl (key := 1528) rfl (kc := 34) rfl ((vup_k (by decide)).trans ((vup_k (by decide)).trans s1.1)) ((vup_k (by decide)).trans ((vup_k (by decide)).trans s1.2.2.2.2.2.2.2.2.2.2.2.2.2.2.2.2.2.2.2.2.2.2.2.2.2.2.2.2.2.2.2.2.2.2.2.2.2.2.2.2.2.2.2.2.2.2.2.2.2.2.2.2.2.2.2.2.2.2.2.2.2.2.2.2.2.2.2.2.2.2.2.2.2.2.2.2.2.2.2.1))).trans ?_
    refine (rn_iload_n (pc := 323) (dd bX13_breaksLayers dX13_breaksLayers_323) rfl).trans ?_
    refine (rg_iaload (pc := 324) (dd bX13_breaksLayers dX13_breaksLayers_324) ((vup_k (by decide)).trans ((vup_k (by decide)).trans s1.2.2.2.2.2.2.2.2.2.2.2.2.2.2.2.2.2.2.2.2.2.2.2.2.2.2.2.2.2.2.2.2.2.2.2.2.2.2.2.2.2.2.2.2.2.2.2.2.2.2.2.2.2.2.2.2.2.2.2.2.2.2.2.2.2.2.2.2.2.2.2.2.2.2.2.2.2.2.2.2.1)) ((vup_k (by decide)).trans ((vup_k (by decide)).trans s1.2.2.2.2.2.2.2.2.2.2.2.2.2.2.2.2.2.2.2.2.2.2.2.2.2.2.2.2.2.2.2.2.2.2.2.2.2.2.2.2.2.2.2.2.2.2.2.2.2.2.2.2.2.2.2.2.2.2.2.2.2.2.2.2.2.2.2.2.2.2.2.2.2.2.2.2.2.2.2.2.2.1)) (by have z0 := p2 c1; omega) (Int.not_le.mp c1) ((vup_r (by omega)).trans ((vup_r (by omega)).trans rfl))).trans ?_
    refine (rn_iload_n (pc := 325) (dd bX13_breaksLayers dX13_breaksLayers_325) rfl).trans ?_
    refine (rn_iload_n (pc := 326) (dd bX13_breaksLayers dX13_breaksLayers_326) rfl).trans ?_
    refine (rg_static (pc := 327) (dd bX13_breaksLayers dX13_breaksLayers_327) rfl (by decide) (Nat.le_of_ble_eq_true rfl) (as := [(0, h 2 308 x3), (0, h 2 309 x3), (0, x1), (0, x2)]) rfl rfl ⟨Nat.le_of_ble_eq_true rfl, Nat.le_of_ble_eq_true rfl, Nat.le_of_ble_eq_true rfl, Nat.le_of_ble_eq_true rfl⟩).trans ?_
    refine (vret_v spX13_later).trans ?_
    refine (rn_istore (pc := 330) (dd bX13_breaksLayers dX13_breaksLayers_330) (Nat.le_of_ble_eq_true rfl) rfl).trans ?_
    refine (rn_aload_n (pc := 332) (dd bX13_breaksLayers dX13_breaksLayers_332) rfl).trans ?_
    refine (rg_gf (pc := 333) (dd bX13_breaksLayers dX13_breaksLayers_333) (ci := 14) (j := 28) rfl rfl (key := 1528) rfl (kc := 34) rfl ((vup_k (by decide)).trans ((vup_k (by decide)).trans s1.1)) ((vup_k (by decide)).trans ((vup_k (by decide)).trans s1.2.2.2.2.2.2.2.2.2.2.2.2.2.2.2.2.2.2.2.2.2.2.2.2.2.2.2.2.2.2.2.2.2.2.2.2.2.2.2.2.2.2.2.2.2.2.2.2.2.2.2.2.2.2.2.2.2.2.2.2.2.2.2.2.2.2.2.2.2.2.2.2.2.2.2.2.2.2.2.1))).trans ?_
    refine (rn_iload_n (pc := 336) (dd bX13_breaksLayers dX13_breaksLayers_336) rfl).trans ?_
    refine (rn_dup2 (pc := 337) (dd bX13_breaksLayers dX13_breaksLayers_337) (by decide)).trans ?_
    refine (rg_iaload (pc := 338) (dd bX13_breaksLayers dX13_breaksLayers_338) ((vup_k (by decide)).trans ((vup_k (by decide)).trans s1.2.2.2.2.2.2.2.2.2.2.2.2.2.2.2.2.2.2.2.2.2.2.2.2.2.2.2.2.2.2.2.2.2.2.2.2.2.2.2.2.2.2.2.2.2.2.2.2.2.2.2.2.2.2.2.2.2.2.2.2.2.2.2.2.2.2.2.2.2.2.2.2.2.2.2.2.2.2.2.2.1)) ((vup_k (by decide)).trans ((vup_k (by decide)).trans s1.2.2.2.2.2.2.2.2.2.2.2.2.2.2.2.2.2.2.2.2.2.2.2.2.2.2.2.2.2.2.2.2.2.2.2.2.2.2.2.2.2.2.2.2.2.2.2.2.2.2.2.2.2.2.2.2.2.2.2.2.2.2.2.2.2.2.2.2.2.2.2.2.2.2.2.2.2.2.2.2.2.1)) (by have z0 := p2 c1; omega) (Int.not_le.mp c1) ((vup_r (by omega)).trans ((vup_r (by omega)).trans rfl))).trans ?_
    refine (rn_aload_n (pc := 339) (dd bX13_breaksLayers dX13_breaksLayers_339) rfl).trans ?_
    refine (rg_gf (pc := 340) (dd bX13_breaksLayers dX13_breaksLayers_340) (ci := 14) (j := 27) rfl rfl (key := 1527) rfl (kc := 34) rfl ((vup_k (by decide)).trans ((vup_k (by decide)).trans s1.1)) ((vup_k (by decide)).trans ((vup_k (by decide)).trans s1.2.2.2.2.2.2.2.2.2.2.2.2.2.2.2.2.2.2.2.2.2.2.2.2.2.2.2.2.2.2.2.2.2.2.2.2.2.2.2.2.2.2.2.2.2.2.2.2.2.2.2.2.2.2.2.2.2.2.2.2.2.2.2.2.2.2.2.2.2.2.2.2.2.2.2.2.1))).trans ?_
    refine (rn_iload_n (pc := 343) (dd bX13_breaksLayers dX13_breaksLayers_343) rfl).trans ?_
    refine (rg_iaload (pc := 344) (dd bX13_breaksLayers dX13_breaksLayers_344) ((vup_k (by decide)).trans ((vup_k (by decide)).trans s1.2.2.2.2.2.2.2.2.2.2.2.2.2.2.2.2.2.2.2.2.2.2.2.2.2.2.2.2.2.2.2.2.2.2.2.2.2.2.2.2.2.2.2.2.2.2.2.2.2.2.2.2.2.2.2.2.2.2.2.2.2.2.2.2.2.2.2.2.2.2.2.2.2.2.2.2.2.1)) ((vup_k (by decide)).trans ((vup_k (by decide)).trans s1.2.2.2.2.2.2.2.2.2.2.2.2.2.2.2.2.2.2.2.2.2.2.2.2.2.2.2.2.2.2.2.2.2.2.2.2.2.2.2.2.2.2.2.2.2.2.2.2.2.2.2.2.2.2.2.2.2.2.2.2.2.2.2.2.2.2.2.2.2.2.2.2.2.2.2.2.2.2.1)) (by have z0 := p2 c1; omega) (Int.not_le.mp c1) ((vup_r (by omega)).trans ((vup_r (by omega)).trans rfl))).trans ?_
    refine (rn_iload_n (pc := 345) (dd bX13_breaksLayers dX13_breaksLayers_345) rfl).trans ?_
    have e4 : vrun mX13_breaksLayers 346 [(1, 282), (0, x1), (0, x2), (0, x3), (0, fX13_later (vup (vup h 2 306 x3 (h 2 306 x3 - (if h 2 305 x3 = x1 then (if fX13_later h (h 2 305 x3) (h 2 306 x3) x1 x2 ≤ 0 then 0 else x2) else 0))) 2 305 x3 (h 2 305 x3 + fX13_later h (h 2 305 x3) (h 2 306 x3) x1 x2)) (h 2 308 x3) (h 2 309 x3) x1 x2), v5] [(0, x1), (0, h 2 308 x3), (0, h 2 309 x3), (0, x3), (1, 309)] (vup (vup h 2 306 x3 (h 2 306 x3 - (if h 2 305 x3 = x1 then (if fX13_later h (h 2 305 x3) (h 2 306 x3) x1 x2 ≤ 0 then 0 else x2) else 0))) 2 305 x3 (h 2 305 x3 + fX13_later h (h 2 305 x3) (h 2 306 x3) x1 x2)) = vrun mX13_breaksLayers 359 [(1, 282), (0, x1), (0, x2), (0, x3), (0, fX13_later (vup (vup h 2 306 x3 (h 2 306 x3 - (if h 2 305 x3 = x1 then (if fX13_later h (h 2 305 x3) (h 2 306 x3) x1 x2 ≤ 0 then 0 else x2) else 0))) 2 305 x3 (h 2 305 x3 + fX13_later h (h 2 305 x3) (h 2 306 x3) x1 x2)) (h 2 308 x3) (h 2 309 x3) x1 x2), v5] [(0, (if h 2 308 x3 = x1 then (if fX13_later (vup (vup h 2 306 x3 (h 2 306 x3 - (if h 2 305 x3 = x1 then (if fX13_later h (h 2 305 x3) (h 2 306 x3) x1 x2 ≤ 0 then 0 else x2) else 0))) 2 305 x3 (h 2 305 x3 + fX13_later h (h 2 305 x3) (h 2 306 x3) x1 x2)) (h 2 308 x3) (h 2 309 x3) x1 x2 ≤ 0 then 0 else x2) else 0)), (0, h 2 309 x3), (0, x3), (1, 309)] (vup (vup h 2 306 x3 (h 2 306 x3 - (if h 2 305 x3 = x1 then (if fX13_later h (h 2 305 x3) (h 2 306 x3) x1 x2 ≤ 0 then 0 else x2) else 0))) 2 305 x3 (h 2 305 x3 + fX13_later h (h 2 305 x3) (h 2 306 x3) x1 x2)) := by
      refine (rg_icmp_ne (t := 358) (pc := 346) (dd bX13_breaksLayers dX13_breaksLayers_346) rfl).trans ?_
      by_cases c4 : h 2 308 x3 = x1
      · refine (if_pos c4).trans ?_
        refine (rn_iload (pc := 349) (dd bX13_breaksLayers dX13_breaksLayers_349) rfl).trans ?_
        have e3 : vrun mX13_breaksLayers 351 [(1, 282), (0, x1), (0, x2), (0, x3), (0, fX13_later (vup (vup h 2 306 x3 (h 2 306 x3 - (if h 2 305 x3 = x1 then (if fX13_later h (h 2 305 x3) (h 2 306 x3) x1 x2 ≤ 0 then 0 else x2) else 0))) 2 305 x3 (h 2 305 x3 + fX13_later h (h 2 305 x3) (h 2 306 x3) x1 x2)) (h 2 308 x3) (h 2 309 x3) x1 x2), v5] [(0, fX13_later (vup (vup h 2 306 x3 (h 2 306 x3 - (if h 2 305 x3 = x1 then (if fX13_later h (h 2 305 x3) (h 2 306 x3) x1 x2 ≤ 0 then 0 else x2) else 0))) 2 305 x3 (h 2 305 x3 + fX13_later h (h 2 305 x3) (h 2 306 x3) x1 x2)) (h 2 308 x3) (h 2 309 x3) x1 x2), (0, h 2 309 x3), (0, x3), (1, 309)] (vup (vup h 2 306 x3 (h 2 306 x3 - (if h 2 305 x3 = x1 then (if fX13_later h (h 2 305 x3) (h 2 306 x3) x1 x2 ≤ 0 then 0 else x2) else 0))) 2 305 x3 (h 2 305 x3 + fX13_later h (h 2 305 x3) (h 2 306 x3) x1 x2)) = vrun mX13_breaksLayers 359 [(1, 282), (0, x1), (0, x2), (0, x3), (0, fX13_later (vup (vup h 2 306 x3 (h 2 306 x3 - (if h 2 305 x3 = x1 then (if fX13_later h (h 2 305 x3) (h 2 306 x3) x1 x2 ≤ 0 then 0 else x2) else 0))) 2 305 x3 (h 2 305 x3 + fX13_later h (h 2 305 x3) (h 2 306 x3) x1 x2)) (h 2 308 x3) (h 2 309 x3) x1 x2), v5] [(0, (if fX13_later (vup (vup h 2 306 x3 (h 2 306 x3 - (if h 2 305 x3 = x1 then (if fX13_later h (h 2 305 x3) (h 2 306 x3) x1 x2 ≤ 0 then 0 else x2) else 0))) 2 305 x3 (h 2 305 x3 + fX13_later h (h 2 305 x3) (h 2 306 x3) x1 x2)) (h 2 308 x3) (h 2 309 x3) x1 x2 ≤ 0 then 0 else x2)), (0, h 2 309 x3), (0, x3), (1, 309)] (vup (vup h 2 306 x3 (h 2 306 x3 - (if h 2 305 x3 = x1 then (if fX13_later h (h 2 305 x3) (h 2 306 x3) x1 x2 ≤ 0 then 0 else x2) else 0))) 2 305 x3 (h 2 305 x3 + fX13_later h (h 2 305 x3) (h 2 306 x3) x1 x2)) := by
          refine (rn_if_le (t := 358) (pc := 351) (dd bX13_breaksLayers dX13_breaksLayers_351) rfl).trans ?_
          by_cases c5 : fX13_later (vup (vup h 2 306 x3 (h 2 306 x3 - (if h 2 305 x3 = x1 then (if fX13_later h (h 2 305 x3) (h 2 306 x3) x1 x2 ≤ 0 then 0 else x2) else 0))) 2 305 x3 (h 2 305 x3 + fX13_later h (h 2 305 x3) (h 2 306 x3) x1 x2)) (h 2 308 x3) (h 2 309 x3) x1 x2 ≤ 0
          · refine (if_pos c5).trans ?_
            refine (rn_iconst (pc := 358) (dd bX13_breaksLayers dX13_breaksLayers_358) (by decide)).trans ?_
            refine Eq.trans (b := vrun mX13_breaksLayers 359 [(1, 282), (0, x1), (0, x2), (0, x3), (0, fX13_later (vup (vup h 2 306 x3 (h 2 306 x3 - (if h 2 305 x3 = x1 then (if fX13_later h (h 2 305 x3) (h 2 306 x3) x1 x2 ≤ 0 then 0 else x2) else 0))) 2 305 x3 (h 2 305 x3 + fX13_later h (h 2 305 x3) (h 2 306 x3) x1 x2)) (h 2 308 x3) (h 2 309 x3) x1 x2), v5] [(0, 0), (0, h 2 309 x3), (0, x3), (1, 309)] (vup (vup h 2 306 x3 (h 2 306 x3 - (if h 2 305 x3 = x1 then (if fX13_later h (h 2 305 x3) (h 2 306 x3) x1 x2 ≤ 0 then 0 else x2) else 0))) 2 305 x3 (h 2 305 x3 + fX13_later h (h 2 305 x3) (h 2 306 x3) x1 x2))) rfl ?_
            simp only [if_pos c5]
          · refine (if_neg c5).trans ?_
            refine (rn_iload_n (pc := 354) (dd bX13_breaksLayers dX13_breaksLayers_354) rfl).trans ?_
            refine (rn_goto (t := 359) (pc := 355) (dd bX13_breaksLayers dX13_breaksLayers_355) rfl).trans ?_
            refine Eq.trans (b := vrun mX13_breaksLayers 359 [(1, 282), (0, x1), (0, x2), (0, x3), (0, fX13_later (vup (vup h 2 306 x3 (h 2 306 x3 - (if h 2 305 x3 = x1 then (if fX13_later h (h 2 305 x3) (h 2 306 x3) x1 x2 ≤ 0 then 0 else x2) else 0))) 2 305 x3 (h 2 305 x3 + fX13_later h (h 2 305 x3) (h 2 306 x3) x1 x2)) (h 2 308 x3) (h 2 309 x3) x1 x2), v5] [(0, x2), (0, h 2 309 x3), (0, x3), (1, 309)] (vup (vup h 2 306 x3 (h 2 306 x3 - (if h 2 305 x3 = x1 then (if fX13_later h (h 2 305 x3) (h 2 306 x3) x1 x2 ≤ 0 then 0 else x2) else 0))) 2 305 x3 (h 2 305 x3 + fX13_later h (h 2 305 x3) (h 2 306 x3) x1 x2))) rfl ?_
            simp only [if_neg c5]
        refine e3.trans ?_
        refine Eq.trans (b := vrun mX13_breaksLayers 359 [(1, 282), (0, x1), (0, x2), (0, x3), (0, fX13_later (vup (vup h 2 306 x3 (h 2 306 x3 - (if h 2 305 x3 = x1 then (if fX13_later h (h 2 305 x3) (h 2 306 x3) x1 x2 ≤ 0 then 0 else x2) else 0))) 2 305 x3 (h 2 305 x3 + fX13_later h (h 2 305 x3) (h 2 306 x3) x1 x2)) (h 2 308 x3) (h 2 309 x3) x1 x2), v5] [(0, (if fX13_later (vup (vup h 2 306 x3 (h 2 306 x3 - (if h 2 305 x3 = x1 then (if fX13_later h (h 2 305 x3) (h 2 306 x3) x1 x2 ≤ 0 then 0 else x2) else 0))) 2 305 x3 (h 2 305 x3 + fX13_later h (h 2 305 x3) (h 2 306 x3) x1 x2)) (h 2 308 x3) (h 2 309 x3) x1 x2 ≤ 0 then 0 else x2)), (0, h 2 309 x3), (0, x3), (1, 309)] (vup (vup h 2 306 x3 (h 2 306 x3 - (if h 2 305 x3 = x1 then (if fX13_later h (h 2 305 x3) (h 2 306 x3) x1 x2 ≤ 0 then 0 else x2) else 0))) 2 305 x3 (h 2 305 x3 + fX13_later h (h 2 305 x3) (h 2 306 x3) x1 x2))) rfl ?_
        simp only [if_pos c4]
      · refine (if_neg c4).trans ?_
        refine (rn_iconst (pc := 358) (dd bX13_breaksLayers dX13_breaksLayers_358) (by decide)).trans ?_
        refine Eq.trans (b := vrun mX13_breaksLayers 359 [(1, 282), (0, x1), (0, x2), (0, x3), (0, fX13_later (vup (vup h 2 306 x3 (h 2 306 x3 - (if h 2 305 x3 = x1 then (if fX13_later h (h 2 305 x3) (h 2 306 x3) x1 x2 ≤ 0 then 0 else x2) else 0))) 2 305 x3 (h 2 305 x3 + fX13_later h (h 2 305 x3) (h 2 306 x3) x1 x2)) (h 2 308 x3) (h 2 309 x3) x1 x2), v5] [(0, 0), (0, h 2 309 x3), (0, x3), (1, 309)] (vup (vup h 2 306 x3 (h 2 306 x3 - (if h 2 305 x3 = x1 then (if fX13_later h (h 2 305 x3) (h 2 306 x3) x1 x2 ≤ 0 then 0 else x2) else 0))) 2 305 x3 (h 2 305 x3 + fX13_later h (h 2 305 x3) (h 2 306 x3) x1 x2))) rfl ?_
        simp only [if_neg c4]
    refine e4.trans ?_
    refine (rg_isub (pc := 359) (dd bX13_breaksLayers dX13_breaksLayers_359) (p7 c1) (p8 c1)).trans ?_
    refine (rg_iastore (pc := 360) (dd bX13_breaksLayers dX13_breaksLayers_360) ((vup_k (by decide)).trans ((vup_k (by decide)).trans s1.2.2.2.2.2.2.2.2.2.2.2.2.2.2.2.2.2.2.2.2.2.2.2.2.2.2.2.2.2.2.2.2.2.2.2.2.2.2.2.2.2.2.2.2.2.2.2.2.2.2.2.2.2.2.2.2.2.2.2.2.2.2.2.2.2.2.2.2.2.2.2.2.2.2.2.2.2.2.2.2.1)) ((vup_k (by decide)).trans ((vup_k (by decide)).trans s1.2.2.2.2.2.2.2.2.2.2.2.2.2.2.2.2.2.2.2.2.2.2.2.2.2.2.2.2.2.2.2.2.2.2.2.2.2.2.2.2.2.2.2.2.2.2.2.2.2.2.2.2.2.2.2.2.2.2.2.2.2.2.2.2.2.2.2.2.2.2.2.2.2.2.2.2.2.2.2.2.2.1)) (by have z0 := p2 c1; omega) (Int.not_le.mp c1)).trans ?_
    refine (rn_aload_n (pc := 361) (dd bX13_breaksLayers dX13_breaksLayers_361) rfl).trans ?_
    refine (rg_gf (pc := 362) (dd bX13_breaksLayers dX13_breaksLayers_362) (ci := 14) (j := 27) rfl rfl (key := 1527) rfl (kc := 34) rfl ((vup_k (by decide)).trans ((vup_k (by decide)).trans ((vup_k (by decide)).trans s1.1))) ((vup_k (by decide)).trans ((vup_k (by decide)).trans ((vup_k (by decide)).trans s1.2.2.2.2.2.2.2.2.2.2.2.2.2.2.2.2.2.2.2.2.2.2.2.2.2.2.2.2.2.2.2.2.2.2.2.2.2.2.2.2.2.2.2.2.2.2.2.2.2.2.2.2.2.2.2.2.2.2.2.2.2.2.2.2.2.2.2.2.2.2.2.2.2.2.2.2.1)))).trans ?_
    refine (rn_iload_n (pc := 365) (dd bX13_breaksLayers dX13_breaksLayers_365) rfl).trans ?_
    refine (rn_dup2 (pc := 366) (dd bX13_breaksLayers dX13_breaksLayers_366) (by decide)).trans ?_
    refine (rg_iaload (pc := 367) (dd bX13_breaksLayers dX13_breaksLayers_367) ((vup_k (by decide)).trans ((vup_k (by decide)).trans ((vup_k (by decide)).trans s1.2.2.2.2.2.2.2.2.2.2.2.2.2.2.2.2.2.2.2.2.2.2.2.2.2.2.2.2.2.2.2.2.2.2.2.2.2.2.2.2.2.2.2.2.2.2.2.2.2.2.2.2.2.2.2.2.2.2.2.2.2.2.2.2.2.2.2.2.2.2.2.2.2.2.2.2.2.1))) ((vup_k (by decide)).trans ((vup_k (by decide)).trans ((vup_k (by decide)).trans s1.2.2.2.2.2.2.2.2.2.2.2.2.2.2.2.2.2.2.2.2.2.2.2.2.2.2.2.2.2.2.2.2.2.2.2.2.2.2.2.2.2.2.2.2.2.2.2.2.2.2.2.2.2.2.2.2.2.2.2.2.2.2.2.2.2.2.2.2.2.2.2.2.2.2.2.2.2.2.1))) (by have z0 := p2 c1; omega) (Int.not_le.mp c1) ((vup_r (by omega)).trans ((vup_r (by omega)).trans ((vup_r (by omega)).trans rfl)))).trans ?_
    refine (rn_iload (pc := 368) (dd bX13_breaksLayers dX13_breaksLayers_368) rfl).trans ?_
    refine (rg_iadd (pc := 370) (dd bX13_breaksLayers dX13_breaksLayers_370) (p9 c1) (p10 c1)).trans ?_
    refine (rg_iastore (pc := 371) (dd bX13_breaksLayers dX13_breaksLayers_371) ((vup_k (by decide)).trans ((vup_k (by decide)).trans ((vup_k (by decide)).trans s1.2.2.2.2.2.2.2.2.2.2.2.2.2.2.2.2.2.2.2.2.2.2.2.2.2.2.2.2.2.2.2.2.2.2.2.2.2.2.2.2.2.2.2.2.2.2.2.2.2.2.2.2.2.2.2.2.2.2.2.2.2.2.2.2.2.2.2.2.2.2.2.2.2.2.2.2.2.1))) ((vup_k (by decide)).trans ((vup_k (by decide)).trans ((vup_k (by decide)).trans s1.2.2.2.2.2.2.2.2.2.2.2.2.2.2.2.2.2.2.2.2.2.2.2.2.2.2.2.2.2.2.2.2.2.2.2.2.2.2.2.2.2.2.2.2.2.2.2.2.2.2.2.2.2.2.2.2.2.2.2.2.2.2.2.2.2.2.2.2.2.2.2.2.2.2.2.2.2.2.1))) (by have z0 := p2 c1; omega) (Int.not_le.mp c1)).trans ?_
    refine (rg_iinc (pc := 372) (dd bX13_breaksLayers dX13_breaksLayers_372) rfl (Nat.le_of_ble_eq_true rfl) (by have z0 := p2 c1; omega) (by have z0 := p2 c1; omega) rfl).trans ?_
    refine (rn_goto (t := 249) (pc := 375) (dd bX13_breaksLayers dX13_breaksLayers_375) rfl).trans ?_
    rfl
