theorem bX13_isFirstOfClosed : vmB mX13_isFirstOfClosed = cX13_isFirstOfClosed := rfl
theorem rX13_isFirstOfClosed_0 {x1 : Int} {x2 : Int} {h : vH} (p1 : (-2147483648) ≤ 6 * x1) (p2 : 6 * x1 < 2147483648) : vrun mX13_isFirstOfClosed 0 [(1, 282), (0, x1), (0, x2), (9, 0), (9, 0)] [] h = vrun mX13_isFirstOfClosed 8 [(1, 282), (0, x1), (0, x2), (0, 0), (0, 6 * x1)] [] h := by
  refine (rn_iconst (pc := 0) (dd bX13_isFirstOfClosed dX13_isFirstOfClosed_0) (by decide)).trans ?_
  refine (rn_istore_n (pc := 1) (dd bX13_isFirstOfClosed dX13_isFirstOfClosed_1) (Nat.le_of_ble_eq_true rfl) rfl).trans ?_
  refine (rn_bipush (pc := 2) (dd bX13_isFirstOfClosed dX13_isFirstOfClosed_2) (by decide)).trans ?_
  refine (rn_iload_n (pc := 4) (dd bX13_isFirstOfClosed dX13_isFirstOfClosed_4) rfl).trans ?_
  refine (rg_imul (pc := 5) (dd bX13_isFirstOfClosed dX13_isFirstOfClosed_5) p1 p2).trans ?_
  refine (rn_istore (pc := 6) (dd bX13_isFirstOfClosed dX13_isFirstOfClosed_6) (Nat.le_of_ble_eq_true rfl) rfl).trans ?_
  rfl
theorem rX13_isFirstOfClosed_8 {x1 : Int} {x2 : Int} {x3 : Int} {x4 : Int} {h : vH} (p1 : (-2147483648) ≤ 6 * x1) (p2 : 6 * x1 < 2147483648) (s3 : shModel h) (p4 : 0 ≤ x1) (p5 : x1 < 4) (p6 : (-2147483648) ≤ 6 * x1 + h 2 301 x1) (p7 : 6 * x1 + h 2 301 x1 < 2147483648) (p8 : 6 * x1 + h 2 301 x1 ≤ x4 → x3 = 0 ∨ x3 = 1) (p9 : ¬ (6 * x1 + h 2 301 x1 ≤ x4) → x3 = 0 → 0 ≤ x4) (p10 : ¬ (6 * x1 + h 2 301 x1 ≤ x4) → x3 = 0 → x4 < 24) (p11 : ¬ (6 * x1 + h 2 301 x1 ≤ x4) → (-2147483648) ≤ x4 + 1) (p12 : ¬ (6 * x1 + h 2 301 x1 ≤ x4) → x4 + 1 < 2147483648) : vrun mX13_isFirstOfClosed 8 [(1, 282), (0, x1), (0, x2), (0, x3), (0, x4)] [] h = if 6 * x1 + h 2 301 x1 ≤ x4 then some (.inl (some (0, x3)), h) else vrun mX13_isFirstOfClosed 8 [(1, 282), (0, x1), (0, x2), (0, (if ¬ (x3 = 0) ∨ ¬ (h 2 304 x4 = 0) ∧ x2 = h 2 302 x4 then 1 else 0)), (0, x4 + 1)] [] h := by
  refine (rn_iload (pc := 8) (dd bX13_isFirstOfClosed dX13_isFirstOfClosed_8) rfl).trans ?_
  refine (rn_bipush (pc := 10) (dd bX13_isFirstOfClosed dX13_isFirstOfClosed_10) (by decide)).trans ?_
  refine (rn_iload_n (pc := 12) (dd bX13_isFirstOfClosed dX13_isFirstOfClosed_12) rfl).trans ?_
  refine (rg_imul (pc := 13) (dd bX13_isFirstOfClosed dX13_isFirstOfClosed_13) p1 p2).trans ?_
  refine (rn_aload_n (pc := 14) (dd bX13_isFirstOfClosed dX13_isFirstOfClosed_14) rfl).trans ?_
  refine (rg_gf (pc := 15) (dd bX13_isFirstOfClosed dX13_isFirstOfClosed_15) (ci := 14) (j := 20) rfl rfl (key := 1520) rfl (kc := 34) rfl s3.1 s3.2.2.2.2.2.2.2.2.2.2.2.2.2.2.2.2.2.2.2.2.2.2.2.2.2.2.2.2.2.2.2.2.2.2.2.2.2.2.2.2.2.2.2.2.2.2.2.2.2.2.2.2.2.2.2.1).trans ?_
  refine (rn_iload_n (pc := 18) (dd bX13_isFirstOfClosed dX13_isFirstOfClosed_18) rfl).trans ?_
  refine (rg_iaload (pc := 19) (dd bX13_isFirstOfClosed dX13_isFirstOfClosed_19) s3.2.2.2.2.2.2.2.2.2.2.2.2.2.2.2.2.2.2.2.2.2.2.2.2.2.2.2.2.2.2.2.2.2.2.2.2.2.2.2.2.2.2.2.2.2.2.2.2.2.2.2.2.2.2.2.2.1 s3.2.2.2.2.2.2.2.2.2.2.2.2.2.2.2.2.2.2.2.2.2.2.2.2.2.2.2.2.2.2.2.2.2.2.2.2.2.2.2.2.2.2.2.2.2.2.2.2.2.2.2.2.2.2.2.2.2.1 p4 p5 rfl).trans ?_
  refine (rg_iadd (pc := 20) (dd bX13_isFirstOfClosed dX13_isFirstOfClosed_20) p6 p7).trans ?_
  refine (rn_icmp_ge (t := 61) (pc := 21) (dd bX13_isFirstOfClosed dX13_isFirstOfClosed_21) rfl).trans (itec (fun c1 => ?_) (fun c1 => ?_))
  · refine (rn_iload_n (pc := 61) (dd bX13_isFirstOfClosed dX13_isFirstOfClosed_61) rfl).trans ?_
    exact rn_ireturn (pc := 62) (dd bX13_isFirstOfClosed dX13_isFirstOfClosed_62) (Or.inr ⟨rfl, (p8 c1)⟩)
  · refine (rn_iload_n (pc := 24) (dd bX13_isFirstOfClosed dX13_isFirstOfClosed_24) rfl).trans ?_
    have e3 : vrun mX13_isFirstOfClosed 25 [(1, 282), (0, x1), (0, x2), (0, x3), (0, x4)] [(0, x3)] h = vrun mX13_isFirstOfClosed 54 [(1, 282), (0, x1), (0, x2), (0, x3), (0, x4)] [(0, (if ¬ (x3 = 0) ∨ ¬ (h 2 304 x4 = 0) ∧ x2 = h 2 302 x4 then 1 else 0))] h := by
      refine (rg_if_ne (t := 49) (pc := 25) (dd bX13_isFirstOfClosed dX13_isFirstOfClosed_25) rfl).trans ?_
      by_cases c2 : x3 = 0
      · refine (if_pos c2).trans ?_
        refine (rn_aload_n (pc := 28) (dd bX13_isFirstOfClosed dX13_isFirstOfClosed_28) rfl).trans ?_
        refine (rg_gf (pc := 29) (dd bX13_isFirstOfClosed dX13_isFirstOfClosed_29) (ci := 14) (j := 23) rfl rfl (key := 1523) rfl (kc := 34) rfl s3.1 s3.2.2.2.2.2.2.2.2.2.2.2.2.2.2.2.2.2.2.2.2.2.2.2.2.2.2.2.2.2.2.2.2.2.2.2.2.2.2.2.2.2.2.2.2.2.2.2.2.2.2.2.2.2.2.2.2.2.2.2.2.2.2.2.2.1).trans ?_
        refine (rn_iload (pc := 32) (dd bX13_isFirstOfClosed dX13_isFirstOfClosed_32) rfl).trans ?_
        refine (rg_baload (pc := 34) (dd bX13_isFirstOfClosed dX13_isFirstOfClosed_34) s3.2.2.2.2.2.2.2.2.2.2.2.2.2.2.2.2.2.2.2.2.2.2.2.2.2.2.2.2.2.2.2.2.2.2.2.2.2.2.2.2.2.2.2.2.2.2.2.2.2.2.2.2.2.2.2.2.2.2.2.2.2.2.2.2.2.1 s3.2.2.2.2.2.2.2.2.2.2.2.2.2.2.2.2.2.2.2.2.2.2.2.2.2.2.2.2.2.2.2.2.2.2.2.2.2.2.2.2.2.2.2.2.2.2.2.2.2.2.2.2.2.2.2.2.2.2.2.2.2.2.2.2.2.2.1 (p9 c1 c2) (p10 c1 c2) rfl).trans ?_
        have e2 : vrun mX13_isFirstOfClosed 35 [(1, 282), (0, x1), (0, x2), (0, x3), (0, x4)] [(0, h 2 304 x4)] h = vrun mX13_isFirstOfClosed 54 [(1, 282), (0, x1), (0, x2), (0, x3), (0, x4)] [(0, (if ¬ (h 2 304 x4 = 0) ∧ x2 = h 2 302 x4 then 1 else 0))] h := by
          refine (rn_if_eq (t := 53) (pc := 35) (dd bX13_isFirstOfClosed dX13_isFirstOfClosed_35) rfl).trans ?_
          by_cases c3 : h 2 304 x4 = 0
          · refine (if_pos c3).trans ?_
            refine (rn_iconst (pc := 53) (dd bX13_isFirstOfClosed dX13_isFirstOfClosed_53) (by decide)).trans ?_
            refine Eq.trans (b := vrun mX13_isFirstOfClosed 54 [(1, 282), (0, x1), (0, x2), (0, x3), (0, x4)] [(0, 0)] h) rfl ?_
            simp only [c3, true_or, false_or, or_true, or_false, true_and, false_and, and_true, and_false, not_true_eq_false, not_false_eq_true, ne_eq, if_true, if_false, ↓reduceIte]
          · refine (if_neg c3).trans ?_
            refine (rn_iload_n (pc := 38) (dd bX13_isFirstOfClosed dX13_isFirstOfClosed_38) rfl).trans ?_
            refine (rn_aload_n (pc := 39) (dd bX13_isFirstOfClosed dX13_isFirstOfClosed_39) rfl).trans ?_
            refine (rg_gf (pc := 40) (dd bX13_isFirstOfClosed dX13_isFirstOfClosed_40) (ci := 14) (j := 21) rfl rfl (key := 1521) rfl (kc := 34) rfl s3.1 s3.2.2.2.2.2.2.2.2.2.2.2.2.2.2.2.2.2.2.2.2.2.2.2.2.2.2.2.2.2.2.2.2.2.2.2.2.2.2.2.2.2.2.2.2.2.2.2.2.2.2.2.2.2.2.2.2.2.2.1).trans ?_
            refine (rn_iload (pc := 43) (dd bX13_isFirstOfClosed dX13_isFirstOfClosed_43) rfl).trans ?_
            refine (rg_iaload (pc := 45) (dd bX13_isFirstOfClosed dX13_isFirstOfClosed_45) s3.2.2.2.2.2.2.2.2.2.2.2.2.2.2.2.2.2.2.2.2.2.2.2.2.2.2.2.2.2.2.2.2.2.2.2.2.2.2.2.2.2.2.2.2.2.2.2.2.2.2.2.2.2.2.2.2.2.2.2.1 s3.2.2.2.2.2.2.2.2.2.2.2.2.2.2.2.2.2.2.2.2.2.2.2.2.2.2.2.2.2.2.2.2.2.2.2.2.2.2.2.2.2.2.2.2.2.2.2.2.2.2.2.2.2.2.2.2.2.2.2.2.1 (by have z0 := p9 c1 c2; have z1 := p10 c1 c2; omega) (by have z0 := p9 c1 c2; have z1 := p10 c1 c2; omega) rfl).trans ?_
            have e1 : vrun mX13_isFirstOfClosed 46 [(1, 282), (0, x1), (0, x2), (0, x3), (0, x4)] [(0, h 2 302 x4), (0, x2)] h = vrun mX13_isFirstOfClosed 54 [(1, 282), (0, x1), (0, x2), (0, x3), (0, x4)] [(0, (if x2 = h 2 302 x4 then 1 else 0))] h := by
              refine (rg_icmp_ne (t := 53) (pc := 46) (dd bX13_isFirstOfClosed dX13_isFirstOfClosed_46) rfl).trans ?_
              by_cases c4 : x2 = h 2 302 x4
              · refine (if_pos c4).trans ?_
                refine (rn_iconst (pc := 49) (dd bX13_isFirstOfClosed dX13_isFirstOfClosed_49) (by decide)).trans ?_
                refine (rn_goto (t := 54) (pc := 50) (dd bX13_isFirstOfClosed dX13_isFirstOfClosed_50) rfl).trans ?_
                refine Eq.trans (b := vrun mX13_isFirstOfClosed 54 [(1, 282), (0, x1), (0, x2), (0, x3), (0, x4)] [(0, 1)] h) rfl ?_
                simp only [c4, true_or, false_or, or_true, or_false, true_and, false_and, and_true, and_false, not_true_eq_false, not_false_eq_true, ne_eq, if_true, if_false, ↓reduceIte]
              · refine (if_neg c4).trans ?_
                refine (rn_iconst (pc := 53) (dd bX13_isFirstOfClosed dX13_isFirstOfClosed_53) (by decide)).trans ?_
                refine Eq.trans (b := vrun mX13_isFirstOfClosed 54 [(1, 282), (0, x1), (0, x2), (0, x3), (0, x4)] [(0, 0)] h) rfl ?_
                simp only [c4, true_or, false_or, or_true, or_false, true_and, false_and, and_true, and_false, not_true_eq_false, not_false_eq_true, ne_eq, if_true, if_false, ↓reduceIte]
            refine e1.trans ?_
            refine Eq.trans (b := vrun mX13_isFirstOfClosed 54 [(1, 282), (0, x1), (0, x2), (0, x3), (0, x4)] [(0, (if x2 = h 2 302 x4 then 1 else 0))] h) rfl ?_
            simp only [c3, true_or, false_or, or_true, or_false, true_and, false_and, and_true, and_false, not_true_eq_false, not_false_eq_true, ne_eq, if_true, if_false, ↓reduceIte]
        refine e2.trans ?_
        refine Eq.trans (b := vrun mX13_isFirstOfClosed 54 [(1, 282), (0, x1), (0, x2), (0, x3), (0, x4)] [(0, (if ¬ (h 2 304 x4 = 0) ∧ x2 = h 2 302 x4 then 1 else 0))] h) rfl ?_
        simp only [c2, true_or, false_or, or_true, or_false, true_and, false_and, and_true, and_false, not_true_eq_false, not_false_eq_true, ne_eq, if_true, if_false, ↓reduceIte]
      · refine (if_neg c2).trans ?_
        refine (rn_iconst (pc := 49) (dd bX13_isFirstOfClosed dX13_isFirstOfClosed_49) (by decide)).trans ?_
        refine (rn_goto (t := 54) (pc := 50) (dd bX13_isFirstOfClosed dX13_isFirstOfClosed_50) rfl).trans ?_
        refine Eq.trans (b := vrun mX13_isFirstOfClosed 54 [(1, 282), (0, x1), (0, x2), (0, x3), (0, x4)] [(0, 1)] h) rfl ?_
        simp only [c2, true_or, false_or, or_true, or_false, true_and, false_and, and_true, and_false, not_true_eq_false, not_false_eq_true, ne_eq, if_true, if_false, ↓reduceIte]
    refine e3.trans ?_
    refine (rn_istore_n (pc := 54) (dd bX13_isFirstOfClosed dX13_isFirstOfClosed_54) (Nat.le_of_ble_eq_true rfl) rfl).trans ?_
    refine (rg_iinc (pc := 55) (dd bX13_isFirstOfClosed dX13_isFirstOfClosed_55) rfl (Nat.le_of_ble_eq_true rfl) (p11 c1) (p12 c1) rfl).trans ?_
    refine (rn_goto (t := 8) (pc := 58) (dd bX13_isFirstOfClosed dX13_isFirstOfClosed_58) rfl).trans ?_
    rfl
theorem bX13_findsClusters : vmB mX13_findsClusters = cX13_findsClusters := rfl
theorem rX13_findsClusters_0 {x1 : Int} {x2 : Int} {h : vH} (s1 : shModel h) : vrun mX13_findsClusters 0 [(1, 282), (0, x1), (0, x2), (9, 0), (9, 0), (9, 0)] [] h = vrun mX13_findsClusters 10 [(1, 282), (0, x1), (0, x2), (0, 0), (0, 0), (9, 0)] [] (vup h 1540 282 0 0) := by
  refine (rn_aload_n (pc := 0) (dd bX13_findsClusters dX13_findsClusters_0) rfl).trans ?_
  refine (rn_iconst (pc := 1) (dd bX13_findsClusters dX13_findsClusters_1) (by decide)).trans ?_
  refine (rg_pf (pc := 2) (dd bX13_findsClusters dX13_findsClusters_2) (ci := 14) (j := 40) rfl (key := 1540) rfl (kc := 34) rfl s1.1 rfl (by intro z; cases z) (by decide)).trans ?_
  refine (rn_iconst (pc := 5) (dd bX13_findsClusters dX13_findsClusters_5) (by decide)).trans ?_
  refine (rn_istore_n (pc := 6) (dd bX13_findsClusters dX13_findsClusters_6) (Nat.le_of_ble_eq_true rfl) rfl).trans ?_
  refine (rn_iconst (pc := 7) (dd bX13_findsClusters dX13_findsClusters_7) (by decide)).trans ?_
  refine (rn_istore (pc := 8) (dd bX13_findsClusters dX13_findsClusters_8) (Nat.le_of_ble_eq_true rfl) rfl).trans ?_
  rfl
theorem rX13_findsClusters_10 {x1 : Int} {x2 : Int} {x3 : Int} {x4 : Int} {v5 : vv} {h : vH} (s1 : shModel h) (p2 : 0 ≤ x2) (p3 : x2 < 60) (p4 : ¬ (h 2 284 x2 ≤ x4) → (-2147483648) ≤ x4 + 1) (p5 : ¬ (h 2 284 x2 ≤ x4) → x4 + 1 < 2147483648) : vrun mX13_findsClusters 10 [(1, 282), (0, x1), (0, x2), (0, x3), (0, x4), v5] [] h = if h 2 284 x2 ≤ x4 then vret vrun mX13_findsClusters 124 [(1, 282), (0, x1), (0, x2), (0, x3), (0, x4), v5] [] (vcl mX13_addsVirtuals [(1, 282), (0, x1), (0, x2), (0, x3), (0, 80)] h) else vrun mX13_findsClusters 27 [(1, 282), (0, x1), (0, x2), (0, x3), (0, x4), (0, x4 + 1)] [] h := by
  refine (rn_iload (pc := 10) (dd bX13_findsClusters dX13_findsClusters_10) rfl).trans ?_
  refine (rn_aload_n (pc := 12) (dd bX13_findsClusters dX13_findsClusters_12) rfl).trans ?_
  refine (rg_gf (pc := 13) (dd bX13_findsClusters dX13_findsClusters_13) (ci := 14) (j := 2) rfl rfl (key := 1502) rfl (kc := 34) rfl s1.1 s1.2.2.2.2.1).trans ?_
  refine (rn_iload_n (pc := 16) (dd bX13_findsClusters dX13_findsClusters_16) rfl).trans ?_
  refine (rg_iaload (pc := 17) (dd bX13_findsClusters dX13_findsClusters_17) s1.2.2.2.2.2.1 s1.2.2.2.2.2.2.1 p2 p3 rfl).trans ?_
  refine (rn_icmp_ge (t := 118) (pc := 18) (dd bX13_findsClusters dX13_findsClusters_18) rfl).trans (itec (fun c1 => ?_) (fun c1 => ?_))
  · refine (rn_aload_n (pc := 118) (dd bX13_findsClusters dX13_findsClusters_118) rfl).trans ?_
    refine (rn_iload_n (pc := 119) (dd bX13_findsClusters dX13_findsClusters_119) rfl).trans ?_
    refine (rn_iload_n (pc := 120) (dd bX13_findsClusters dX13_findsClusters_120) rfl).trans ?_
    refine (rn_iload_n (pc := 121) (dd bX13_findsClusters dX13_findsClusters_121) rfl).trans ?_
    refine (rn_bipush (pc := 122) (dd bX13_findsClusters dX13_findsClusters_122) (by decide)).trans ?_
    exact rg_virtual (pc := 124) (dd bX13_findsClusters dX13_findsClusters_124) rfl rfl (by decide) (kc := 34) rfl s1.1 (as := [(1, 282), (0, x1), (0, x2), (0, x3), (0, 80)]) rfl ⟨Nat.le_of_ble_eq_true rfl, Nat.le_of_ble_eq_true rfl, Nat.le_of_ble_eq_true rfl, Nat.le_of_ble_eq_true rfl⟩
  · refine (rn_iload (pc := 21) (dd bX13_findsClusters dX13_findsClusters_21) rfl).trans ?_
    refine (rn_iconst (pc := 23) (dd bX13_findsClusters dX13_findsClusters_23) (by decide)).trans ?_
    refine (rg_iadd (pc := 24) (dd bX13_findsClusters dX13_findsClusters_24) (p4 c1) (p5 c1)).trans ?_
    refine (rn_istore (pc := 25) (dd bX13_findsClusters dX13_findsClusters_25) (Nat.le_of_ble_eq_true rfl) rfl).trans ?_
    rfl
theorem rX13_findsClusters_127 {x1 : Int} {x2 : Int} {x3 : Int} {x4 : Int} {v5 : vv} {h : vH} : vrun mX13_findsClusters 127 [(1, 282), (0, x1), (0, x2), (0, x3), (0, x4), v5] [] h = vrun mX13_findsClusters 130 [(1, 282), (0, x1), (0, x2), (0, x3), (0, x4), (0, 0)] [] h := by
  refine (rn_iconst (pc := 127) (dd bX13_findsClusters dX13_findsClusters_127) (by decide)).trans ?_
  refine (rn_istore (pc := 128) (dd bX13_findsClusters dX13_findsClusters_128) (Nat.le_of_ble_eq_true rfl) rfl).trans ?_
  rfl
theorem rX13_findsClusters_27 {x1 : Int} {x2 : Int} {x3 : Int} {x4 : Int} {x5 : Int} {h : vH} (s1 : shModel h) (p2 : 0 ≤ x2) (p3 : x2 < 60) (p4 : ¬ (h 2 284 x2 ≤ x5) → (-2147483648) ≤ 80 * x2) (p5 : ¬ (h 2 284 x2 ≤ x5) → 80 * x2 < 2147483648) (p6 : ¬ (h 2 284 x2 ≤ x5) → (-2147483648) ≤ 80 * x2 + x5) (p7 : ¬ (h 2 284 x2 ≤ x5) → 80 * x2 + x5 < 2147483648) (p8 : ¬ (h 2 284 x2 ≤ x5) → 0 ≤ 80 * x2 + x5) (p9 : ¬ (h 2 284 x2 ≤ x5) → 80 * x2 + x5 < 4800) (p10 : ¬ (h 2 284 x2 ≤ x5) → h 2 283 (80 * x2 + x5) = 126 → (-2147483648) ≤ x5 + 1) (p11 : ¬ (h 2 284 x2 ≤ x5) → h 2 283 (80 * x2 + x5) = 126 → x5 + 1 < 2147483648) : vrun mX13_findsClusters 27 [(1, 282), (0, x1), (0, x2), (0, x3), (0, x4), (0, x5)] [] h = if h 2 284 x2 ≤ x5 then vret vrun mX13_findsClusters 67 [(1, 282), (0, x1), (0, x2), (0, x3), (0, x4), (0, x5)] [] (vcl mX13_addsVirtuals [(1, 282), (0, x1), (0, x2), (0, x3), (0, x4)] h) else if h 2 283 (80 * x2 + x5) = 126 then vrun mX13_findsClusters 27 [(1, 282), (0, x1), (0, x2), (0, x3), (0, x4), (0, x5 + 1)] [] h else vret vrun mX13_findsClusters 67 [(1, 282), (0, x1), (0, x2), (0, x3), (0, x4), (0, x5)] [] (vcl mX13_addsVirtuals [(1, 282), (0, x1), (0, x2), (0, x3), (0, x4)] h) := by
  refine (rn_iload (pc := 27) (dd bX13_findsClusters dX13_findsClusters_27) rfl).trans ?_
  refine (rn_aload_n (pc := 29) (dd bX13_findsClusters dX13_findsClusters_29) rfl).trans ?_
  refine (rg_gf (pc := 30) (dd bX13_findsClusters dX13_findsClusters_30) (ci := 14) (j := 2) rfl rfl (key := 1502) rfl (kc := 34) rfl s1.1 s1.2.2.2.2.1).trans ?_
  refine (rn_iload_n (pc := 33) (dd bX13_findsClusters dX13_findsClusters_33) rfl).trans ?_
  refine (rg_iaload (pc := 34) (dd bX13_findsClusters dX13_findsClusters_34) s1.2.2.2.2.2.1 s1.2.2.2.2.2.2.1 p2 p3 rfl).trans ?_
  refine (rn_icmp_ge (t := 61) (pc := 35) (dd bX13_findsClusters dX13_findsClusters_35) rfl).trans (itec (fun c1 => ?_) (fun c1 => ?_))
  · refine (rn_aload_n (pc := 61) (dd bX13_findsClusters dX13_findsClusters_61) rfl).trans ?_
    refine (rn_iload_n (pc := 62) (dd bX13_findsClusters dX13_findsClusters_62) rfl).trans ?_
    refine (rn_iload_n (pc := 63) (dd bX13_findsClusters dX13_findsClusters_63) rfl).trans ?_
    refine (rn_iload_n (pc := 64) (dd bX13_findsClusters dX13_findsClusters_64) rfl).trans ?_
    refine (rn_iload (pc := 65) (dd bX13_findsClusters dX13_findsClusters_65) rfl).trans ?_
    exact rg_virtual (pc := 67) (dd bX13_findsClusters dX13_findsClusters_67) rfl rfl (by decide) (kc := 34) rfl s1.1 (as := [(1, 282), (0, x1), (0, x2), (0, x3), (0, x4)]) rfl ⟨Nat.le_of_ble_eq_true rfl, Nat.le_of_ble_eq_true rfl, Nat.le_of_ble_eq_true rfl, Nat.le_of_ble_eq_true rfl⟩
  · refine (rn_aload_n (pc := 38) (dd bX13_findsClusters dX13_findsClusters_38) rfl).trans ?_
    refine (rg_gf (pc := 39) (dd bX13_findsClusters dX13_findsClusters_39) (ci := 14) (j := 1) rfl rfl (key := 1501) rfl (kc := 34) rfl s1.1 s1.2.1).trans ?_
    refine (rn_bipush (pc := 42) (dd bX13_findsClusters dX13_findsClusters_42) (by decide)).trans ?_
    refine (rn_iload_n (pc := 44) (dd bX13_findsClusters dX13_findsClusters_44) rfl).trans ?_
    refine (rg_imul (pc := 45) (dd bX13_findsClusters dX13_findsClusters_45) (p4 c1) (p5 c1)).trans ?_
    refine (rn_iload (pc := 46) (dd bX13_findsClusters dX13_findsClusters_46) rfl).trans ?_
    refine (rg_iadd (pc := 48) (dd bX13_findsClusters dX13_findsClusters_48) (p6 c1) (p7 c1)).trans ?_
    refine (rg_iaload (pc := 49) (dd bX13_findsClusters dX13_findsClusters_49) s1.2.2.1 s1.2.2.2.1 (p8 c1) (p9 c1) rfl).trans ?_
    refine (rn_bipush (pc := 50) (dd bX13_findsClusters dX13_findsClusters_50) (by decide)).trans ?_
    refine (rg_icmp_ne (t := 61) (pc := 52) (dd bX13_findsClusters dX13_findsClusters_52) rfl).trans (itec (fun c2 => ?_) (fun c2 => ?_))
    · refine (rg_iinc (pc := 55) (dd bX13_findsClusters dX13_findsClusters_55) rfl (Nat.le_of_ble_eq_true rfl) (p10 c1 c2) (p11 c1 c2) rfl).trans ?_
      refine (rn_goto (t := 27) (pc := 58) (dd bX13_findsClusters dX13_findsClusters_58) rfl).trans ?_
      rfl
    · refine (rn_aload_n (pc := 61) (dd bX13_findsClusters dX13_findsClusters_61) rfl).trans ?_
      refine (rn_iload_n (pc := 62) (dd bX13_findsClusters dX13_findsClusters_62) rfl).trans ?_
      refine (rn_iload_n (pc := 63) (dd bX13_findsClusters dX13_findsClusters_63) rfl).trans ?_
      refine (rn_iload_n (pc := 64) (dd bX13_findsClusters dX13_findsClusters_64) rfl).trans ?_
      refine (rn_iload (pc := 65) (dd bX13_findsClusters dX13_findsClusters_65) rfl).trans ?_
      exact rg_virtual (pc := 67) (dd bX13_findsClusters dX13_findsClusters_67) rfl rfl (by decide) (kc := 34) rfl s1.1 (as := [(1, 282), (0, x1), (0, x2), (0, x3), (0, x4)]) rfl ⟨Nat.le_of_ble_eq_true rfl, Nat.le_of_ble_eq_true rfl, Nat.le_of_ble_eq_true rfl, Nat.le_of_ble_eq_true rfl⟩
theorem rX13_findsClusters_130 {x1 : Int} {x2 : Int} {x3 : Int} {x4 : Int} {x5 : Int} {h : vH} (s1 : shModel h) : vrun mX13_findsClusters 130 [(1, 282), (0, x1), (0, x2), (0, x3), (0, x4), (0, x5)] [] h = if 3 ≤ x5 then some (.inl none, h) else vret vrun mX13_findsClusters 139 [(1, 282), (0, x1), (0, x2), (0, x3), (0, x4), (0, x5)] [] (vcl mX13_isFirstOfClosed [(1, 282), (0, x1), (0, x2)] h) := by
  refine (rn_iload (pc := 130) (dd bX13_findsClusters dX13_findsClusters_130) rfl).trans ?_
  refine (rn_iconst (pc := 132) (dd bX13_findsClusters dX13_findsClusters_132) (by decide)).trans ?_
  refine (rn_icmp_ge (t := 165) (pc := 133) (dd bX13_findsClusters dX13_findsClusters_133) rfl).trans (itec (fun c1 => ?_) (fun c1 => ?_))
  · exact rn_return (pc := 165) (dd bX13_findsClusters dX13_findsClusters_165) rfl
  · refine (rn_aload_n (pc := 136) (dd bX13_findsClusters dX13_findsClusters_136) rfl).trans ?_
    refine (rn_iload_n (pc := 137) (dd bX13_findsClusters dX13_findsClusters_137) rfl).trans ?_
    refine (rn_iload_n (pc := 138) (dd bX13_findsClusters dX13_findsClusters_138) rfl).trans ?_
    exact rg_virtual (pc := 139) (dd bX13_findsClusters dX13_findsClusters_139) rfl rfl (by decide) (kc := 34) rfl s1.1 (as := [(1, 282), (0, x1), (0, x2)]) rfl ⟨Nat.le_of_ble_eq_true rfl, Nat.le_of_ble_eq_true rfl, Nat.le_of_ble_eq_true rfl, Nat.le_of_ble_eq_true rfl⟩
theorem rX13_findsClusters_70 {x1 : Int} {x2 : Int} {x3 : Int} {x4 : Int} {x5 : Int} {h : vH} (s1 : shModel h) : vrun mX13_findsClusters 70 [(1, 282), (0, x1), (0, x2), (0, x3), (0, x4), (0, x5)] [] h = vret vrun mX13_findsClusters 75 [(1, 282), (0, x1), (0, x2), (0, x3), (0, x4), (0, x5)] [] (vcl mX13_isHidden [(1, 282), (0, x1), (0, x2), (0, x4)] h) := by
  refine (rn_aload_n (pc := 70) (dd bX13_findsClusters dX13_findsClusters_70) rfl).trans ?_
  refine (rn_iload_n (pc := 71) (dd bX13_findsClusters dX13_findsClusters_71) rfl).trans ?_
  refine (rn_iload_n (pc := 72) (dd bX13_findsClusters dX13_findsClusters_72) rfl).trans ?_
  refine (rn_iload (pc := 73) (dd bX13_findsClusters dX13_findsClusters_73) rfl).trans ?_
  exact rg_virtual (pc := 75) (dd bX13_findsClusters dX13_findsClusters_75) rfl rfl (by decide) (kc := 34) rfl s1.1 (as := [(1, 282), (0, x1), (0, x2), (0, x4)]) rfl ⟨Nat.le_of_ble_eq_true rfl, Nat.le_of_ble_eq_true rfl, Nat.le_of_ble_eq_true rfl, Nat.le_of_ble_eq_true rfl⟩
theorem rX13_findsClusters_142 {x1 : Int} {x2 : Int} {x3 : Int} {x4 : Int} {x5 : Int} {y0 : Int} {h : vH} (s1 : shModel h) (p2 : ¬ (y0 = 0) → 0 ≤ x2) (p3 : ¬ (y0 = 0) → x2 < 60) : vrun mX13_findsClusters 142 [(1, 282), (0, x1), (0, x2), (0, x3), (0, x4), (0, x5)] [(0, y0)] h = if y0 = 0 then some (.inl none, h) else vret vrun mX13_findsClusters 156 [(1, 282), (0, x1), (0, x2), (0, x3), (0, x4), (0, x5)] [] (vcl mX13_adds [(1, 282), (0, 46), (0, 1), (0, (-1)), (0, h 2 284 x2)] h) := by
  refine (rn_if_eq (t := 165) (pc := 142) (dd bX13_findsClusters dX13_findsClusters_142) rfl).trans (itec (fun c1 => ?_) (fun c1 => ?_))
  · exact rn_return (pc := 165) (dd bX13_findsClusters dX13_findsClusters_165) rfl
  · refine (rn_aload_n (pc := 145) (dd bX13_findsClusters dX13_findsClusters_145) rfl).trans ?_
    refine (rn_bipush (pc := 146) (dd bX13_findsClusters dX13_findsClusters_146) (by decide)).trans ?_
    refine (rn_iconst (pc := 148) (dd bX13_findsClusters dX13_findsClusters_148) (by decide)).trans ?_
    refine (rn_iconst (pc := 149) (dd bX13_findsClusters dX13_findsClusters_149) (by decide)).trans ?_
    refine (rn_aload_n (pc := 150) (dd bX13_findsClusters dX13_findsClusters_150) rfl).trans ?_
    refine (rg_gf (pc := 151) (dd bX13_findsClusters dX13_findsClusters_151) (ci := 14) (j := 2) rfl rfl (key := 1502) rfl (kc := 34) rfl s1.1 s1.2.2.2.2.1).trans ?_
    refine (rn_iload_n (pc := 154) (dd bX13_findsClusters dX13_findsClusters_154) rfl).trans ?_
    refine (rg_iaload (pc := 155) (dd bX13_findsClusters dX13_findsClusters_155) s1.2.2.2.2.2.1 s1.2.2.2.2.2.2.1 (p2 c1) (p3 c1) rfl).trans ?_
    exact rg_virtual (pc := 156) (dd bX13_findsClusters dX13_findsClusters_156) rfl rfl (by decide) (kc := 34) rfl s1.1 (as := [(1, 282), (0, 46), (0, 1), (0, (-1)), (0, h 2 284 x2)]) rfl ⟨Nat.le_of_ble_eq_true rfl, Nat.le_of_ble_eq_true rfl, Nat.le_of_ble_eq_true rfl, Nat.le_of_ble_eq_true rfl⟩
theorem rX13_findsClusters_78 {x1 : Int} {x2 : Int} {x3 : Int} {x4 : Int} {x5 : Int} {y0 : Int} {h : vH} (s1 : shModel h) (p2 : y0 = 0 → (-2147483648) ≤ 80 * x2) (p3 : y0 = 0 → 80 * x2 < 2147483648) (p4 : y0 = 0 → (-2147483648) ≤ 80 * x2 + x4) (p5 : y0 = 0 → 80 * x2 + x4 < 2147483648) (p6 : y0 = 0 → 0 ≤ 80 * x2 + x4) (p7 : y0 = 0 → 80 * x2 + x4 < 4800) (p8 : y0 = 0 → (-2147483648) ≤ x5 - x4) (p9 : y0 = 0 → x5 - x4 < 2147483648) (p10 : ¬ (y0 = 0) → (-2147483648) ≤ x4 + 1) (p11 : ¬ (y0 = 0) → x4 + 1 < 2147483648) : vrun mX13_findsClusters 78 [(1, 282), (0, x1), (0, x2), (0, x3), (0, x4), (0, x5)] [(0, y0)] h = if y0 = 0 then vret vrun mX13_findsClusters 103 [(1, 282), (0, x1), (0, x2), (0, x3), (0, x4), (0, x5)] [] (vcl mX13_adds [(1, 282), (0, h 2 283 (80 * x2 + x4)), (0, x5 - x4), (0, x4), (0, x4)] h) else vrun mX13_findsClusters 10 [(1, 282), (0, x1), (0, x2), (0, x4 + 1), (0, x5), (0, x5)] [] h := by
  refine (rg_if_ne (t := 106) (pc := 78) (dd bX13_findsClusters dX13_findsClusters_78) rfl).trans (itec (fun c1 => ?_) (fun c1 => ?_))
  · refine (rn_aload_n (pc := 81) (dd bX13_findsClusters dX13_findsClusters_81) rfl).trans ?_
    refine (rn_aload_n (pc := 82) (dd bX13_findsClusters dX13_findsClusters_82) rfl).trans ?_
    refine (rg_gf (pc := 83) (dd bX13_findsClusters dX13_findsClusters_83) (ci := 14) (j := 1) rfl rfl (key := 1501) rfl (kc := 34) rfl s1.1 s1.2.1).trans ?_
    refine (rn_bipush (pc := 86) (dd bX13_findsClusters dX13_findsClusters_86) (by decide)).trans ?_
    refine (rn_iload_n (pc := 88) (dd bX13_findsClusters dX13_findsClusters_88) rfl).trans ?_
    refine (rg_imul (pc := 89) (dd bX13_findsClusters dX13_findsClusters_89) (p2 c1) (p3 c1)).trans ?_
    refine (rn_iload (pc := 90) (dd bX13_findsClusters dX13_findsClusters_90) rfl).trans ?_
    refine (rg_iadd (pc := 92) (dd bX13_findsClusters dX13_findsClusters_92) (p4 c1) (p5 c1)).trans ?_
    refine (rg_iaload (pc := 93) (dd bX13_findsClusters dX13_findsClusters_93) s1.2.2.1 s1.2.2.2.1 (p6 c1) (p7 c1) rfl).trans ?_
    refine (rn_iload (pc := 94) (dd bX13_findsClusters dX13_findsClusters_94) rfl).trans ?_
    refine (rn_iload (pc := 96) (dd bX13_findsClusters dX13_findsClusters_96) rfl).trans ?_
    refine (rg_isub (pc := 98) (dd bX13_findsClusters dX13_findsClusters_98) (p8 c1) (p9 c1)).trans ?_
    refine (rn_iload (pc := 99) (dd bX13_findsClusters dX13_findsClusters_99) rfl).trans ?_
    refine (rn_iload (pc := 101) (dd bX13_findsClusters dX13_findsClusters_101) rfl).trans ?_
    exact rg_virtual (pc := 103) (dd bX13_findsClusters dX13_findsClusters_103) rfl rfl (by decide) (kc := 34) rfl s1.1 (as := [(1, 282), (0, h 2 283 (80 * x2 + x4)), (0, x5 - x4), (0, x4), (0, x4)]) rfl ⟨Nat.le_of_ble_eq_true rfl, Nat.le_of_ble_eq_true rfl, Nat.le_of_ble_eq_true rfl, Nat.le_of_ble_eq_true rfl⟩
  · refine (rn_iload (pc := 106) (dd bX13_findsClusters dX13_findsClusters_106) rfl).trans ?_
    refine (rn_iconst (pc := 108) (dd bX13_findsClusters dX13_findsClusters_108) (by decide)).trans ?_
    refine (rg_iadd (pc := 109) (dd bX13_findsClusters dX13_findsClusters_109) (p10 c1) (p11 c1)).trans ?_
    refine (rn_istore_n (pc := 110) (dd bX13_findsClusters dX13_findsClusters_110) (Nat.le_of_ble_eq_true rfl) rfl).trans ?_
    refine (rn_iload (pc := 111) (dd bX13_findsClusters dX13_findsClusters_111) rfl).trans ?_
    refine (rn_istore (pc := 113) (dd bX13_findsClusters dX13_findsClusters_113) (Nat.le_of_ble_eq_true rfl) rfl).trans ?_
    refine (rn_goto (t := 10) (pc := 115) (dd bX13_findsClusters dX13_findsClusters_115) rfl).trans ?_
    rfl
theorem rX13_findsClusters_159 {x1 : Int} {x2 : Int} {x3 : Int} {x4 : Int} {x5 : Int} {h : vH} (p1 : (-2147483648) ≤ x5 + 1) (p2 : x5 + 1 < 2147483648) : vrun mX13_findsClusters 159 [(1, 282), (0, x1), (0, x2), (0, x3), (0, x4), (0, x5)] [] h = vrun mX13_findsClusters 130 [(1, 282), (0, x1), (0, x2), (0, x3), (0, x4), (0, x5 + 1)] [] h := by
  refine (rg_iinc (pc := 159) (dd bX13_findsClusters dX13_findsClusters_159) rfl (Nat.le_of_ble_eq_true rfl) p1 p2 rfl).trans ?_
  refine (rn_goto (t := 130) (pc := 162) (dd bX13_findsClusters dX13_findsClusters_162) rfl).trans ?_
  rfl
theorem rX13_findsClusters_106 {x1 : Int} {x2 : Int} {x3 : Int} {x4 : Int} {x5 : Int} {h : vH} (p1 : (-2147483648) ≤ x4 + 1) (p2 : x4 + 1 < 2147483648) : vrun mX13_findsClusters 106 [(1, 282), (0, x1), (0, x2), (0, x3), (0, x4), (0, x5)] [] h = vrun mX13_findsClusters 10 [(1, 282), (0, x1), (0, x2), (0, x4 + 1), (0, x5), (0, x5)] [] h := by
  refine (rn_iload (pc := 106) (dd bX13_findsClusters dX13_findsClusters_106) rfl).trans ?_
  refine (rn_iconst (pc := 108) (dd bX13_findsClusters dX13_findsClusters_108) (by decide)).trans ?_
  refine (rg_iadd (pc := 109) (dd bX13_findsClusters dX13_findsClusters_109) p1 p2).trans ?_
  refine (rn_istore_n (pc := 110) (dd bX13_findsClusters dX13_findsClusters_110) (Nat.le_of_ble_eq_true rfl) rfl).trans ?_
  refine (rn_iload (pc := 111) (dd bX13_findsClusters dX13_findsClusters_111) rfl).trans ?_
  refine (rn_istore (pc := 113) (dd bX13_findsClusters dX13_findsClusters_113) (Nat.le_of_ble_eq_true rfl) rfl).trans ?_
  refine (rn_goto (t := 10) (pc := 115) (dd bX13_findsClusters dX13_findsClusters_115) rfl).trans ?_
  rfl
theorem bX13_widthOf : vmB mX13_widthOf = cX13_widthOf := rfl
theorem rX13_widthOf_0 {x1 : Int} {x2 : Int} {h : vH} (s1 : shModel h) (p2 : 0 ≤ x1) (p3 : x1 < 140) (p4 : h 2 311 x1 = 9 → 0 ≤ x2) : vrun mX13_widthOf 0 [(1, 282), (0, x1), (0, x2)] [] h = some (.inl (some (0, (if h 2 311 x1 = 9 then 4 - x2 % 4 else (if ¬ (h 2 311 x1 < 65) ∧ ¬ (90 < h 2 311 x1) then 2 else 1)))), h) := by
  refine (rn_aload_n (pc := 0) (dd bX13_widthOf dX13_widthOf_0) rfl).trans ?_
  refine (rg_gf (pc := 1) (dd bX13_widthOf dX13_widthOf_1) (ci := 14) (j := 30) rfl rfl (key := 1530) rfl (kc := 34) rfl s1.1 s1.2.2.2.2.2.2.2.2.2.2.2.2.2.2.2.2.2.2.2.2.2.2.2.2.2.2.2.2.2.2.2.2.2.2.2.2.2.2.2.2.2.2.2.2.2.2.2.2.2.2.2.2.2.2.2.2.2.2.2.2.2.2.2.2.2.2.2.2.2.2.2.2.2.2.2.2.2.2.2.2.2.2.2.2.2.1).trans ?_
  refine (rn_iload_n (pc := 4) (dd bX13_widthOf dX13_widthOf_4) rfl).trans ?_
  refine (rg_iaload (pc := 5) (dd bX13_widthOf dX13_widthOf_5) s1.2.2.2.2.2.2.2.2.2.2.2.2.2.2.2.2.2.2.2.2.2.2.2.2.2.2.2.2.2.2.2.2.2.2.2.2.2.2.2.2.2.2.2.2.2.2.2.2.2.2.2.2.2.2.2.2.2.2.2.2.2.2.2.2.2.2.2.2.2.2.2.2.2.2.2.2.2.2.2.2.2.2.2.2.2.2.1 s1.2.2.2.2.2.2.2.2.2.2.2.2.2.2.2.2.2.2.2.2.2.2.2.2.2.2.2.2.2.2.2.2.2.2.2.2.2.2.2.2.2.2.2.2.2.2.2.2.2.2.2.2.2.2.2.2.2.2.2.2.2.2.2.2.2.2.2.2.2.2.2.2.2.2.2.2.2.2.2.2.2.2.2.2.2.2.2.1 p2 p3 rfl).trans ?_
  refine (rn_bipush (pc := 6) (dd bX13_widthOf dX13_widthOf_6) (by decide)).trans ?_
  have e2 : vrun mX13_widthOf 8 [(1, 282), (0, x1), (0, x2)] [(0, 9), (0, h 2 311 x1)] h = vrun mX13_widthOf 40 [(1, 282), (0, x1), (0, x2)] [(0, (if h 2 311 x1 = 9 then 4 - x2 % 4 else (if ¬ (h 2 311 x1 < 65) ∧ ¬ (90 < h 2 311 x1) then 2 else 1)))] h := by
    refine (rg_icmp_ne (t := 19) (pc := 8) (dd bX13_widthOf dX13_widthOf_8) rfl).trans ?_
    by_cases c1 : h 2 311 x1 = 9
    · refine (if_pos c1).trans ?_
      refine (rn_iconst (pc := 11) (dd bX13_widthOf dX13_widthOf_11) (by decide)).trans ?_
      refine (rn_iload_n (pc := 12) (dd bX13_widthOf dX13_widthOf_12) rfl).trans ?_
      refine (rn_iconst (pc := 13) (dd bX13_widthOf dX13_widthOf_13) (by decide)).trans ?_
      refine (rg_irem (pc := 14) (dd bX13_widthOf dX13_widthOf_14) (by decide) (p4 c1)).trans ?_
      refine (rg_isub (pc := 15) (dd bX13_widthOf dX13_widthOf_15) (by omega) (by omega)).trans ?_
      refine (rn_goto (t := 40) (pc := 16) (dd bX13_widthOf dX13_widthOf_16) rfl).trans ?_
      refine Eq.trans (b := vrun mX13_widthOf 40 [(1, 282), (0, x1), (0, x2)] [(0, 4 - x2 % 4)] h) rfl ?_
      simp only [if_pos c1]
    · refine (if_neg c1).trans ?_
      refine (rn_aload_n (pc := 19) (dd bX13_widthOf dX13_widthOf_19) rfl).trans ?_
      refine (rg_gf (pc := 20) (dd bX13_widthOf dX13_widthOf_20) (ci := 14) (j := 30) rfl rfl (key := 1530) rfl (kc := 34) rfl s1.1 s1.2.2.2.2.2.2.2.2.2.2.2.2.2.2.2.2.2.2.2.2.2.2.2.2.2.2.2.2.2.2.2.2.2.2.2.2.2.2.2.2.2.2.2.2.2.2.2.2.2.2.2.2.2.2.2.2.2.2.2.2.2.2.2.2.2.2.2.2.2.2.2.2.2.2.2.2.2.2.2.2.2.2.2.2.2.1).trans ?_
      refine (rn_iload_n (pc := 23) (dd bX13_widthOf dX13_widthOf_23) rfl).trans ?_
      refine (rg_iaload (pc := 24) (dd bX13_widthOf dX13_widthOf_24) s1.2.2.2.2.2.2.2.2.2.2.2.2.2.2.2.2.2.2.2.2.2.2.2.2.2.2.2.2.2.2.2.2.2.2.2.2.2.2.2.2.2.2.2.2.2.2.2.2.2.2.2.2.2.2.2.2.2.2.2.2.2.2.2.2.2.2.2.2.2.2.2.2.2.2.2.2.2.2.2.2.2.2.2.2.2.2.1 s1.2.2.2.2.2.2.2.2.2.2.2.2.2.2.2.2.2.2.2.2.2.2.2.2.2.2.2.2.2.2.2.2.2.2.2.2.2.2.2.2.2.2.2.2.2.2.2.2.2.2.2.2.2.2.2.2.2.2.2.2.2.2.2.2.2.2.2.2.2.2.2.2.2.2.2.2.2.2.2.2.2.2.2.2.2.2.2.1 (by omega) (by omega) rfl).trans ?_
      refine (rn_bipush (pc := 25) (dd bX13_widthOf dX13_widthOf_25) (by decide)).trans ?_
      refine (rn_bipush (pc := 27) (dd bX13_widthOf dX13_widthOf_27) (by decide)).trans ?_
      refine (rg_static (pc := 29) (dd bX13_widthOf dX13_widthOf_29) rfl (by decide) (Nat.le_of_ble_eq_true rfl) (as := [(0, h 2 311 x1), (0, 65), (0, 90)]) rfl rfl ⟨Nat.le_of_ble_eq_true rfl, Nat.le_of_ble_eq_true rfl, Nat.le_of_ble_eq_true rfl, Nat.le_of_ble_eq_true rfl⟩).trans ?_
      refine (vret_v spX13_isIn).trans ?_
      have e1 : vrun mX13_widthOf 32 [(1, 282), (0, x1), (0, x2)] [(0, (if ¬ (h 2 311 x1 < 65) ∧ ¬ (90 < h 2 311 x1) then 1 else 0))] h = vrun mX13_widthOf 40 [(1, 282), (0, x1), (0, x2)] [(0, (if ¬ (h 2 311 x1 < 65) ∧ ¬ (90 < h 2 311 x1) then 2 else 1))] h := by
        refine (rg_beq (t := 39) (pc := 32) (dd bX13_widthOf dX13_widthOf_32) rfl).trans ?_
        by_cases c2 : ¬ (h 2 311 x1 < 65) ∧ ¬ (90 < h 2 311 x1)
        · refine (if_pos c2).trans ?_
          refine (rn_iconst (pc := 35) (dd bX13_widthOf dX13_widthOf_35) (by decide)).trans ?_
          refine (rn_goto (t := 40) (pc := 36) (dd bX13_widthOf dX13_widthOf_36) rfl).trans ?_
          refine Eq.trans (b := vrun mX13_widthOf 40 [(1, 282), (0, x1), (0, x2)] [(0, 2)] h) rfl ?_
          simp only [if_pos c2]
        · refine (if_neg c2).trans ?_
          refine (rn_iconst (pc := 39) (dd bX13_widthOf dX13_widthOf_39) (by decide)).trans ?_
          refine Eq.trans (b := vrun mX13_widthOf 40 [(1, 282), (0, x1), (0, x2)] [(0, 1)] h) rfl ?_
          simp only [if_neg c2]
      refine e1.trans ?_
      refine Eq.trans (b := vrun mX13_widthOf 40 [(1, 282), (0, x1), (0, x2)] [(0, (if ¬ (h 2 311 x1 < 65) ∧ ¬ (90 < h 2 311 x1) then 2 else 1))] h) rfl ?_
      simp only [if_neg c1]
  refine e2.trans ?_
  exact rn_ireturn (pc := 40) (dd bX13_widthOf dX13_widthOf_40) (Or.inl rfl)
def fX13_widthOf (h : vH) (x1 : Int) (x2 : Int) : Int := (if h 2 311 x1 = 9 then 4 - x2 % 4 else (if ¬ (h 2 311 x1 < 65) ∧ ¬ (90 < h 2 311 x1) then 2 else 1))
theorem spX13_widthOf {x1 : Int} {x2 : Int} {h : vH} (s1 : shModel h) (p2 : 0 ≤ x1) (p3 : x1 < 140) (p4 : h 2 311 x1 = 9 → 0 ≤ x2) : vcl mX13_widthOf [(1, 282), (0, x1), (0, x2)] h = some (.inl (some (0, fX13_widthOf h x1 x2)), h) := by
  refine (show _ = _ from rX13_widthOf_0 s1 p2 p3 p4).trans ?_
  rfl
theorem bX13_isBlank : vmB mX13_isBlank = cX13_isBlank := rfl
theorem rX13_isBlank_0 {x1 : Int} {h : vH} (s1 : shModel h) (p2 : 0 ≤ x1) (p3 : x1 < 140) : vrun mX13_isBlank 0 [(1, 282), (0, x1)] [] h = some (.inl (some (0, (if h 2 311 x1 = 32 ∨ h 2 311 x1 = 9 then 1 else 0))), h) := by
  refine (rn_aload_n (pc := 0) (dd bX13_isBlank dX13_isBlank_0) rfl).trans ?_
  refine (rg_gf (pc := 1) (dd bX13_isBlank dX13_isBlank_1) (ci := 14) (j := 30) rfl rfl (key := 1530) rfl (kc := 34) rfl s1.1 s1.2.2.2.2.2.2.2.2.2.2.2.2.2.2.2.2.2.2.2.2.2.2.2.2.2.2.2.2.2.2.2.2.2.2.2.2.2.2.2.2.2.2.2.2.2.2.2.2.2.2.2.2.2.2.2.2.2.2.2.2.2.2.2.2.2.2.2.2.2.2.2.2.2.2.2.2.2.2.2.2.2.2.2.2.2.1).trans ?_
  refine (rn_iload_n (pc := 4) (dd bX13_isBlank dX13_isBlank_4) rfl).trans ?_
  refine (rg_iaload (pc := 5) (dd bX13_isBlank dX13_isBlank_5) s1.2.2.2.2.2.2.2.2.2.2.2.2.2.2.2.2.2.2.2.2.2.2.2.2.2.2.2.2.2.2.2.2.2.2.2.2.2.2.2.2.2.2.2.2.2.2.2.2.2.2.2.2.2.2.2.2.2.2.2.2.2.2.2.2.2.2.2.2.2.2.2.2.2.2.2.2.2.2.2.2.2.2.2.2.2.2.1 s1.2.2.2.2.2.2.2.2.2.2.2.2.2.2.2.2.2.2.2.2.2.2.2.2.2.2.2.2.2.2.2.2.2.2.2.2.2.2.2.2.2.2.2.2.2.2.2.2.2.2.2.2.2.2.2.2.2.2.2.2.2.2.2.2.2.2.2.2.2.2.2.2.2.2.2.2.2.2.2.2.2.2.2.2.2.2.2.1 p2 p3 rfl).trans ?_
  refine (rn_bipush (pc := 6) (dd bX13_isBlank dX13_isBlank_6) (by decide)).trans ?_
  have e2 : vrun mX13_isBlank 8 [(1, 282), (0, x1)] [(0, 32), (0, h 2 311 x1)] h = vrun mX13_isBlank 27 [(1, 282), (0, x1)] [(0, (if h 2 311 x1 = 32 ∨ h 2 311 x1 = 9 then 1 else 0))] h := by
    refine (rn_icmp_eq (t := 22) (pc := 8) (dd bX13_isBlank dX13_isBlank_8) rfl).trans ?_
    by_cases c1 : h 2 311 x1 = 32
    · refine (if_pos c1).trans ?_
      refine (rn_iconst (pc := 22) (dd bX13_isBlank dX13_isBlank_22) (by decide)).trans ?_
      refine (rn_goto (t := 27) (pc := 23) (dd bX13_isBlank dX13_isBlank_23) rfl).trans ?_
      refine Eq.trans (b := vrun mX13_isBlank 27 [(1, 282), (0, x1)] [(0, 1)] h) rfl ?_
      simp only [c1, true_or, false_or, or_true, or_false, true_and, false_and, and_true, and_false, not_true_eq_false, not_false_eq_true, ne_eq, if_true, if_false, ↓reduceIte]
    · refine (if_neg c1).trans ?_
      refine (rn_aload_n (pc := 11) (dd bX13_isBlank dX13_isBlank_11) rfl).trans ?_
      refine (rg_gf (pc := 12) (dd bX13_isBlank dX13_isBlank_12) (ci := 14) (j := 30) rfl rfl (key := 1530) rfl (kc := 34) rfl s1.1 s1.2.2.2.2.2.2.2.2.2.2.2.2.2.2.2.2.2.2.2.2.2.2.2.2.2.2.2.2.2.2.2.2.2.2.2.2.2.2.2.2.2.2.2.2.2.2.2.2.2.2.2.2.2.2.2.2.2.2.2.2.2.2.2.2.2.2.2.2.2.2.2.2.2.2.2.2.2.2.2.2.2.2.2.2.2.1).trans ?_
      refine (rn_iload_n (pc := 15) (dd bX13_isBlank dX13_isBlank_15) rfl).trans ?_
      refine (rg_iaload (pc := 16) (dd bX13_isBlank dX13_isBlank_16) s1.2.2.2.2.2.2.2.2.2.2.2.2.2.2.2.2.2.2.2.2.2.2.2.2.2.2.2.2.2.2.2.2.2.2.2.2.2.2.2.2.2.2.2.2.2.2.2.2.2.2.2.2.2.2.2.2.2.2.2.2.2.2.2.2.2.2.2.2.2.2.2.2.2.2.2.2.2.2.2.2.2.2.2.2.2.2.1 s1.2.2.2.2.2.2.2.2.2.2.2.2.2.2.2.2.2.2.2.2.2.2.2.2.2.2.2.2.2.2.2.2.2.2.2.2.2.2.2.2.2.2.2.2.2.2.2.2.2.2.2.2.2.2.2.2.2.2.2.2.2.2.2.2.2.2.2.2.2.2.2.2.2.2.2.2.2.2.2.2.2.2.2.2.2.2.2.1 (by omega) (by omega) rfl).trans ?_
      refine (rn_bipush (pc := 17) (dd bX13_isBlank dX13_isBlank_17) (by decide)).trans ?_
      have e1 : vrun mX13_isBlank 19 [(1, 282), (0, x1)] [(0, 9), (0, h 2 311 x1)] h = vrun mX13_isBlank 27 [(1, 282), (0, x1)] [(0, (if h 2 311 x1 = 9 then 1 else 0))] h := by
        refine (rg_icmp_ne (t := 26) (pc := 19) (dd bX13_isBlank dX13_isBlank_19) rfl).trans ?_
        by_cases c2 : h 2 311 x1 = 9
        · refine (if_pos c2).trans ?_
          refine (rn_iconst (pc := 22) (dd bX13_isBlank dX13_isBlank_22) (by decide)).trans ?_
          refine (rn_goto (t := 27) (pc := 23) (dd bX13_isBlank dX13_isBlank_23) rfl).trans ?_
          refine Eq.trans (b := vrun mX13_isBlank 27 [(1, 282), (0, x1)] [(0, 1)] h) rfl ?_
          simp only [c2, true_or, false_or, or_true, or_false, true_and, false_and, and_true, and_false, not_true_eq_false, not_false_eq_true, ne_eq, if_true, if_false, ↓reduceIte]
        · refine (if_neg c2).trans ?_
          refine (rn_iconst (pc := 26) (dd bX13_isBlank dX13_isBlank_26) (by decide)).trans ?_
          refine Eq.trans (b := vrun mX13_isBlank 27 [(1, 282), (0, x1)] [(0, 0)] h) rfl ?_
          simp only [c2, true_or, false_or, or_true, or_false, true_and, false_and, and_true, and_false, not_true_eq_false, not_false_eq_true, ne_eq, if_true, if_false, ↓reduceIte]
      refine e1.trans ?_
      refine Eq.trans (b := vrun mX13_isBlank 27 [(1, 282), (0, x1)] [(0, (if h 2 311 x1 = 9 then 1 else 0))] h) rfl ?_
      simp only [c1, true_or, false_or, or_true, or_false, true_and, false_and, and_true, and_false, not_true_eq_false, not_false_eq_true, ne_eq, if_true, if_false, ↓reduceIte]
  refine e2.trans ?_
  exact rn_ireturn (pc := 27) (dd bX13_isBlank dX13_isBlank_27) (Or.inr ⟨rfl, b01⟩)
def fX13_isBlank (h : vH) (x1 : Int) : Int := (if h 2 311 x1 = 32 ∨ h 2 311 x1 = 9 then 1 else 0)
theorem spX13_isBlank {x1 : Int} {h : vH} (s1 : shModel h) (p2 : 0 ≤ x1) (p3 : x1 < 140) : vcl mX13_isBlank [(1, 282), (0, x1)] h = some (.inl (some (0, fX13_isBlank h x1)), h) := by
  refine (show _ = _ from rX13_isBlank_0 s1 p2 p3).trans ?_
  rfl
theorem bX13_laysRows : vmB mX13_laysRows = cX13_laysRows := rfl
theorem rX13_laysRows_0 {x1 : Int} {h : vH} (s1 : shModel h) : vrun mX13_laysRows 0 [(1, 282), (0, x1), (9, 0), (9, 0), (9, 0)] [] h = vrun mX13_laysRows 7 [(1, 282), (0, x1), (0, 0), (9, 0), (9, 0)] [] (vup h 1541 282 0 0) := by
  refine (rn_aload_n (pc := 0) (dd bX13_laysRows dX13_laysRows_0) rfl).trans ?_
  refine (rn_iconst (pc := 1) (dd bX13_laysRows dX13_laysRows_1) (by decide)).trans ?_
  refine (rg_pf (pc := 2) (dd bX13_laysRows dX13_laysRows_2) (ci := 14) (j := 41) rfl (key := 1541) rfl (kc := 34) rfl s1.1 rfl (by intro z; cases z) (by decide)).trans ?_
  refine (rn_iconst (pc := 5) (dd bX13_laysRows dX13_laysRows_5) (by decide)).trans ?_
  refine (rn_istore_n (pc := 6) (dd bX13_laysRows dX13_laysRows_6) (Nat.le_of_ble_eq_true rfl) rfl).trans ?_
  rfl
theorem rX13_laysRows_7 {x1 : Int} {x2 : Int} {v3 : vv} {v4 : vv} {h : vH} (s1 : shModel h) (p2 : x2 < h 1540 282 0 → 0 ≤ h 1541 282 0) (p3 : x2 < h 1540 282 0 → h 1541 282 0 < 142) (p4 : x2 < h 1540 282 0 → ¬ (h 1541 282 0 = 0) → 0 ≤ x1) (p5 : x2 < h 1540 282 0 → ¬ (h 1541 282 0 = 0) → x1 < 4) (p6 : ¬ (x2 < h 1540 282 0) → h 1541 282 0 = 0 → ¬ (h 1541 282 0 = 0) → 0 ≤ x1) (p7 : ¬ (x2 < h 1540 282 0) → h 1541 282 0 = 0 → ¬ (h 1541 282 0 = 0) → x1 < 4) (p8 : ¬ (x2 < h 1540 282 0) → ¬ (h 1541 282 0 = 0) → 0 ≤ h 1541 282 0) (p9 : ¬ (x2 < h 1540 282 0) → ¬ (h 1541 282 0 = 0) → h 1541 282 0 < 142) : vrun mX13_laysRows 7 [(1, 282), (0, x1), (0, x2), v3, v4] [] h = if x2 < h 1540 282 0 then vrun mX13_laysRows 53 [(1, 282), (0, x1), (0, x2), (0, (if h 1541 282 0 = 0 then 0 else h 2 287 x1)), (0, (-1))] [] (vup h 2 320 (h 1541 282 0) x2) else if h 1541 282 0 = 0 then vrun mX13_laysRows 53 [(1, 282), (0, x1), (0, x2), (0, (if h 1541 282 0 = 0 then 0 else h 2 287 x1)), (0, (-1))] [] (vup h 2 320 (h 1541 282 0) x2) else vrun mX13_laysRows 204 [(1, 282), (0, x1), (0, x2), (0, 0), v4] [] (vup h 2 320 (h 1541 282 0) (h 1540 282 0)) := by
  refine (rn_iload_n (pc := 7) (dd bX13_laysRows dX13_laysRows_7) rfl).trans ?_
  refine (rn_aload_n (pc := 8) (dd bX13_laysRows dX13_laysRows_8) rfl).trans ?_
  refine (rg_gf (pc := 9) (dd bX13_laysRows dX13_laysRows_9) (ci := 14) (j := 40) rfl rfl (key := 1540) rfl (kc := 34) rfl s1.1 rfl).trans ?_
  refine (rn_icmp_lt (t := 22) (pc := 12) (dd bX13_laysRows dX13_laysRows_12) rfl).trans (itec (fun c1 => ?_) (fun c1 => ?_))
  · refine (rn_aload_n (pc := 22) (dd bX13_laysRows dX13_laysRows_22) rfl).trans ?_
    refine (rg_gf (pc := 23) (dd bX13_laysRows dX13_laysRows_23) (ci := 14) (j := 39) rfl rfl (key := 1539) rfl (kc := 34) rfl s1.1 s1.2.2.2.2.2.2.2.2.2.2.2.2.2.2.2.2.2.2.2.2.2.2.2.2.2.2.2.2.2.2.2.2.2.2.2.2.2.2.2.2.2.2.2.2.2.2.2.2.2.2.2.2.2.2.2.2.2.2.2.2.2.2.2.2.2.2.2.2.2.2.2.2.2.2.2.2.2.2.2.2.2.2.2.2.2.2.2.2.2.2.2.2.2.2.2.2.2.2.2.2.2.2.2.2.2.2.2.2.2.2.2.2.1).trans ?_
    refine (rn_aload_n (pc := 26) (dd bX13_laysRows dX13_laysRows_26) rfl).trans ?_
    refine (rg_gf (pc := 27) (dd bX13_laysRows dX13_laysRows_27) (ci := 14) (j := 41) rfl rfl (key := 1541) rfl (kc := 34) rfl s1.1 rfl).trans ?_
    refine (rn_iload_n (pc := 30) (dd bX13_laysRows dX13_laysRows_30) rfl).trans ?_
    refine (rg_iastore (pc := 31) (dd bX13_laysRows dX13_laysRows_31) s1.2.2.2.2.2.2.2.2.2.2.2.2.2.2.2.2.2.2.2.2.2.2.2.2.2.2.2.2.2.2.2.2.2.2.2.2.2.2.2.2.2.2.2.2.2.2.2.2.2.2.2.2.2.2.2.2.2.2.2.2.2.2.2.2.2.2.2.2.2.2.2.2.2.2.2.2.2.2.2.2.2.2.2.2.2.2.2.2.2.2.2.2.2.2.2.2.2.2.2.2.2.2.2.2.2.2.2.2.2.2.2.2.2.1 s1.2.2.2.2.2.2.2.2.2.2.2.2.2.2.2.2.2.2.2.2.2.2.2.2.2.2.2.2.2.2.2.2.2.2.2.2.2.2.2.2.2.2.2.2.2.2.2.2.2.2.2.2.2.2.2.2.2.2.2.2.2.2.2.2.2.2.2.2.2.2.2.2.2.2.2.2.2.2.2.2.2.2.2.2.2.2.2.2.2.2.2.2.2.2.2.2.2.2.2.2.2.2.2.2.2.2.2.2.2.2.2.2.2.2.1 (p2 c1) (p3 c1)).trans ?_
    refine (rn_aload_n (pc := 32) (dd bX13_laysRows dX13_laysRows_32) rfl).trans ?_
    refine (rg_gf (pc := 33) (dd bX13_laysRows dX13_laysRows_33) (ci := 14) (j := 41) rfl rfl (key := 1541) rfl (kc := 34) rfl ((vup_k (by decide)).trans s1.1) ((vup_k (by decide)).trans rfl)).trans ?_
    have e1 : vrun mX13_laysRows 36 [(1, 282), (0, x1), (0, x2), v3, v4] [(0, h 1541 282 0)] (vup h 2 320 (h 1541 282 0) x2) = vrun mX13_laysRows 49 [(1, 282), (0, x1), (0, x2), v3, v4] [(0, (if h 1541 282 0 = 0 then 0 else h 2 287 x1))] (vup h 2 320 (h 1541 282 0) x2) := by
      refine (rg_if_ne (t := 43) (pc := 36) (dd bX13_laysRows dX13_laysRows_36) rfl).trans ?_
      by_cases c2 : h 1541 282 0 = 0
      · refine (if_pos c2).trans ?_
        refine (rn_iconst (pc := 39) (dd bX13_laysRows dX13_laysRows_39) (by decide)).trans ?_
        refine (rn_goto (t := 49) (pc := 40) (dd bX13_laysRows dX13_laysRows_40) rfl).trans ?_
        refine Eq.trans (b := vrun mX13_laysRows 49 [(1, 282), (0, x1), (0, x2), v3, v4] [(0, 0)] (vup h 2 320 (h 1541 282 0) x2)) rfl ?_
        simp only [if_pos c2]
      · refine (if_neg c2).trans ?_
        refine (rn_aload_n (pc := 43) (dd bX13_laysRows dX13_laysRows_43) rfl).trans ?_
        refine (rg_gf (pc := 44) (dd bX13_laysRows dX13_laysRows_44) (ci := 14) (j := 6) rfl rfl (key := 1506) rfl (kc := 34) rfl ((vup_k (by decide)).trans s1.1) ((vup_k (by decide)).trans s1.2.2.2.2.2.2.2.2.2.2.2.2.2.1)).trans ?_
        refine (rn_iload_n (pc := 47) (dd bX13_laysRows dX13_laysRows_47) rfl).trans ?_
        refine (rg_iaload (pc := 48) (dd bX13_laysRows dX13_laysRows_48) ((vup_k (by decide)).trans s1.2.2.2.2.2.2.2.2.2.2.2.2.2.2.1) ((vup_k (by decide)).trans s1.2.2.2.2.2.2.2.2.2.2.2.2.2.2.2.1) (p4 c1 c2) (p5 c1 c2) ((vup_r (by omega)).trans rfl)).trans ?_
        refine Eq.trans (b := vrun mX13_laysRows 49 [(1, 282), (0, x1), (0, x2), v3, v4] [(0, h 2 287 x1)] (vup h 2 320 (h 1541 282 0) x2)) rfl ?_
        simp only [if_neg c2]
    refine e1.trans ?_
    refine (rn_istore_n (pc := 49) (dd bX13_laysRows dX13_laysRows_49) (Nat.le_of_ble_eq_true rfl) rfl).trans ?_
    refine (rn_iconst (pc := 50) (dd bX13_laysRows dX13_laysRows_50) (by decide)).trans ?_
    refine (rn_istore (pc := 51) (dd bX13_laysRows dX13_laysRows_51) (Nat.le_of_ble_eq_true rfl) rfl).trans ?_
    rfl
  · refine (rn_aload_n (pc := 15) (dd bX13_laysRows dX13_laysRows_15) rfl).trans ?_
    refine (rg_gf (pc := 16) (dd bX13_laysRows dX13_laysRows_16) (ci := 14) (j := 41) rfl rfl (key := 1541) rfl (kc := 34) rfl s1.1 rfl).trans ?_
    refine (rg_if_ne (t := 189) (pc := 19) (dd bX13_laysRows dX13_laysRows_19) rfl).trans (itec (fun c3 => ?_) (fun c3 => ?_))
    · refine (rn_aload_n (pc := 22) (dd bX13_laysRows dX13_laysRows_22) rfl).trans ?_
      refine (rg_gf (pc := 23) (dd bX13_laysRows dX13_laysRows_23) (ci := 14) (j := 39) rfl rfl (key := 1539) rfl (kc := 34) rfl s1.1 s1.2.2.2.2.2.2.2.2.2.2.2.2.2.2.2.2.2.2.2.2.2.2.2.2.2.2.2.2.2.2.2.2.2.2.2.2.2.2.2.2.2.2.2.2.2.2.2.2.2.2.2.2.2.2.2.2.2.2.2.2.2.2.2.2.2.2.2.2.2.2.2.2.2.2.2.2.2.2.2.2.2.2.2.2.2.2.2.2.2.2.2.2.2.2.2.2.2.2.2.2.2.2.2.2.2.2.2.2.2.2.2.2.1).trans ?_
      refine (rn_aload_n (pc := 26) (dd bX13_laysRows dX13_laysRows_26) rfl).trans ?_
      refine (rg_gf (pc := 27) (dd bX13_laysRows dX13_laysRows_27) (ci := 14) (j := 41) rfl rfl (key := 1541) rfl (kc := 34) rfl s1.1 rfl).trans ?_
      refine (rn_iload_n (pc := 30) (dd bX13_laysRows dX13_laysRows_30) rfl).trans ?_
      refine (rg_iastore (pc := 31) (dd bX13_laysRows dX13_laysRows_31) s1.2.2.2.2.2.2.2.2.2.2.2.2.2.2.2.2.2.2.2.2.2.2.2.2.2.2.2.2.2.2.2.2.2.2.2.2.2.2.2.2.2.2.2.2.2.2.2.2.2.2.2.2.2.2.2.2.2.2.2.2.2.2.2.2.2.2.2.2.2.2.2.2.2.2.2.2.2.2.2.2.2.2.2.2.2.2.2.2.2.2.2.2.2.2.2.2.2.2.2.2.2.2.2.2.2.2.2.2.2.2.2.2.2.1 s1.2.2.2.2.2.2.2.2.2.2.2.2.2.2.2.2.2.2.2.2.2.2.2.2.2.2.2.2.2.2.2.2.2.2.2.2.2.2.2.2.2.2.2.2.2.2.2.2.2.2.2.2.2.2.2.2.2.2.2.2.2.2.2.2.2.2.2.2.2.2.2.2.2.2.2.2.2.2.2.2.2.2.2.2.2.2.2.2.2.2.2.2.2.2.2.2.2.2.2.2.2.2.2.2.2.2.2.2.2.2.2.2.2.2.1 (by omega) (by omega)).trans ?_
      refine (rn_aload_n (pc := 32) (dd bX13_laysRows dX13_laysRows_32) rfl).trans ?_
      refine (rg_gf (pc := 33) (dd bX13_laysRows dX13_laysRows_33) (ci := 14) (j := 41) rfl rfl (key := 1541) rfl (kc := 34) rfl ((vup_k (by decide)).trans s1.1) ((vup_k (by decide)).trans rfl)).trans ?_
      have e2 : vrun mX13_laysRows 36 [(1, 282), (0, x1), (0, x2), v3, v4] [(0, h 1541 282 0)] (vup h 2 320 (h 1541 282 0) x2) = vrun mX13_laysRows 49 [(1, 282), (0, x1), (0, x2), v3, v4] [(0, (if h 1541 282 0 = 0 then 0 else h 2 287 x1))] (vup h 2 320 (h 1541 282 0) x2) := by
        refine (rg_if_ne (t := 43) (pc := 36) (dd bX13_laysRows dX13_laysRows_36) rfl).trans ?_
        by_cases c4 : h 1541 282 0 = 0
        · refine (if_pos c4).trans ?_
          refine (rn_iconst (pc := 39) (dd bX13_laysRows dX13_laysRows_39) (by decide)).trans ?_
          refine (rn_goto (t := 49) (pc := 40) (dd bX13_laysRows dX13_laysRows_40) rfl).trans ?_
          refine Eq.trans (b := vrun mX13_laysRows 49 [(1, 282), (0, x1), (0, x2), v3, v4] [(0, 0)] (vup h 2 320 (h 1541 282 0) x2)) rfl ?_
          simp only [if_pos c4]
        · refine (if_neg c4).trans ?_
          refine (rn_aload_n (pc := 43) (dd bX13_laysRows dX13_laysRows_43) rfl).trans ?_
          refine (rg_gf (pc := 44) (dd bX13_laysRows dX13_laysRows_44) (ci := 14) (j := 6) rfl rfl (key := 1506) rfl (kc := 34) rfl ((vup_k (by decide)).trans s1.1) ((vup_k (by decide)).trans s1.2.2.2.2.2.2.2.2.2.2.2.2.2.1)).trans ?_
          refine (rn_iload_n (pc := 47) (dd bX13_laysRows dX13_laysRows_47) rfl).trans ?_
          refine (rg_iaload (pc := 48) (dd bX13_laysRows dX13_laysRows_48) ((vup_k (by decide)).trans s1.2.2.2.2.2.2.2.2.2.2.2.2.2.2.1) ((vup_k (by decide)).trans s1.2.2.2.2.2.2.2.2.2.2.2.2.2.2.2.1) (p6 c1 c3 c4) (p7 c1 c3 c4) ((vup_r (by omega)).trans rfl)).trans ?_
          refine Eq.trans (b := vrun mX13_laysRows 49 [(1, 282), (0, x1), (0, x2), v3, v4] [(0, h 2 287 x1)] (vup h 2 320 (h 1541 282 0) x2)) rfl ?_
          simp only [if_neg c4]
      refine e2.trans ?_
      refine (rn_istore_n (pc := 49) (dd bX13_laysRows dX13_laysRows_49) (Nat.le_of_ble_eq_true rfl) rfl).trans ?_
      refine (rn_iconst (pc := 50) (dd bX13_laysRows dX13_laysRows_50) (by decide)).trans ?_
      refine (rn_istore (pc := 51) (dd bX13_laysRows dX13_laysRows_51) (Nat.le_of_ble_eq_true rfl) rfl).trans ?_
      rfl
    · refine (rn_aload_n (pc := 189) (dd bX13_laysRows dX13_laysRows_189) rfl).trans ?_
      refine (rg_gf (pc := 190) (dd bX13_laysRows dX13_laysRows_190) (ci := 14) (j := 39) rfl rfl (key := 1539) rfl (kc := 34) rfl s1.1 s1.2.2.2.2.2.2.2.2.2.2.2.2.2.2.2.2.2.2.2.2.2.2.2.2.2.2.2.2.2.2.2.2.2.2.2.2.2.2.2.2.2.2.2.2.2.2.2.2.2.2.2.2.2.2.2.2.2.2.2.2.2.2.2.2.2.2.2.2.2.2.2.2.2.2.2.2.2.2.2.2.2.2.2.2.2.2.2.2.2.2.2.2.2.2.2.2.2.2.2.2.2.2.2.2.2.2.2.2.2.2.2.2.1).trans ?_
      refine (rn_aload_n (pc := 193) (dd bX13_laysRows dX13_laysRows_193) rfl).trans ?_
      refine (rg_gf (pc := 194) (dd bX13_laysRows dX13_laysRows_194) (ci := 14) (j := 41) rfl rfl (key := 1541) rfl (kc := 34) rfl s1.1 rfl).trans ?_
      refine (rn_aload_n (pc := 197) (dd bX13_laysRows dX13_laysRows_197) rfl).trans ?_
      refine (rg_gf (pc := 198) (dd bX13_laysRows dX13_laysRows_198) (ci := 14) (j := 40) rfl rfl (key := 1540) rfl (kc := 34) rfl s1.1 rfl).trans ?_
      refine (rg_iastore (pc := 201) (dd bX13_laysRows dX13_laysRows_201) s1.2.2.2.2.2.2.2.2.2.2.2.2.2.2.2.2.2.2.2.2.2.2.2.2.2.2.2.2.2.2.2.2.2.2.2.2.2.2.2.2.2.2.2.2.2.2.2.2.2.2.2.2.2.2.2.2.2.2.2.2.2.2.2.2.2.2.2.2.2.2.2.2.2.2.2.2.2.2.2.2.2.2.2.2.2.2.2.2.2.2.2.2.2.2.2.2.2.2.2.2.2.2.2.2.2.2.2.2.2.2.2.2.2.1 s1.2.2.2.2.2.2.2.2.2.2.2.2.2.2.2.2.2.2.2.2.2.2.2.2.2.2.2.2.2.2.2.2.2.2.2.2.2.2.2.2.2.2.2.2.2.2.2.2.2.2.2.2.2.2.2.2.2.2.2.2.2.2.2.2.2.2.2.2.2.2.2.2.2.2.2.2.2.2.2.2.2.2.2.2.2.2.2.2.2.2.2.2.2.2.2.2.2.2.2.2.2.2.2.2.2.2.2.2.2.2.2.2.2.2.1 (p8 c1 c3) (p9 c1 c3)).trans ?_
      refine (rn_iconst (pc := 202) (dd bX13_laysRows dX13_laysRows_202) (by decide)).trans ?_
      refine (rn_istore_n (pc := 203) (dd bX13_laysRows dX13_laysRows_203) (Nat.le_of_ble_eq_true rfl) rfl).trans ?_
      rfl
theorem rX13_laysRows_53 {x1 : Int} {x2 : Int} {x3 : Int} {x4 : Int} {h : vH} (s1 : shModel h) (p2 : ¬ (h 1540 282 0 ≤ x2) → 0 ≤ x2) (p3 : ¬ (h 1540 282 0 ≤ x2) → x2 < 140) (p4 : ¬ (h 1540 282 0 ≤ x2) → h 2 311 x2 = 9 → 0 ≤ x3) (p5 : ¬ (h 1540 282 0 ≤ x2) → (-2147483648) ≤ x3 + fX13_widthOf h x2 x3) (p6 : ¬ (h 1540 282 0 ≤ x2) → x3 + fX13_widthOf h x2 x3 < 2147483648) (p7 : ¬ (h 1540 282 0 ≤ x2) → 0 ≤ x1) (p8 : ¬ (h 1540 282 0 ≤ x2) → x1 < 4) (p9 : ¬ (h 1540 282 0 ≤ x2) → ¬ (h 2 286 x1 < x3 + fX13_widthOf h x2 x3) → (-2147483648) ≤ x3 + (vup h 2 315 x2 (fX13_widthOf h x2 x3)) 2 315 x2) (p10 : ¬ (h 1540 282 0 ≤ x2) → ¬ (h 2 286 x1 < x3 + fX13_widthOf h x2 x3) → x3 + (vup h 2 315 x2 (fX13_widthOf h x2 x3)) 2 315 x2 < 2147483648) : vrun mX13_laysRows 53 [(1, 282), (0, x1), (0, x2), (0, x3), (0, x4)] [] h = if h 1540 282 0 ≤ x2 then vrun mX13_laysRows 123 [(1, 282), (0, x1), (0, x2), (0, x3), (0, x4)] [] h else if h 2 286 x1 < x3 + fX13_widthOf h x2 x3 then vrun mX13_laysRows 123 [(1, 282), (0, x1), (0, x2), (0, x3), (0, x4)] [] h else vrun mX13_laysRows 53 [(1, 282), (0, x1), (0, x2 + 1), (0, x3 + (vup h 2 315 x2 (fX13_widthOf h x2 x3)) 2 315 x2), (0, (if fX13_isBlank (vup h 2 315 x2 (fX13_widthOf h x2 x3)) x2 = 0 then x4 else x2 + 1))] [] (vup h 2 315 x2 (fX13_widthOf h x2 x3)) := by
  refine (rn_iload_n (pc := 53) (dd bX13_laysRows dX13_laysRows_53) rfl).trans ?_
  refine (rn_aload_n (pc := 54) (dd bX13_laysRows dX13_laysRows_54) rfl).trans ?_
  refine (rg_gf (pc := 55) (dd bX13_laysRows dX13_laysRows_55) (ci := 14) (j := 40) rfl rfl (key := 1540) rfl (kc := 34) rfl s1.1 rfl).trans ?_
  refine (rn_icmp_ge (t := 123) (pc := 58) (dd bX13_laysRows dX13_laysRows_58) rfl).trans (itec (fun c1 => ?_) (fun c1 => ?_))
  · rfl
  · refine (rn_iload_n (pc := 61) (dd bX13_laysRows dX13_laysRows_61) rfl).trans ?_
    refine (rn_aload_n (pc := 62) (dd bX13_laysRows dX13_laysRows_62) rfl).trans ?_
    refine (rn_iload_n (pc := 63) (dd bX13_laysRows dX13_laysRows_63) rfl).trans ?_
    refine (rn_iload_n (pc := 64) (dd bX13_laysRows dX13_laysRows_64) rfl).trans ?_
    refine (rg_virtual (pc := 65) (dd bX13_laysRows dX13_laysRows_65) rfl rfl (by decide) (kc := 34) rfl s1.1 (as := [(1, 282), (0, x2), (0, x3)]) rfl ⟨Nat.le_of_ble_eq_true rfl, Nat.le_of_ble_eq_true rfl, Nat.le_of_ble_eq_true rfl, Nat.le_of_ble_eq_true rfl⟩).trans ?_
    refine (vret_v (spX13_widthOf s1 (p2 c1) (p3 c1) (p4 c1))).trans ?_
    refine (rg_iadd (pc := 68) (dd bX13_laysRows dX13_laysRows_68) (p5 c1) (p6 c1)).trans ?_
    refine (rn_aload_n (pc := 69) (dd bX13_laysRows dX13_laysRows_69) rfl).trans ?_
    refine (rg_gf (pc := 70) (dd bX13_laysRows dX13_laysRows_70) (ci := 14) (j := 5) rfl rfl (key := 1505) rfl (kc := 34) rfl s1.1 s1.2.2.2.2.2.2.2.2.2.2.1).trans ?_
    refine (rn_iload_n (pc := 73) (dd bX13_laysRows dX13_laysRows_73) rfl).trans ?_
    refine (rg_iaload (pc := 74) (dd bX13_laysRows dX13_laysRows_74) s1.2.2.2.2.2.2.2.2.2.2.2.1 s1.2.2.2.2.2.2.2.2.2.2.2.2.1 (p7 c1) (p8 c1) rfl).trans ?_
    refine (rn_icmp_gt (t := 123) (pc := 75) (dd bX13_laysRows dX13_laysRows_75) rfl).trans (itec (fun c2 => ?_) (fun c2 => ?_))
    · rfl
    · refine (rn_aload_n (pc := 78) (dd bX13_laysRows dX13_laysRows_78) rfl).trans ?_
      refine (rg_gf (pc := 79) (dd bX13_laysRows dX13_laysRows_79) (ci := 14) (j := 34) rfl rfl (key := 1534) rfl (kc := 34) rfl s1.1 s1.2.2.2.2.2.2.2.2.2.2.2.2.2.2.2.2.2.2.2.2.2.2.2.2.2.2.2.2.2.2.2.2.2.2.2.2.2.2.2.2.2.2.2.2.2.2.2.2.2.2.2.2.2.2.2.2.2.2.2.2.2.2.2.2.2.2.2.2.2.2.2.2.2.2.2.2.2.2.2.2.2.2.2.2.2.2.2.2.2.2.2.2.2.2.2.2.2.1).trans ?_
      refine (rn_iload_n (pc := 82) (dd bX13_laysRows dX13_laysRows_82) rfl).trans ?_
      refine (rn_aload_n (pc := 83) (dd bX13_laysRows dX13_laysRows_83) rfl).trans ?_
      refine (rn_iload_n (pc := 84) (dd bX13_laysRows dX13_laysRows_84) rfl).trans ?_
      refine (rn_iload_n (pc := 85) (dd bX13_laysRows dX13_laysRows_85) rfl).trans ?_
      refine (rg_virtual (pc := 86) (dd bX13_laysRows dX13_laysRows_86) rfl rfl (by decide) (kc := 34) rfl s1.1 (as := [(1, 282), (0, x2), (0, x3)]) rfl ⟨Nat.le_of_ble_eq_true rfl, Nat.le_of_ble_eq_true rfl, Nat.le_of_ble_eq_true rfl, Nat.le_of_ble_eq_true rfl⟩).trans ?_
      refine (vret_v (spX13_widthOf s1 (by have z0 := p2 c1; have z1 := p3 c1; omega) (by have z0 := p2 c1; have z1 := p3 c1; omega) (p4 c1))).trans ?_
      refine (rg_iastore (pc := 89) (dd bX13_laysRows dX13_laysRows_89) s1.2.2.2.2.2.2.2.2.2.2.2.2.2.2.2.2.2.2.2.2.2.2.2.2.2.2.2.2.2.2.2.2.2.2.2.2.2.2.2.2.2.2.2.2.2.2.2.2.2.2.2.2.2.2.2.2.2.2.2.2.2.2.2.2.2.2.2.2.2.2.2.2.2.2.2.2.2.2.2.2.2.2.2.2.2.2.2.2.2.2.2.2.2.2.2.2.2.2.1 s1.2.2.2.2.2.2.2.2.2.2.2.2.2.2.2.2.2.2.2.2.2.2.2.2.2.2.2.2.2.2.2.2.2.2.2.2.2.2.2.2.2.2.2.2.2.2.2.2.2.2.2.2.2.2.2.2.2.2.2.2.2.2.2.2.2.2.2.2.2.2.2.2.2.2.2.2.2.2.2.2.2.2.2.2.2.2.2.2.2.2.2.2.2.2.2.2.2.2.2.1 (by have z0 := p2 c1; have z1 := p3 c1; omega) (by have z0 := p2 c1; have z1 := p3 c1; omega)).trans ?_
      refine (rn_iload_n (pc := 90) (dd bX13_laysRows dX13_laysRows_90) rfl).trans ?_
      refine (rn_aload_n (pc := 91) (dd bX13_laysRows dX13_laysRows_91) rfl).trans ?_
      refine (rg_gf (pc := 92) (dd bX13_laysRows dX13_laysRows_92) (ci := 14) (j := 34) rfl rfl (key := 1534) rfl (kc := 34) rfl ((vup_k (by decide)).trans s1.1) ((vup_k (by decide)).trans s1.2.2.2.2.2.2.2.2.2.2.2.2.2.2.2.2.2.2.2.2.2.2.2.2.2.2.2.2.2.2.2.2.2.2.2.2.2.2.2.2.2.2.2.2.2.2.2.2.2.2.2.2.2.2.2.2.2.2.2.2.2.2.2.2.2.2.2.2.2.2.2.2.2.2.2.2.2.2.2.2.2.2.2.2.2.2.2.2.2.2.2.2.2.2.2.2.2.1)).trans ?_
      refine (rn_iload_n (pc := 95) (dd bX13_laysRows dX13_laysRows_95) rfl).trans ?_
      refine (rg_iaload (pc := 96) (dd bX13_laysRows dX13_laysRows_96) ((vup_k (by decide)).trans s1.2.2.2.2.2.2.2.2.2.2.2.2.2.2.2.2.2.2.2.2.2.2.2.2.2.2.2.2.2.2.2.2.2.2.2.2.2.2.2.2.2.2.2.2.2.2.2.2.2.2.2.2.2.2.2.2.2.2.2.2.2.2.2.2.2.2.2.2.2.2.2.2.2.2.2.2.2.2.2.2.2.2.2.2.2.2.2.2.2.2.2.2.2.2.2.2.2.2.1) ((vup_k (by decide)).trans s1.2.2.2.2.2.2.2.2.2.2.2.2.2.2.2.2.2.2.2.2.2.2.2.2.2.2.2.2.2.2.2.2.2.2.2.2.2.2.2.2.2.2.2.2.2.2.2.2.2.2.2.2.2.2.2.2.2.2.2.2.2.2.2.2.2.2.2.2.2.2.2.2.2.2.2.2.2.2.2.2.2.2.2.2.2.2.2.2.2.2.2.2.2.2.2.2.2.2.2.1) (by have z0 := p2 c1; have z1 := p3 c1; omega) (by have z0 := p2 c1; have z1 := p3 c1; omega) rfl).trans ?_
      refine (rg_iadd (pc := 97) (dd bX13_laysRows dX13_laysRows_97) (p9 c1 c2) (p10 c1 c2)).trans ?_
      refine (rn_istore_n (pc := 98) (dd bX13_laysRows dX13_laysRows_98) (Nat.le_of_ble_eq_true rfl) rfl).trans ?_
      refine (rn_aload_n (pc := 99) (dd bX13_laysRows dX13_laysRows_99) rfl).trans ?_
      refine (rn_iload_n (pc := 100) (dd bX13_laysRows dX13_laysRows_100) rfl).trans ?_
      refine (rg_virtual (pc := 101) (dd bX13_laysRows dX13_laysRows_101) rfl rfl (by decide) (kc := 34) rfl ((vup_k (by decide)).trans s1.1) (as := [(1, 282), (0, x2)]) rfl ⟨Nat.le_of_ble_eq_true rfl, Nat.le_of_ble_eq_true rfl, Nat.le_of_ble_eq_true rfl, Nat.le_of_ble_eq_true rfl⟩).trans ?_
      refine (vret_v (spX13_isBlank (shModel_sx (sx_up (by decide) sx_rf) s1) (by have z0 := p2 c1; have z1 := p3 c1; omega) (by have z0 := p2 c1; have z1 := p3 c1; omega))).trans ?_
      have e1 : vrun mX13_laysRows 104 [(1, 282), (0, x1), (0, x2), (0, x3 + (vup h 2 315 x2 (fX13_widthOf h x2 x3)) 2 315 x2), (0, x4)] [(0, fX13_isBlank (vup h 2 315 x2 (fX13_widthOf h x2 x3)) x2)] (vup h 2 315 x2 (fX13_widthOf h x2 x3)) = vrun mX13_laysRows 115 [(1, 282), (0, x1), (0, x2), (0, x3 + (vup h 2 315 x2 (fX13_widthOf h x2 x3)) 2 315 x2), (0, x4)] [(0, (if fX13_isBlank (vup h 2 315 x2 (fX13_widthOf h x2 x3)) x2 = 0 then x4 else x2 + 1))] (vup h 2 315 x2 (fX13_widthOf h x2 x3)) := by
        refine (rn_if_eq (t := 113) (pc := 104) (dd bX13_laysRows dX13_laysRows_104) rfl).trans ?_
        by_cases c3 : fX13_isBlank (vup h 2 315 x2 (fX13_widthOf h x2 x3)) x2 = 0
        · refine (if_pos c3).trans ?_
          refine (rn_iload (pc := 113) (dd bX13_laysRows dX13_laysRows_113) rfl).trans ?_
          refine Eq.trans (b := vrun mX13_laysRows 115 [(1, 282), (0, x1), (0, x2), (0, x3 + (vup h 2 315 x2 (fX13_widthOf h x2 x3)) 2 315 x2), (0, x4)] [(0, x4)] (vup h 2 315 x2 (fX13_widthOf h x2 x3))) rfl ?_
          simp only [if_pos c3]
        · refine (if_neg c3).trans ?_
          refine (rn_iload_n (pc := 107) (dd bX13_laysRows dX13_laysRows_107) rfl).trans ?_
          refine (rn_iconst (pc := 108) (dd bX13_laysRows dX13_laysRows_108) (by decide)).trans ?_
          refine (rg_iadd (pc := 109) (dd bX13_laysRows dX13_laysRows_109) (by have z0 := p2 c1; have z1 := p3 c1; omega) (by have z0 := p2 c1; have z1 := p3 c1; omega)).trans ?_
          refine (rn_goto (t := 115) (pc := 110) (dd bX13_laysRows dX13_laysRows_110) rfl).trans ?_
          refine Eq.trans (b := vrun mX13_laysRows 115 [(1, 282), (0, x1), (0, x2), (0, x3 + (vup h 2 315 x2 (fX13_widthOf h x2 x3)) 2 315 x2), (0, x4)] [(0, x2 + 1)] (vup h 2 315 x2 (fX13_widthOf h x2 x3))) rfl ?_
          simp only [if_neg c3]
      refine e1.trans ?_
      refine (rn_istore (pc := 115) (dd bX13_laysRows dX13_laysRows_115) (Nat.le_of_ble_eq_true rfl) rfl).trans ?_
      refine (rg_iinc (pc := 117) (dd bX13_laysRows dX13_laysRows_117) rfl (Nat.le_of_ble_eq_true rfl) (by have z0 := p2 c1; have z1 := p3 c1; omega) (by have z0 := p2 c1; have z1 := p3 c1; omega) rfl).trans ?_
      refine (rn_goto (t := 53) (pc := 120) (dd bX13_laysRows dX13_laysRows_120) rfl).trans ?_
      rfl
theorem rX13_laysRows_204 {x1 : Int} {x2 : Int} {x3 : Int} {v4 : vv} {h : vH} (s1 : shModel h) (p2 : ¬ (h 1541 282 0 ≤ x3) → 0 ≤ x3) (p3 : ¬ (h 1541 282 0 ≤ x3) → x3 < 142) : vrun mX13_laysRows 204 [(1, 282), (0, x1), (0, x2), (0, x3), v4] [] h = if h 1541 282 0 ≤ x3 then some (.inl none, h) else vrun mX13_laysRows 220 [(1, 282), (0, x1), (0, x2), (0, x3), (0, h 2 320 x3)] [] h := by
  refine (rn_iload_n (pc := 204) (dd bX13_laysRows dX13_laysRows_204) rfl).trans ?_
  refine (rn_aload_n (pc := 205) (dd bX13_laysRows dX13_laysRows_205) rfl).trans ?_
  refine (rg_gf (pc := 206) (dd bX13_laysRows dX13_laysRows_206) (ci := 14) (j := 41) rfl rfl (key := 1541) rfl (kc := 34) rfl s1.1 rfl).trans ?_
  refine (rn_icmp_ge (t := 253) (pc := 209) (dd bX13_laysRows dX13_laysRows_209) rfl).trans (itec (fun c1 => ?_) (fun c1 => ?_))
  · exact rn_return (pc := 253) (dd bX13_laysRows dX13_laysRows_253) rfl
  · refine (rn_aload_n (pc := 212) (dd bX13_laysRows dX13_laysRows_212) rfl).trans ?_
    refine (rg_gf (pc := 213) (dd bX13_laysRows dX13_laysRows_213) (ci := 14) (j := 39) rfl rfl (key := 1539) rfl (kc := 34) rfl s1.1 s1.2.2.2.2.2.2.2.2.2.2.2.2.2.2.2.2.2.2.2.2.2.2.2.2.2.2.2.2.2.2.2.2.2.2.2.2.2.2.2.2.2.2.2.2.2.2.2.2.2.2.2.2.2.2.2.2.2.2.2.2.2.2.2.2.2.2.2.2.2.2.2.2.2.2.2.2.2.2.2.2.2.2.2.2.2.2.2.2.2.2.2.2.2.2.2.2.2.2.2.2.2.2.2.2.2.2.2.2.2.2.2.2.1).trans ?_
    refine (rn_iload_n (pc := 216) (dd bX13_laysRows dX13_laysRows_216) rfl).trans ?_
    refine (rg_iaload (pc := 217) (dd bX13_laysRows dX13_laysRows_217) s1.2.2.2.2.2.2.2.2.2.2.2.2.2.2.2.2.2.2.2.2.2.2.2.2.2.2.2.2.2.2.2.2.2.2.2.2.2.2.2.2.2.2.2.2.2.2.2.2.2.2.2.2.2.2.2.2.2.2.2.2.2.2.2.2.2.2.2.2.2.2.2.2.2.2.2.2.2.2.2.2.2.2.2.2.2.2.2.2.2.2.2.2.2.2.2.2.2.2.2.2.2.2.2.2.2.2.2.2.2.2.2.2.2.1 s1.2.2.2.2.2.2.2.2.2.2.2.2.2.2.2.2.2.2.2.2.2.2.2.2.2.2.2.2.2.2.2.2.2.2.2.2.2.2.2.2.2.2.2.2.2.2.2.2.2.2.2.2.2.2.2.2.2.2.2.2.2.2.2.2.2.2.2.2.2.2.2.2.2.2.2.2.2.2.2.2.2.2.2.2.2.2.2.2.2.2.2.2.2.2.2.2.2.2.2.2.2.2.2.2.2.2.2.2.2.2.2.2.2.2.1 (p2 c1) (p3 c1) rfl).trans ?_
    refine (rn_istore (pc := 218) (dd bX13_laysRows dX13_laysRows_218) (Nat.le_of_ble_eq_true rfl) rfl).trans ?_
    rfl
theorem rX13_laysRows_123 {x1 : Int} {x2 : Int} {x3 : Int} {x4 : Int} {h : vH} (s1 : shModel h) (p2 : h 1540 282 0 ≤ x2 → (-2147483648) ≤ h 1541 282 0 + 1) (p3 : h 1540 282 0 ≤ x2 → h 1541 282 0 + 1 < 2147483648) (p4 : ¬ (h 1540 282 0 ≤ x2) → 0 ≤ x2) (p5 : ¬ (h 1540 282 0 ≤ x2) → x2 < 140) (p6 : ¬ (h 1540 282 0 ≤ x2) → fX13_isBlank h x2 = 0 → (-2147483648) ≤ h 1541 282 0 + 1) (p7 : ¬ (h 1540 282 0 ≤ x2) → fX13_isBlank h x2 = 0 → h 1541 282 0 + 1 < 2147483648) : vrun mX13_laysRows 123 [(1, 282), (0, x1), (0, x2), (0, x3), (0, x4)] [] h = if h 1540 282 0 ≤ x2 then vrun mX13_laysRows 7 [(1, 282), (0, x1), (0, (if h 1540 282 0 ≤ x2 then x2 else (if x4 = (-1) then x2 else x4))), (0, x3), (0, x4)] [] (vup h 1541 282 0 (h 1541 282 0 + 1)) else if fX13_isBlank h x2 = 0 then vrun mX13_laysRows 7 [(1, 282), (0, x1), (0, (if h 1540 282 0 ≤ x2 then x2 else (if x4 = (-1) then x2 else x4))), (0, x3), (0, x4)] [] (vup h 1541 282 0 (h 1541 282 0 + 1)) else vrun mX13_laysRows 123 [(1, 282), (0, x1), (0, x2 + 1), (0, x3), (0, x2 + 1)] [] (vup h 2 315 x2 0) := by
  refine (rn_iload_n (pc := 123) (dd bX13_laysRows dX13_laysRows_123) rfl).trans ?_
  refine (rn_aload_n (pc := 124) (dd bX13_laysRows dX13_laysRows_124) rfl).trans ?_
  refine (rg_gf (pc := 125) (dd bX13_laysRows dX13_laysRows_125) (ci := 14) (j := 40) rfl rfl (key := 1540) rfl (kc := 34) rfl s1.1 rfl).trans ?_
  refine (rn_icmp_ge (t := 155) (pc := 128) (dd bX13_laysRows dX13_laysRows_128) rfl).trans (itec (fun c1 => ?_) (fun c1 => ?_))
  · refine (rn_iload_n (pc := 155) (dd bX13_laysRows dX13_laysRows_155) rfl).trans ?_
    refine (rn_aload_n (pc := 156) (dd bX13_laysRows dX13_laysRows_156) rfl).trans ?_
    refine (rg_gf (pc := 157) (dd bX13_laysRows dX13_laysRows_157) (ci := 14) (j := 40) rfl rfl (key := 1540) rfl (kc := 34) rfl s1.1 rfl).trans ?_
    have e2 : vrun mX13_laysRows 160 [(1, 282), (0, x1), (0, x2), (0, x3), (0, x4)] [(0, h 1540 282 0), (0, x2)] h = vrun mX13_laysRows 175 [(1, 282), (0, x1), (0, x2), (0, x3), (0, x4)] [(0, (if h 1540 282 0 ≤ x2 then x2 else (if x4 = (-1) then x2 else x4)))] h := by
      refine (rn_icmp_ge (t := 174) (pc := 160) (dd bX13_laysRows dX13_laysRows_160) rfl).trans ?_
      by_cases c2 : h 1540 282 0 ≤ x2
      · refine (if_pos c2).trans ?_
        refine (rn_iload_n (pc := 174) (dd bX13_laysRows dX13_laysRows_174) rfl).trans ?_
        refine Eq.trans (b := vrun mX13_laysRows 175 [(1, 282), (0, x1), (0, x2), (0, x3), (0, x4)] [(0, x2)] h) rfl ?_
        simp only [if_pos c2]
      · refine (if_neg c2).trans ?_
        refine (rn_iload (pc := 163) (dd bX13_laysRows dX13_laysRows_163) rfl).trans ?_
        refine (rn_iconst (pc := 165) (dd bX13_laysRows dX13_laysRows_165) (by decide)).trans ?_
        have e1 : vrun mX13_laysRows 166 [(1, 282), (0, x1), (0, x2), (0, x3), (0, x4)] [(0, (-1)), (0, x4)] h = vrun mX13_laysRows 175 [(1, 282), (0, x1), (0, x2), (0, x3), (0, x4)] [(0, (if x4 = (-1) then x2 else x4))] h := by
          refine (rn_icmp_eq (t := 174) (pc := 166) (dd bX13_laysRows dX13_laysRows_166) rfl).trans ?_
          by_cases c3 : x4 = (-1)
          · refine (if_pos c3).trans ?_
            refine (rn_iload_n (pc := 174) (dd bX13_laysRows dX13_laysRows_174) rfl).trans ?_
            refine Eq.trans (b := vrun mX13_laysRows 175 [(1, 282), (0, x1), (0, x2), (0, x3), (0, x4)] [(0, x2)] h) rfl ?_
            simp only [if_pos c3]
          · refine (if_neg c3).trans ?_
            refine (rn_iload (pc := 169) (dd bX13_laysRows dX13_laysRows_169) rfl).trans ?_
            refine (rn_goto (t := 175) (pc := 171) (dd bX13_laysRows dX13_laysRows_171) rfl).trans ?_
            refine Eq.trans (b := vrun mX13_laysRows 175 [(1, 282), (0, x1), (0, x2), (0, x3), (0, x4)] [(0, x4)] h) rfl ?_
            simp only [if_neg c3]
        refine e1.trans ?_
        refine Eq.trans (b := vrun mX13_laysRows 175 [(1, 282), (0, x1), (0, x2), (0, x3), (0, x4)] [(0, (if x4 = (-1) then x2 else x4))] h) rfl ?_
        simp only [if_neg c2]
    refine e2.trans ?_
    refine (rn_istore_n (pc := 175) (dd bX13_laysRows dX13_laysRows_175) (Nat.le_of_ble_eq_true rfl) rfl).trans ?_
    refine (rn_aload_n (pc := 176) (dd bX13_laysRows dX13_laysRows_176) rfl).trans ?_
    refine (rn_dup (pc := 177) (dd bX13_laysRows dX13_laysRows_177) (by decide)).trans ?_
    refine (rg_gf (pc := 178) (dd bX13_laysRows dX13_laysRows_178) (ci := 14) (j := 41) rfl rfl (key := 1541) rfl (kc := 34) rfl s1.1 rfl).trans ?_
    refine (rn_iconst (pc := 181) (dd bX13_laysRows dX13_laysRows_181) (by decide)).trans ?_
    refine (rg_iadd (pc := 182) (dd bX13_laysRows dX13_laysRows_182) (p2 c1) (p3 c1)).trans ?_
    refine (rg_pf (pc := 183) (dd bX13_laysRows dX13_laysRows_183) (ci := 14) (j := 41) rfl (key := 1541) rfl (kc := 34) rfl s1.1 rfl (by intro z; cases z) (by decide)).trans ?_
    refine (rn_goto (t := 7) (pc := 186) (dd bX13_laysRows dX13_laysRows_186) rfl).trans ?_
    rfl
  · refine (rn_aload_n (pc := 131) (dd bX13_laysRows dX13_laysRows_131) rfl).trans ?_
    refine (rn_iload_n (pc := 132) (dd bX13_laysRows dX13_laysRows_132) rfl).trans ?_
    refine (rg_virtual (pc := 133) (dd bX13_laysRows dX13_laysRows_133) rfl rfl (by decide) (kc := 34) rfl s1.1 (as := [(1, 282), (0, x2)]) rfl ⟨Nat.le_of_ble_eq_true rfl, Nat.le_of_ble_eq_true rfl, Nat.le_of_ble_eq_true rfl, Nat.le_of_ble_eq_true rfl⟩).trans ?_
    refine (vret_v (spX13_isBlank s1 (p4 c1) (p5 c1))).trans ?_
    refine (rn_if_eq (t := 155) (pc := 136) (dd bX13_laysRows dX13_laysRows_136) rfl).trans (itec (fun c4 => ?_) (fun c4 => ?_))
    · refine (rn_iload_n (pc := 155) (dd bX13_laysRows dX13_laysRows_155) rfl).trans ?_
      refine (rn_aload_n (pc := 156) (dd bX13_laysRows dX13_laysRows_156) rfl).trans ?_
      refine (rg_gf (pc := 157) (dd bX13_laysRows dX13_laysRows_157) (ci := 14) (j := 40) rfl rfl (key := 1540) rfl (kc := 34) rfl s1.1 rfl).trans ?_
      have e4 : vrun mX13_laysRows 160 [(1, 282), (0, x1), (0, x2), (0, x3), (0, x4)] [(0, h 1540 282 0), (0, x2)] h = vrun mX13_laysRows 175 [(1, 282), (0, x1), (0, x2), (0, x3), (0, x4)] [(0, (if h 1540 282 0 ≤ x2 then x2 else (if x4 = (-1) then x2 else x4)))] h := by
        refine (rn_icmp_ge (t := 174) (pc := 160) (dd bX13_laysRows dX13_laysRows_160) rfl).trans ?_
        by_cases c5 : h 1540 282 0 ≤ x2
        · refine (if_pos c5).trans ?_
          refine (rn_iload_n (pc := 174) (dd bX13_laysRows dX13_laysRows_174) rfl).trans ?_
          refine Eq.trans (b := vrun mX13_laysRows 175 [(1, 282), (0, x1), (0, x2), (0, x3), (0, x4)] [(0, x2)] h) rfl ?_
          simp only [if_pos c5]
        · refine (if_neg c5).trans ?_
          refine (rn_iload (pc := 163) (dd bX13_laysRows dX13_laysRows_163) rfl).trans ?_
          refine (rn_iconst (pc := 165) (dd bX13_laysRows dX13_laysRows_165) (by decide)).trans ?_
          have e3 : vrun mX13_laysRows 166 [(1, 282), (0, x1), (0, x2), (0, x3), (0, x4)] [(0, (-1)), (0, x4)] h = vrun mX13_laysRows 175 [(1, 282), (0, x1), (0, x2), (0, x3), (0, x4)] [(0, (if x4 = (-1) then x2 else x4))] h := by
            refine (rn_icmp_eq (t := 174) (pc := 166) (dd bX13_laysRows dX13_laysRows_166) rfl).trans ?_
            by_cases c6 : x4 = (-1)
            · refine (if_pos c6).trans ?_
              refine (rn_iload_n (pc := 174) (dd bX13_laysRows dX13_laysRows_174) rfl).trans ?_
              refine Eq.trans (b := vrun mX13_laysRows 175 [(1, 282), (0, x1), (0, x2), (0, x3), (0, x4)] [(0, x2)] h) rfl ?_
              simp only [if_pos c6]
            · refine (if_neg c6).trans ?_
              refine (rn_iload (pc := 169) (dd bX13_laysRows dX13_laysRows_169) rfl).trans ?_
              refine (rn_goto (t := 175) (pc := 171) (dd bX13_laysRows dX13_laysRows_171) rfl).trans ?_
              refine Eq.trans (b := vrun mX13_laysRows 175 [(1, 282), (0, x1), (0, x2), (0, x3), (0, x4)] [(0, x4)] h) rfl ?_
              simp only [if_neg c6]
          refine e3.trans ?_
          refine Eq.trans (b := vrun mX13_laysRows 175 [(1, 282), (0, x1), (0, x2), (0, x3), (0, x4)] [(0, (if x4 = (-1) then x2 else x4))] h) rfl ?_
          simp only [if_neg c5]
      refine e4.trans ?_
      refine (rn_istore_n (pc := 175) (dd bX13_laysRows dX13_laysRows_175) (Nat.le_of_ble_eq_true rfl) rfl).trans ?_
      refine (rn_aload_n (pc := 176) (dd bX13_laysRows dX13_laysRows_176) rfl).trans ?_
      refine (rn_dup (pc := 177) (dd bX13_laysRows dX13_laysRows_177) (by decide)).trans ?_
      refine (rg_gf (pc := 178) (dd bX13_laysRows dX13_laysRows_178) (ci := 14) (j := 41) rfl rfl (key := 1541) rfl (kc := 34) rfl s1.1 rfl).trans ?_
      refine (rn_iconst (pc := 181) (dd bX13_laysRows dX13_laysRows_181) (by decide)).trans ?_
      refine (rg_iadd (pc := 182) (dd bX13_laysRows dX13_laysRows_182) (p6 c1 c4) (p7 c1 c4)).trans ?_
      refine (rg_pf (pc := 183) (dd bX13_laysRows dX13_laysRows_183) (ci := 14) (j := 41) rfl (key := 1541) rfl (kc := 34) rfl s1.1 rfl (by intro z; cases z) (by decide)).trans ?_
      refine (rn_goto (t := 7) (pc := 186) (dd bX13_laysRows dX13_laysRows_186) rfl).trans ?_
      rfl
    · refine (rn_aload_n (pc := 139) (dd bX13_laysRows dX13_laysRows_139) rfl).trans ?_
      refine (rg_gf (pc := 140) (dd bX13_laysRows dX13_laysRows_140) (ci := 14) (j := 34) rfl rfl (key := 1534) rfl (kc := 34) rfl s1.1 s1.2.2.2.2.2.2.2.2.2.2.2.2.2.2.2.2.2.2.2.2.2.2.2.2.2.2.2.2.2.2.2.2.2.2.2.2.2.2.2.2.2.2.2.2.2.2.2.2.2.2.2.2.2.2.2.2.2.2.2.2.2.2.2.2.2.2.2.2.2.2.2.2.2.2.2.2.2.2.2.2.2.2.2.2.2.2.2.2.2.2.2.2.2.2.2.2.2.1).trans ?_
      refine (rn_iload_n (pc := 143) (dd bX13_laysRows dX13_laysRows_143) rfl).trans ?_
      refine (rn_iconst (pc := 144) (dd bX13_laysRows dX13_laysRows_144) (by decide)).trans ?_
      refine (rg_iastore (pc := 145) (dd bX13_laysRows dX13_laysRows_145) s1.2.2.2.2.2.2.2.2.2.2.2.2.2.2.2.2.2.2.2.2.2.2.2.2.2.2.2.2.2.2.2.2.2.2.2.2.2.2.2.2.2.2.2.2.2.2.2.2.2.2.2.2.2.2.2.2.2.2.2.2.2.2.2.2.2.2.2.2.2.2.2.2.2.2.2.2.2.2.2.2.2.2.2.2.2.2.2.2.2.2.2.2.2.2.2.2.2.2.1 s1.2.2.2.2.2.2.2.2.2.2.2.2.2.2.2.2.2.2.2.2.2.2.2.2.2.2.2.2.2.2.2.2.2.2.2.2.2.2.2.2.2.2.2.2.2.2.2.2.2.2.2.2.2.2.2.2.2.2.2.2.2.2.2.2.2.2.2.2.2.2.2.2.2.2.2.2.2.2.2.2.2.2.2.2.2.2.2.2.2.2.2.2.2.2.2.2.2.2.2.1 (by have z0 := p4 c1; have z1 := p5 c1; omega) (by have z0 := p4 c1; have z1 := p5 c1; omega)).trans ?_
      refine (rg_iinc (pc := 146) (dd bX13_laysRows dX13_laysRows_146) rfl (Nat.le_of_ble_eq_true rfl) (by have z0 := p4 c1; have z1 := p5 c1; omega) (by have z0 := p4 c1; have z1 := p5 c1; omega) rfl).trans ?_
      refine (rn_iload_n (pc := 149) (dd bX13_laysRows dX13_laysRows_149) rfl).trans ?_
      refine (rn_istore (pc := 150) (dd bX13_laysRows dX13_laysRows_150) (Nat.le_of_ble_eq_true rfl) rfl).trans ?_
      refine (rn_goto (t := 123) (pc := 152) (dd bX13_laysRows dX13_laysRows_152) rfl).trans ?_
      rfl
theorem rX13_laysRows_220 {x1 : Int} {x2 : Int} {x3 : Int} {x4 : Int} {h : vH} (s1 : shModel h) (p2 : (-2147483648) ≤ x3 + 1) (p3 : x3 + 1 < 2147483648) (p4 : 0 ≤ x3 + 1) (p5 : x3 + 1 < 142) (p6 : ¬ (h 2 320 (x3 + 1) ≤ x4) → 0 ≤ x4) (p7 : ¬ (h 2 320 (x3 + 1) ≤ x4) → x4 < 140) : vrun mX13_laysRows 220 [(1, 282), (0, x1), (0, x2), (0, x3), (0, x4)] [] h = if h 2 320 (x3 + 1) ≤ x4 then vrun mX13_laysRows 204 [(1, 282), (0, x1), (0, x2), (0, x3 + 1), (0, x4)] [] h else vrun mX13_laysRows 220 [(1, 282), (0, x1), (0, x2), (0, x3), (0, x4 + 1)] [] (vup h 2 318 x4 x3) := by
  refine (rn_iload (pc := 220) (dd bX13_laysRows dX13_laysRows_220) rfl).trans ?_
  refine (rn_aload_n (pc := 222) (dd bX13_laysRows dX13_laysRows_222) rfl).trans ?_
  refine (rg_gf (pc := 223) (dd bX13_laysRows dX13_laysRows_223) (ci := 14) (j := 39) rfl rfl (key := 1539) rfl (kc := 34) rfl s1.1 s1.2.2.2.2.2.2.2.2.2.2.2.2.2.2.2.2.2.2.2.2.2.2.2.2.2.2.2.2.2.2.2.2.2.2.2.2.2.2.2.2.2.2.2.2.2.2.2.2.2.2.2.2.2.2.2.2.2.2.2.2.2.2.2.2.2.2.2.2.2.2.2.2.2.2.2.2.2.2.2.2.2.2.2.2.2.2.2.2.2.2.2.2.2.2.2.2.2.2.2.2.2.2.2.2.2.2.2.2.2.2.2.2.1).trans ?_
  refine (rn_iload_n (pc := 226) (dd bX13_laysRows dX13_laysRows_226) rfl).trans ?_
  refine (rn_iconst (pc := 227) (dd bX13_laysRows dX13_laysRows_227) (by decide)).trans ?_
  refine (rg_iadd (pc := 228) (dd bX13_laysRows dX13_laysRows_228) p2 p3).trans ?_
  refine (rg_iaload (pc := 229) (dd bX13_laysRows dX13_laysRows_229) s1.2.2.2.2.2.2.2.2.2.2.2.2.2.2.2.2.2.2.2.2.2.2.2.2.2.2.2.2.2.2.2.2.2.2.2.2.2.2.2.2.2.2.2.2.2.2.2.2.2.2.2.2.2.2.2.2.2.2.2.2.2.2.2.2.2.2.2.2.2.2.2.2.2.2.2.2.2.2.2.2.2.2.2.2.2.2.2.2.2.2.2.2.2.2.2.2.2.2.2.2.2.2.2.2.2.2.2.2.2.2.2.2.2.1 s1.2.2.2.2.2.2.2.2.2.2.2.2.2.2.2.2.2.2.2.2.2.2.2.2.2.2.2.2.2.2.2.2.2.2.2.2.2.2.2.2.2.2.2.2.2.2.2.2.2.2.2.2.2.2.2.2.2.2.2.2.2.2.2.2.2.2.2.2.2.2.2.2.2.2.2.2.2.2.2.2.2.2.2.2.2.2.2.2.2.2.2.2.2.2.2.2.2.2.2.2.2.2.2.2.2.2.2.2.2.2.2.2.2.2.1 p4 p5 rfl).trans ?_
  refine (rn_icmp_ge (t := 247) (pc := 230) (dd bX13_laysRows dX13_laysRows_230) rfl).trans (itec (fun c1 => ?_) (fun c1 => ?_))
  · refine (rg_iinc (pc := 247) (dd bX13_laysRows dX13_laysRows_247) rfl (Nat.le_of_ble_eq_true rfl) (by omega) (by omega) rfl).trans ?_
    refine (rn_goto (t := 204) (pc := 250) (dd bX13_laysRows dX13_laysRows_250) rfl).trans ?_
    rfl
  · refine (rn_aload_n (pc := 233) (dd bX13_laysRows dX13_laysRows_233) rfl).trans ?_
    refine (rg_gf (pc := 234) (dd bX13_laysRows dX13_laysRows_234) (ci := 14) (j := 37) rfl rfl (key := 1537) rfl (kc := 34) rfl s1.1 s1.2.2.2.2.2.2.2.2.2.2.2.2.2.2.2.2.2.2.2.2.2.2.2.2.2.2.2.2.2.2.2.2.2.2.2.2.2.2.2.2.2.2.2.2.2.2.2.2.2.2.2.2.2.2.2.2.2.2.2.2.2.2.2.2.2.2.2.2.2.2.2.2.2.2.2.2.2.2.2.2.2.2.2.2.2.2.2.2.2.2.2.2.2.2.2.2.2.2.2.2.2.2.2.2.2.2.1).trans ?_
    refine (rn_iload (pc := 237) (dd bX13_laysRows dX13_laysRows_237) rfl).trans ?_
    refine (rn_iload_n (pc := 239) (dd bX13_laysRows dX13_laysRows_239) rfl).trans ?_
    refine (rg_iastore (pc := 240) (dd bX13_laysRows dX13_laysRows_240) s1.2.2.2.2.2.2.2.2.2.2.2.2.2.2.2.2.2.2.2.2.2.2.2.2.2.2.2.2.2.2.2.2.2.2.2.2.2.2.2.2.2.2.2.2.2.2.2.2.2.2.2.2.2.2.2.2.2.2.2.2.2.2.2.2.2.2.2.2.2.2.2.2.2.2.2.2.2.2.2.2.2.2.2.2.2.2.2.2.2.2.2.2.2.2.2.2.2.2.2.2.2.2.2.2.2.2.2.1 s1.2.2.2.2.2.2.2.2.2.2.2.2.2.2.2.2.2.2.2.2.2.2.2.2.2.2.2.2.2.2.2.2.2.2.2.2.2.2.2.2.2.2.2.2.2.2.2.2.2.2.2.2.2.2.2.2.2.2.2.2.2.2.2.2.2.2.2.2.2.2.2.2.2.2.2.2.2.2.2.2.2.2.2.2.2.2.2.2.2.2.2.2.2.2.2.2.2.2.2.2.2.2.2.2.2.2.2.2.1 (p6 c1) (p7 c1)).trans ?_
    refine (rg_iinc (pc := 241) (dd bX13_laysRows dX13_laysRows_241) rfl (Nat.le_of_ble_eq_true rfl) (by have z0 := p6 c1; have z1 := p7 c1; omega) (by have z0 := p6 c1; have z1 := p7 c1; omega) rfl).trans ?_
    refine (rn_goto (t := 220) (pc := 244) (dd bX13_laysRows dX13_laysRows_244) rfl).trans ?_
    rfl
theorem bX13_rowsIn : vmB mX13_rowsIn = cX13_rowsIn := rfl
theorem rX13_rowsIn_0 {x1 : Int} {x2 : Int} {h : vH} (s1 : shModel h) : vrun mX13_rowsIn 0 [(1, 282), (0, x1), (0, x2)] [] h = vret vrun mX13_rowsIn 3 [(1, 282), (0, x1), (0, x2)] [] (vcl mX13_isInvisible [(1, 282), (0, x1), (0, x2)] h) := by
  refine (rn_aload_n (pc := 0) (dd bX13_rowsIn dX13_rowsIn_0) rfl).trans ?_
  refine (rn_iload_n (pc := 1) (dd bX13_rowsIn dX13_rowsIn_1) rfl).trans ?_
  refine (rn_iload_n (pc := 2) (dd bX13_rowsIn dX13_rowsIn_2) rfl).trans ?_
  exact rg_virtual (pc := 3) (dd bX13_rowsIn dX13_rowsIn_3) rfl rfl (by decide) (kc := 34) rfl s1.1 (as := [(1, 282), (0, x1), (0, x2)]) rfl ⟨Nat.le_of_ble_eq_true rfl, Nat.le_of_ble_eq_true rfl, Nat.le_of_ble_eq_true rfl, Nat.le_of_ble_eq_true rfl⟩
theorem rX13_rowsIn_6 {x1 : Int} {x2 : Int} {y0 : Int} {h : vH} (s1 : shModel h) : vrun mX13_rowsIn 6 [(1, 282), (0, x1), (0, x2)] [(0, y0)] h = if y0 = 0 then vret vrun mX13_rowsIn 14 [(1, 282), (0, x1), (0, x2)] [] (vcl mX13_findsClusters [(1, 282), (0, x1), (0, x2)] h) else some (.inl (some (0, 0)), h) := by
  refine (rn_if_eq (t := 11) (pc := 6) (dd bX13_rowsIn dX13_rowsIn_6) rfl).trans (itec (fun c1 => ?_) (fun c1 => ?_))
  · refine (rn_aload_n (pc := 11) (dd bX13_rowsIn dX13_rowsIn_11) rfl).trans ?_
    refine (rn_iload_n (pc := 12) (dd bX13_rowsIn dX13_rowsIn_12) rfl).trans ?_
    refine (rn_iload_n (pc := 13) (dd bX13_rowsIn dX13_rowsIn_13) rfl).trans ?_
    exact rg_virtual (pc := 14) (dd bX13_rowsIn dX13_rowsIn_14) rfl rfl (by decide) (kc := 34) rfl s1.1 (as := [(1, 282), (0, x1), (0, x2)]) rfl ⟨Nat.le_of_ble_eq_true rfl, Nat.le_of_ble_eq_true rfl, Nat.le_of_ble_eq_true rfl, Nat.le_of_ble_eq_true rfl⟩
  · refine (rn_iconst (pc := 9) (dd bX13_rowsIn dX13_rowsIn_9) (by decide)).trans ?_
    exact rn_ireturn (pc := 10) (dd bX13_rowsIn dX13_rowsIn_10) (Or.inl rfl)
theorem rX13_rowsIn_17 {x1 : Int} {x2 : Int} {h : vH} (s1 : shModel h) : vrun mX13_rowsIn 17 [(1, 282), (0, x1), (0, x2)] [] h = vret vrun mX13_rowsIn 19 [(1, 282), (0, x1), (0, x2)] [] (vcl mX13_laysRows [(1, 282), (0, x1)] h) := by
  refine (rn_aload_n (pc := 17) (dd bX13_rowsIn dX13_rowsIn_17) rfl).trans ?_
  refine (rn_iload_n (pc := 18) (dd bX13_rowsIn dX13_rowsIn_18) rfl).trans ?_
  exact rg_virtual (pc := 19) (dd bX13_rowsIn dX13_rowsIn_19) rfl rfl (by decide) (kc := 34) rfl s1.1 (as := [(1, 282), (0, x1)]) rfl ⟨Nat.le_of_ble_eq_true rfl, Nat.le_of_ble_eq_true rfl, Nat.le_of_ble_eq_true rfl, Nat.le_of_ble_eq_true rfl⟩
theorem rX13_rowsIn_22 {x1 : Int} {x2 : Int} {h : vH} (s1 : shModel h) : vrun mX13_rowsIn 22 [(1, 282), (0, x1), (0, x2)] [] h = some (.inl (some (0, h 1541 282 0)), h) := by
  refine (rn_aload_n (pc := 22) (dd bX13_rowsIn dX13_rowsIn_22) rfl).trans ?_
  refine (rg_gf (pc := 23) (dd bX13_rowsIn dX13_rowsIn_23) (ci := 14) (j := 41) rfl rfl (key := 1541) rfl (kc := 34) rfl s1.1 rfl).trans ?_
  exact rn_ireturn (pc := 26) (dd bX13_rowsIn dX13_rowsIn_26) (Or.inl rfl)
theorem bX13_rowsAhead : vmB mX13_rowsAhead = cX13_rowsAhead := rfl
theorem rX13_rowsAhead_0 {x1 : Int} {x2 : Int} {h : vH} : vrun mX13_rowsAhead 0 [(1, 282), (0, x1), (0, x2), (9, 0), (9, 0)] [] h = vrun mX13_rowsAhead 5 [(1, 282), (0, x1), (0, x2), (0, 0), (0, 0)] [] h := by
  refine (rn_iconst (pc := 0) (dd bX13_rowsAhead dX13_rowsAhead_0) (by decide)).trans ?_
  refine (rn_istore_n (pc := 1) (dd bX13_rowsAhead dX13_rowsAhead_1) (Nat.le_of_ble_eq_true rfl) rfl).trans ?_
  refine (rn_iconst (pc := 2) (dd bX13_rowsAhead dX13_rowsAhead_2) (by decide)).trans ?_
  refine (rn_istore (pc := 3) (dd bX13_rowsAhead dX13_rowsAhead_3) (Nat.le_of_ble_eq_true rfl) rfl).trans ?_
  rfl
theorem rX13_rowsAhead_5 {x1 : Int} {x2 : Int} {x3 : Int} {x4 : Int} {h : vH} (s1 : shModel h) : vrun mX13_rowsAhead 5 [(1, 282), (0, x1), (0, x2), (0, x3), (0, x4)] [] h = if x2 ≤ x4 then some (.inl (some (0, x3)), h) else vret vrun mX13_rowsAhead 16 [(1, 282), (0, x1), (0, x2), (0, x3), (0, x4)] [(0, x3)] (vcl mX13_rowsIn [(1, 282), (0, x1), (0, x4)] h) := by
  refine (rn_iload (pc := 5) (dd bX13_rowsAhead dX13_rowsAhead_5) rfl).trans ?_
  refine (rn_iload_n (pc := 7) (dd bX13_rowsAhead dX13_rowsAhead_7) rfl).trans ?_
  refine (rn_icmp_ge (t := 27) (pc := 8) (dd bX13_rowsAhead dX13_rowsAhead_8) rfl).trans (itec (fun c1 => ?_) (fun c1 => ?_))
  · refine (rn_iload_n (pc := 27) (dd bX13_rowsAhead dX13_rowsAhead_27) rfl).trans ?_
    exact rn_ireturn (pc := 28) (dd bX13_rowsAhead dX13_rowsAhead_28) (Or.inl rfl)
  · refine (rn_iload_n (pc := 11) (dd bX13_rowsAhead dX13_rowsAhead_11) rfl).trans ?_
    refine (rn_aload_n (pc := 12) (dd bX13_rowsAhead dX13_rowsAhead_12) rfl).trans ?_
    refine (rn_iload_n (pc := 13) (dd bX13_rowsAhead dX13_rowsAhead_13) rfl).trans ?_
    refine (rn_iload (pc := 14) (dd bX13_rowsAhead dX13_rowsAhead_14) rfl).trans ?_
    exact rg_virtual (pc := 16) (dd bX13_rowsAhead dX13_rowsAhead_16) rfl rfl (by decide) (kc := 34) rfl s1.1 (as := [(1, 282), (0, x1), (0, x4)]) rfl ⟨Nat.le_of_ble_eq_true rfl, Nat.le_of_ble_eq_true rfl, Nat.le_of_ble_eq_true rfl, Nat.le_of_ble_eq_true rfl⟩
theorem rX13_rowsAhead_19 {x1 : Int} {x2 : Int} {x3 : Int} {x4 : Int} {y0 : Int} {y1 : Int} {h : vH} (p1 : (-2147483648) ≤ y1 + y0) (p2 : y1 + y0 < 2147483648) (p3 : (-2147483648) ≤ x4 + 1) (p4 : x4 + 1 < 2147483648) : vrun mX13_rowsAhead 19 [(1, 282), (0, x1), (0, x2), (0, x3), (0, x4)] [(0, y0), (0, y1)] h = vrun mX13_rowsAhead 5 [(1, 282), (0, x1), (0, x2), (0, y1 + y0), (0, x4 + 1)] [] h := by
  refine (rg_iadd (pc := 19) (dd bX13_rowsAhead dX13_rowsAhead_19) p1 p2).trans ?_
  refine (rn_istore_n (pc := 20) (dd bX13_rowsAhead dX13_rowsAhead_20) (Nat.le_of_ble_eq_true rfl) rfl).trans ?_
  refine (rg_iinc (pc := 21) (dd bX13_rowsAhead dX13_rowsAhead_21) rfl (Nat.le_of_ble_eq_true rfl) p3 p4 rfl).trans ?_
  refine (rn_goto (t := 5) (pc := 24) (dd bX13_rowsAhead dX13_rowsAhead_24) rfl).trans ?_
  rfl
theorem bX13_rows : vmB mX13_rows = cX13_rows := rfl
theorem rX13_rows_0 {x1 : Int} {h : vH} (s1 : shModel h) : vrun mX13_rows 0 [(1, 282), (0, x1)] [] h = vret vrun mX13_rows 13 [(1, 282), (0, x1)] [] (vcl mX13_isFine [(1, 282), (0, (if ¬ (¬ (x1 < 0) ∧ ¬ (3 < x1)) then 1 else 0))] h) := by
  refine (rn_aload_n (pc := 0) (dd bX13_rows dX13_rows_0) rfl).trans ?_
  refine (rn_iload_n (pc := 1) (dd bX13_rows dX13_rows_1) rfl).trans ?_
  refine (rg_static (pc := 2) (dd bX13_rows dX13_rows_2) rfl (by decide) (Nat.le_of_ble_eq_true rfl) (as := [(0, x1)]) rfl rfl ⟨Nat.le_of_ble_eq_true rfl, Nat.le_of_ble_eq_true rfl, Nat.le_of_ble_eq_true rfl, Nat.le_of_ble_eq_true rfl⟩).trans ?_
  refine (vret_v spX13_isPane).trans ?_
  have e1 : vrun mX13_rows 5 [(1, 282), (0, x1)] [(0, (if ¬ (x1 < 0) ∧ ¬ (3 < x1) then 1 else 0)), (1, 282)] h = vrun mX13_rows 13 [(1, 282), (0, x1)] [(0, (if ¬ (¬ (x1 < 0) ∧ ¬ (3 < x1)) then 1 else 0)), (1, 282)] h := by
    refine (rg_beq (t := 12) (pc := 5) (dd bX13_rows dX13_rows_5) rfl).trans ?_
    by_cases c1 : ¬ (x1 < 0) ∧ ¬ (3 < x1)
    · refine (if_pos c1).trans ?_
      refine (rn_iconst (pc := 8) (dd bX13_rows dX13_rows_8) (by decide)).trans ?_
      refine (rn_goto (t := 13) (pc := 9) (dd bX13_rows dX13_rows_9) rfl).trans ?_
      refine Eq.trans (b := vrun mX13_rows 13 [(1, 282), (0, x1)] [(0, 0), (1, 282)] h) rfl ?_
      simp only [c1, true_or, false_or, or_true, or_false, true_and, false_and, and_true, and_false, not_true_eq_false, not_false_eq_true, ne_eq, if_true, if_false, ↓reduceIte]
    · refine (if_neg c1).trans ?_
      refine (rn_iconst (pc := 12) (dd bX13_rows dX13_rows_12) (by decide)).trans ?_
      refine Eq.trans (b := vrun mX13_rows 13 [(1, 282), (0, x1)] [(0, 1), (1, 282)] h) rfl ?_
      simp only [c1, true_or, false_or, or_true, or_false, true_and, false_and, and_true, and_false, not_true_eq_false, not_false_eq_true, ne_eq, if_true, if_false, ↓reduceIte]
  refine e1.trans ?_
  exact rg_virtual (pc := 13) (dd bX13_rows dX13_rows_13) rfl rfl (by decide) (kc := 34) rfl s1.1 (as := [(1, 282), (0, (if ¬ (¬ (x1 < 0) ∧ ¬ (3 < x1)) then 1 else 0))]) rfl ⟨Nat.le_of_ble_eq_true rfl, Nat.le_of_ble_eq_true rfl, Nat.le_of_ble_eq_true rfl, Nat.le_of_ble_eq_true rfl⟩
theorem rX13_rows_16 {x1 : Int} {y0 : Int} {h : vH} (s1 : shModel h) : vrun mX13_rows 16 [(1, 282), (0, x1)] [(0, y0)] h = if y0 = 0 then some (.inl (some (0, 0)), h) else vret vrun mX13_rows 25 [(1, 282), (0, x1)] [] (vcl mX13_rowsAhead [(1, 282), (0, x1), (0, h 1504 282 0)] h) := by
  refine (rn_if_eq (t := 31) (pc := 16) (dd bX13_rows dX13_rows_16) rfl).trans (itec (fun c1 => ?_) (fun c1 => ?_))
  · refine (rn_iconst (pc := 31) (dd bX13_rows dX13_rows_31) (by decide)).trans ?_
    exact rn_ireturn (pc := 32) (dd bX13_rows dX13_rows_32) (Or.inl rfl)
  · refine (rn_aload_n (pc := 19) (dd bX13_rows dX13_rows_19) rfl).trans ?_
    refine (rn_iload_n (pc := 20) (dd bX13_rows dX13_rows_20) rfl).trans ?_
    refine (rn_aload_n (pc := 21) (dd bX13_rows dX13_rows_21) rfl).trans ?_
    refine (rg_gf (pc := 22) (dd bX13_rows dX13_rows_22) (ci := 14) (j := 4) rfl rfl (key := 1504) rfl (kc := 34) rfl s1.1 rfl).trans ?_
    exact rg_virtual (pc := 25) (dd bX13_rows dX13_rows_25) rfl rfl (by decide) (kc := 34) rfl s1.1 (as := [(1, 282), (0, x1), (0, h 1504 282 0)]) rfl ⟨Nat.le_of_ble_eq_true rfl, Nat.le_of_ble_eq_true rfl, Nat.le_of_ble_eq_true rfl, Nat.le_of_ble_eq_true rfl⟩
theorem rX13_rows_28 {x1 : Int} {y0 : Int} {h : vH} : vrun mX13_rows 28 [(1, 282), (0, x1)] [(0, y0)] h = some (.inl (some (0, y0)), h) := by
  refine (rn_goto (t := 32) (pc := 28) (dd bX13_rows dX13_rows_28) rfl).trans ?_
  exact rn_ireturn (pc := 32) (dd bX13_rows dX13_rows_32) (Or.inl rfl)
theorem bX13_rowsOf : vmB mX13_rowsOf = cX13_rowsOf := rfl
theorem rX13_rowsOf_0 {x1 : Int} {x2 : Int} {h : vH} (s1 : shModel h) (p2 : ¬ (x1 < 0) ∧ ¬ (3 < x1) → (-2147483648) ≤ h 1504 282 0 - 1) (p3 : ¬ (x1 < 0) ∧ ¬ (3 < x1) → h 1504 282 0 - 1 < 2147483648) : vrun mX13_rowsOf 0 [(1, 282), (0, x1), (0, x2)] [] h = vret vrun mX13_rowsOf 21 [(1, 282), (0, x1), (0, x2)] [] (vcl mX13_isFine [(1, 282), (0, (if ¬ (¬ (x1 < 0) ∧ ¬ (3 < x1)) ∨ fX13_isLine h x2 = 0 then 1 else 0))] h) := by
  refine (rn_aload_n (pc := 0) (dd bX13_rowsOf dX13_rowsOf_0) rfl).trans ?_
  refine (rn_iload_n (pc := 1) (dd bX13_rowsOf dX13_rowsOf_1) rfl).trans ?_
  refine (rg_static (pc := 2) (dd bX13_rowsOf dX13_rowsOf_2) rfl (by decide) (Nat.le_of_ble_eq_true rfl) (as := [(0, x1)]) rfl rfl ⟨Nat.le_of_ble_eq_true rfl, Nat.le_of_ble_eq_true rfl, Nat.le_of_ble_eq_true rfl, Nat.le_of_ble_eq_true rfl⟩).trans ?_
  refine (vret_v spX13_isPane).trans ?_
  have e2 : vrun mX13_rowsOf 5 [(1, 282), (0, x1), (0, x2)] [(0, (if ¬ (x1 < 0) ∧ ¬ (3 < x1) then 1 else 0)), (1, 282)] h = vrun mX13_rowsOf 21 [(1, 282), (0, x1), (0, x2)] [(0, (if ¬ (¬ (x1 < 0) ∧ ¬ (3 < x1)) ∨ fX13_isLine h x2 = 0 then 1 else 0)), (1, 282)] h := by
    refine (rg_beq (t := 20) (pc := 5) (dd bX13_rowsOf dX13_rowsOf_5) rfl).trans ?_
    by_cases c1 : ¬ (x1 < 0) ∧ ¬ (3 < x1)
    · refine (if_pos c1).trans ?_
      refine (rn_aload_n (pc := 8) (dd bX13_rowsOf dX13_rowsOf_8) rfl).trans ?_
      refine (rn_iload_n (pc := 9) (dd bX13_rowsOf dX13_rowsOf_9) rfl).trans ?_
      refine (rg_virtual (pc := 10) (dd bX13_rowsOf dX13_rowsOf_10) rfl rfl (by decide) (kc := 34) rfl s1.1 (as := [(1, 282), (0, x2)]) rfl ⟨Nat.le_of_ble_eq_true rfl, Nat.le_of_ble_eq_true rfl, Nat.le_of_ble_eq_true rfl, Nat.le_of_ble_eq_true rfl⟩).trans ?_
      refine (vret_v (spX13_isLine s1 (p2 c1) (p3 c1))).trans ?_
      have e1 : vrun mX13_rowsOf 13 [(1, 282), (0, x1), (0, x2)] [(0, fX13_isLine h x2), (1, 282)] h = vrun mX13_rowsOf 21 [(1, 282), (0, x1), (0, x2)] [(0, (if fX13_isLine h x2 = 0 then 1 else 0)), (1, 282)] h := by
        refine (rn_if_eq (t := 20) (pc := 13) (dd bX13_rowsOf dX13_rowsOf_13) rfl).trans ?_
        by_cases c2 : fX13_isLine h x2 = 0
        · refine (if_pos c2).trans ?_
          refine (rn_iconst (pc := 20) (dd bX13_rowsOf dX13_rowsOf_20) (by decide)).trans ?_
          refine Eq.trans (b := vrun mX13_rowsOf 21 [(1, 282), (0, x1), (0, x2)] [(0, 1), (1, 282)] h) rfl ?_
          simp only [c2, true_or, false_or, or_true, or_false, true_and, false_and, and_true, and_false, not_true_eq_false, not_false_eq_true, ne_eq, if_true, if_false, ↓reduceIte]
        · refine (if_neg c2).trans ?_
          refine (rn_iconst (pc := 16) (dd bX13_rowsOf dX13_rowsOf_16) (by decide)).trans ?_
          refine (rn_goto (t := 21) (pc := 17) (dd bX13_rowsOf dX13_rowsOf_17) rfl).trans ?_
          refine Eq.trans (b := vrun mX13_rowsOf 21 [(1, 282), (0, x1), (0, x2)] [(0, 0), (1, 282)] h) rfl ?_
          simp only [c2, true_or, false_or, or_true, or_false, true_and, false_and, and_true, and_false, not_true_eq_false, not_false_eq_true, ne_eq, if_true, if_false, ↓reduceIte]
      refine e1.trans ?_
      refine Eq.trans (b := vrun mX13_rowsOf 21 [(1, 282), (0, x1), (0, x2)] [(0, (if fX13_isLine h x2 = 0 then 1 else 0)), (1, 282)] h) rfl ?_
      simp only [c1, true_or, false_or, or_true, or_false, true_and, false_and, and_true, and_false, not_true_eq_false, not_false_eq_true, ne_eq, if_true, if_false, ↓reduceIte]
    · refine (if_neg c1).trans ?_
      refine (rn_iconst (pc := 20) (dd bX13_rowsOf dX13_rowsOf_20) (by decide)).trans ?_
      refine Eq.trans (b := vrun mX13_rowsOf 21 [(1, 282), (0, x1), (0, x2)] [(0, 1), (1, 282)] h) rfl ?_
      simp only [c1, true_or, false_or, or_true, or_false, true_and, false_and, and_true, and_false, not_true_eq_false, not_false_eq_true, ne_eq, if_true, if_false, ↓reduceIte]
  refine e2.trans ?_
  exact rg_virtual (pc := 21) (dd bX13_rowsOf dX13_rowsOf_21) rfl rfl (by decide) (kc := 34) rfl s1.1 (as := [(1, 282), (0, (if ¬ (¬ (x1 < 0) ∧ ¬ (3 < x1)) ∨ fX13_isLine h x2 = 0 then 1 else 0))]) rfl ⟨Nat.le_of_ble_eq_true rfl, Nat.le_of_ble_eq_true rfl, Nat.le_of_ble_eq_true rfl, Nat.le_of_ble_eq_true rfl⟩
theorem rX13_rowsOf_24 {x1 : Int} {x2 : Int} {y0 : Int} {h : vH} (s1 : shModel h) : vrun mX13_rowsOf 24 [(1, 282), (0, x1), (0, x2)] [(0, y0)] h = if y0 = 0 then some (.inl (some (0, 0)), h) else vret vrun mX13_rowsOf 30 [(1, 282), (0, x1), (0, x2)] [] (vcl mX13_rowsIn [(1, 282), (0, x1), (0, x2)] h) := by
  refine (rn_if_eq (t := 36) (pc := 24) (dd bX13_rowsOf dX13_rowsOf_24) rfl).trans (itec (fun c1 => ?_) (fun c1 => ?_))
  · refine (rn_iconst (pc := 36) (dd bX13_rowsOf dX13_rowsOf_36) (by decide)).trans ?_
    exact rn_ireturn (pc := 37) (dd bX13_rowsOf dX13_rowsOf_37) (Or.inl rfl)
  · refine (rn_aload_n (pc := 27) (dd bX13_rowsOf dX13_rowsOf_27) rfl).trans ?_
    refine (rn_iload_n (pc := 28) (dd bX13_rowsOf dX13_rowsOf_28) rfl).trans ?_
    refine (rn_iload_n (pc := 29) (dd bX13_rowsOf dX13_rowsOf_29) rfl).trans ?_
    exact rg_virtual (pc := 30) (dd bX13_rowsOf dX13_rowsOf_30) rfl rfl (by decide) (kc := 34) rfl s1.1 (as := [(1, 282), (0, x1), (0, x2)]) rfl ⟨Nat.le_of_ble_eq_true rfl, Nat.le_of_ble_eq_true rfl, Nat.le_of_ble_eq_true rfl, Nat.le_of_ble_eq_true rfl⟩
theorem rX13_rowsOf_33 {x1 : Int} {x2 : Int} {y0 : Int} {h : vH} : vrun mX13_rowsOf 33 [(1, 282), (0, x1), (0, x2)] [(0, y0)] h = some (.inl (some (0, y0)), h) := by
  refine (rn_goto (t := 37) (pc := 33) (dd bX13_rowsOf dX13_rowsOf_33) rfl).trans ?_
  exact rn_ireturn (pc := 37) (dd bX13_rowsOf dX13_rowsOf_37) (Or.inl rfl)
theorem bX13_isRow : vmB mX13_isRow = cX13_isRow := rfl
theorem rX13_isRow_0 {x1 : Int} {x2 : Int} {h : vH} (s1 : shModel h) : vrun mX13_isRow 0 [(1, 282), (0, x1), (0, x2)] [] h = if ¬ (x1 < 0) ∧ ¬ (3 < x1) then vret vrun mX13_isRow 15 [(1, 282), (0, x1), (0, x2)] [(0, 0), (0, x2)] (vcl mX13_rowsAhead [(1, 282), (0, x1), (0, h 1504 282 0)] h) else some (.inl (some (0, 0)), h) := by
  refine (rn_iload_n (pc := 0) (dd bX13_isRow dX13_isRow_0) rfl).trans ?_
  refine (rg_static (pc := 1) (dd bX13_isRow dX13_isRow_1) rfl (by decide) (Nat.le_of_ble_eq_true rfl) (as := [(0, x1)]) rfl rfl ⟨Nat.le_of_ble_eq_true rfl, Nat.le_of_ble_eq_true rfl, Nat.le_of_ble_eq_true rfl, Nat.le_of_ble_eq_true rfl⟩).trans ?_
  refine (vret_v spX13_isPane).trans ?_
  refine (rg_beq (t := 30) (pc := 4) (dd bX13_isRow dX13_isRow_4) rfl).trans (itec (fun c1 => ?_) (fun c1 => ?_))
  · refine (rn_iload_n (pc := 7) (dd bX13_isRow dX13_isRow_7) rfl).trans ?_
    refine (rn_iconst (pc := 8) (dd bX13_isRow dX13_isRow_8) (by decide)).trans ?_
    refine (rn_aload_n (pc := 9) (dd bX13_isRow dX13_isRow_9) rfl).trans ?_
    refine (rn_iload_n (pc := 10) (dd bX13_isRow dX13_isRow_10) rfl).trans ?_
    refine (rn_aload_n (pc := 11) (dd bX13_isRow dX13_isRow_11) rfl).trans ?_
    refine (rg_gf (pc := 12) (dd bX13_isRow dX13_isRow_12) (ci := 14) (j := 4) rfl rfl (key := 1504) rfl (kc := 34) rfl s1.1 rfl).trans ?_
    exact rg_virtual (pc := 15) (dd bX13_isRow dX13_isRow_15) rfl rfl (by decide) (kc := 34) rfl s1.1 (as := [(1, 282), (0, x1), (0, h 1504 282 0)]) rfl ⟨Nat.le_of_ble_eq_true rfl, Nat.le_of_ble_eq_true rfl, Nat.le_of_ble_eq_true rfl, Nat.le_of_ble_eq_true rfl⟩
  · refine (rn_iconst (pc := 30) (dd bX13_isRow dX13_isRow_30) (by decide)).trans ?_
    exact rn_ireturn (pc := 31) (dd bX13_isRow dX13_isRow_31) (Or.inr ⟨rfl, (by decide)⟩)
theorem rX13_isRow_18 {x1 : Int} {x2 : Int} {y0 : Int} {y1 : Int} {y2 : Int} {h : vH} (p1 : (-2147483648) ≤ y0 - 1) (p2 : y0 - 1 < 2147483648) : vrun mX13_isRow 18 [(1, 282), (0, x1), (0, x2)] [(0, y0), (0, y1), (0, y2)] h = some (.inl (some (0, (if ¬ (y2 < y1) ∧ ¬ (y0 - 1 < y2) then 1 else 0))), h) := by
  refine (rn_iconst (pc := 18) (dd bX13_isRow dX13_isRow_18) (by decide)).trans ?_
  refine (rg_isub (pc := 19) (dd bX13_isRow dX13_isRow_19) p1 p2).trans ?_
  refine (rg_static (pc := 20) (dd bX13_isRow dX13_isRow_20) rfl (by decide) (Nat.le_of_ble_eq_true rfl) (as := [(0, y2), (0, y1), (0, y0 - 1)]) rfl rfl ⟨Nat.le_of_ble_eq_true rfl, Nat.le_of_ble_eq_true rfl, Nat.le_of_ble_eq_true rfl, Nat.le_of_ble_eq_true rfl⟩).trans ?_
  refine (vret_v spX13_isIn).trans ?_
  have e1 : vrun mX13_isRow 23 [(1, 282), (0, x1), (0, x2)] [(0, (if ¬ (y2 < y1) ∧ ¬ (y0 - 1 < y2) then 1 else 0))] h = vrun mX13_isRow 31 [(1, 282), (0, x1), (0, x2)] [(0, (if ¬ (y2 < y1) ∧ ¬ (y0 - 1 < y2) then 1 else 0))] h := by
    refine (rg_beq (t := 30) (pc := 23) (dd bX13_isRow dX13_isRow_23) rfl).trans ?_
    by_cases c1 : ¬ (y2 < y1) ∧ ¬ (y0 - 1 < y2)
    · refine (if_pos c1).trans ?_
      refine (rn_iconst (pc := 26) (dd bX13_isRow dX13_isRow_26) (by decide)).trans ?_
      refine (rn_goto (t := 31) (pc := 27) (dd bX13_isRow dX13_isRow_27) rfl).trans ?_
      refine Eq.trans (b := vrun mX13_isRow 31 [(1, 282), (0, x1), (0, x2)] [(0, 1)] h) rfl ?_
      simp only [c1, true_or, false_or, or_true, or_false, true_and, false_and, and_true, and_false, not_true_eq_false, not_false_eq_true, ne_eq, if_true, if_false, ↓reduceIte]
    · refine (if_neg c1).trans ?_
      refine (rn_iconst (pc := 30) (dd bX13_isRow dX13_isRow_30) (by decide)).trans ?_
      refine Eq.trans (b := vrun mX13_isRow 31 [(1, 282), (0, x1), (0, x2)] [(0, 0)] h) rfl ?_
      simp only [c1, true_or, false_or, or_true, or_false, true_and, false_and, and_true, and_false, not_true_eq_false, not_false_eq_true, ne_eq, if_true, if_false, ↓reduceIte]
  refine e1.trans ?_
  exact rn_ireturn (pc := 31) (dd bX13_isRow dX13_isRow_31) (Or.inr ⟨rfl, b01⟩)
theorem bX13_lineOf : vmB mX13_lineOf = cX13_lineOf := rfl
theorem rX13_lineOf_0 {x1 : Int} {x2 : Int} {h : vH} (s1 : shModel h) : vrun mX13_lineOf 0 [(1, 282), (0, x1), (0, x2), (9, 0), (9, 0), (9, 0)] [] h = vret vrun mX13_lineOf 8 [(1, 282), (0, x1), (0, x2), (0, x2), (0, 0), (9, 0)] [] (vcl mX13_rowsIn [(1, 282), (0, x1), (0, 0)] h) := by
  refine (rn_iload_n (pc := 0) (dd bX13_lineOf dX13_lineOf_0) rfl).trans ?_
  refine (rn_istore_n (pc := 1) (dd bX13_lineOf dX13_lineOf_1) (Nat.le_of_ble_eq_true rfl) rfl).trans ?_
  refine (rn_iconst (pc := 2) (dd bX13_lineOf dX13_lineOf_2) (by decide)).trans ?_
  refine (rn_istore (pc := 3) (dd bX13_lineOf dX13_lineOf_3) (Nat.le_of_ble_eq_true rfl) rfl).trans ?_
  refine (rn_aload_n (pc := 5) (dd bX13_lineOf dX13_lineOf_5) rfl).trans ?_
  refine (rn_iload_n (pc := 6) (dd bX13_lineOf dX13_lineOf_6) rfl).trans ?_
  refine (rn_iconst (pc := 7) (dd bX13_lineOf dX13_lineOf_7) (by decide)).trans ?_
  exact rg_virtual (pc := 8) (dd bX13_lineOf dX13_lineOf_8) rfl rfl (by decide) (kc := 34) rfl s1.1 (as := [(1, 282), (0, x1), (0, 0)]) rfl ⟨Nat.le_of_ble_eq_true rfl, Nat.le_of_ble_eq_true rfl, Nat.le_of_ble_eq_true rfl, Nat.le_of_ble_eq_true rfl⟩
theorem rX13_lineOf_11 {x1 : Int} {x2 : Int} {x3 : Int} {x4 : Int} {y0 : Int} {h : vH} : vrun mX13_lineOf 11 [(1, 282), (0, x1), (0, x2), (0, x3), (0, x4), (9, 0)] [(0, y0)] h = vrun mX13_lineOf 13 [(1, 282), (0, x1), (0, x2), (0, x3), (0, x4), (0, y0)] [] h := by
  refine (rn_istore (pc := 11) (dd bX13_lineOf dX13_lineOf_11) (Nat.le_of_ble_eq_true rfl) rfl).trans ?_
  rfl
theorem rX13_lineOf_13 {x1 : Int} {x2 : Int} {x3 : Int} {x4 : Int} {x5 : Int} {h : vH} (p1 : ¬ (x3 < x5) → (-2147483648) ≤ x3 - x5) (p2 : ¬ (x3 < x5) → x3 - x5 < 2147483648) (p3 : ¬ (x3 < x5) → (-2147483648) ≤ x4 + 1) (p4 : ¬ (x3 < x5) → x4 + 1 < 2147483648) (s5 : shModel h) : vrun mX13_lineOf 13 [(1, 282), (0, x1), (0, x2), (0, x3), (0, x4), (0, x5)] [] h = if x3 < x5 then some (.inl (some (0, x4)), h) else vret vrun mX13_lineOf 31 [(1, 282), (0, x1), (0, x2), (0, x3 - x5), (0, x4 + 1), (0, x5)] [] (vcl mX13_rowsIn [(1, 282), (0, x1), (0, x4 + 1)] h) := by
  refine (rn_iload_n (pc := 13) (dd bX13_lineOf dX13_lineOf_13) rfl).trans ?_
  refine (rn_iload (pc := 14) (dd bX13_lineOf dX13_lineOf_14) rfl).trans ?_
  refine (rn_icmp_lt (t := 39) (pc := 16) (dd bX13_lineOf dX13_lineOf_16) rfl).trans (itec (fun c1 => ?_) (fun c1 => ?_))
  · refine (rn_iload (pc := 39) (dd bX13_lineOf dX13_lineOf_39) rfl).trans ?_
    exact rn_ireturn (pc := 41) (dd bX13_lineOf dX13_lineOf_41) (Or.inl rfl)
  · refine (rn_iload_n (pc := 19) (dd bX13_lineOf dX13_lineOf_19) rfl).trans ?_
    refine (rn_iload (pc := 20) (dd bX13_lineOf dX13_lineOf_20) rfl).trans ?_
    refine (rg_isub (pc := 22) (dd bX13_lineOf dX13_lineOf_22) (p1 c1) (p2 c1)).trans ?_
    refine (rn_istore_n (pc := 23) (dd bX13_lineOf dX13_lineOf_23) (Nat.le_of_ble_eq_true rfl) rfl).trans ?_
    refine (rg_iinc (pc := 24) (dd bX13_lineOf dX13_lineOf_24) rfl (Nat.le_of_ble_eq_true rfl) (p3 c1) (p4 c1) rfl).trans ?_
    refine (rn_aload_n (pc := 27) (dd bX13_lineOf dX13_lineOf_27) rfl).trans ?_
    refine (rn_iload_n (pc := 28) (dd bX13_lineOf dX13_lineOf_28) rfl).trans ?_
    refine (rn_iload (pc := 29) (dd bX13_lineOf dX13_lineOf_29) rfl).trans ?_
    exact rg_virtual (pc := 31) (dd bX13_lineOf dX13_lineOf_31) rfl rfl (by decide) (kc := 34) rfl s5.1 (as := [(1, 282), (0, x1), (0, x4 + 1)]) rfl ⟨Nat.le_of_ble_eq_true rfl, Nat.le_of_ble_eq_true rfl, Nat.le_of_ble_eq_true rfl, Nat.le_of_ble_eq_true rfl⟩
theorem rX13_lineOf_34 {x1 : Int} {x2 : Int} {x3 : Int} {x4 : Int} {x5 : Int} {y0 : Int} {h : vH} : vrun mX13_lineOf 34 [(1, 282), (0, x1), (0, x2), (0, x3), (0, x4), (0, x5)] [(0, y0)] h = vrun mX13_lineOf 13 [(1, 282), (0, x1), (0, x2), (0, x3), (0, x4), (0, y0)] [] h := by
  refine (rn_istore (pc := 34) (dd bX13_lineOf dX13_lineOf_34) (Nat.le_of_ble_eq_true rfl) rfl).trans ?_
  refine (rn_goto (t := 13) (pc := 36) (dd bX13_lineOf dX13_lineOf_36) rfl).trans ?_
  rfl
theorem bX13_encloses : vmB mX13_encloses = cX13_encloses := rfl
theorem rX13_encloses_0 {h : vH} : vrun mX13_encloses 0 [(1, 282), (9, 0), (9, 0), (9, 0)] [] h = vrun mX13_encloses 4 [(1, 282), (0, 0), (0, 0), (9, 0)] [] h := by
  refine (rn_iconst (pc := 0) (dd bX13_encloses dX13_encloses_0) (by decide)).trans ?_
  refine (rn_istore_n (pc := 1) (dd bX13_encloses dX13_encloses_1) (Nat.le_of_ble_eq_true rfl) rfl).trans ?_
  refine (rn_iconst (pc := 2) (dd bX13_encloses dX13_encloses_2) (by decide)).trans ?_
  refine (rn_istore_n (pc := 3) (dd bX13_encloses dX13_encloses_3) (Nat.le_of_ble_eq_true rfl) rfl).trans ?_
  rfl
theorem rX13_encloses_4 {x1 : Int} {x2 : Int} {h : vH} (s1 : shModel h) (p2 : ¬ (h 1540 282 0 ≤ x2) → 0 ≤ x2) (p3 : ¬ (h 1540 282 0 ≤ x2) → x2 < 140) (p4 : ¬ (h 1540 282 0 ≤ x2) → h 2 311 x2 = 60 → 0 ≤ x1) (p5 : ¬ (h 1540 282 0 ≤ x2) → h 2 311 x2 = 60 → x1 < 140) (p6 : ¬ (h 1540 282 0 ≤ x2) → ¬ (h 2 311 x2 = 60) → h 2 311 x2 = 62 → ¬ (x1 ≤ 0) → x1 + (-1) < 2147483648) (p7 : ¬ (h 1540 282 0 ≤ x2) → ¬ (h 2 311 x2 = 60) → h 2 311 x2 = 62 → ¬ (x1 ≤ 0) → x1 + (-1) < 140) (p8 : ¬ (h 1540 282 0 ≤ x2) → ¬ (h 2 311 x2 = 60) → h 2 311 x2 = 62 → ¬ (x1 ≤ 0) → 0 ≤ h 2 325 (x1 + (-1))) (p9 : ¬ (h 1540 282 0 ≤ x2) → ¬ (h 2 311 x2 = 60) → h 2 311 x2 = 62 → ¬ (x1 ≤ 0) → h 2 325 (x1 + (-1)) < 140) : vrun mX13_encloses 4 [(1, 282), (0, x1), (0, x2), (9, 0)] [] h = if h 1540 282 0 ≤ x2 then vrun mX13_encloses 95 [(1, 282), (0, 0), (0, 0), (9, 0)] [] h else vrun mX13_encloses 4 [(1, 282), (0, (if h 2 311 x2 = 60 then x1 + 1 else (if h 2 311 x2 = 62 then (if x1 ≤ 0 then x1 else x1 + (-1)) else x1))), (0, x2 + 1), (9, 0)] [] (if h 2 311 x2 = 60 then vup (vup h 2 323 x2 (-1)) 2 325 x1 x2 else (if h 2 311 x2 = 62 then (if x1 ≤ 0 then vup h 2 323 x2 (-1) else vup (vup (vup h 2 323 x2 (-1)) 2 323 x2 (h 2 325 (x1 + (-1)))) 2 323 (h 2 325 (x1 + (-1))) x2) else vup h 2 323 x2 (-1))) := by
  refine (rn_iload_n (pc := 4) (dd bX13_encloses dX13_encloses_4) rfl).trans ?_
  refine (rn_aload_n (pc := 5) (dd bX13_encloses dX13_encloses_5) rfl).trans ?_
  refine (rg_gf (pc := 6) (dd bX13_encloses dX13_encloses_6) (ci := 14) (j := 40) rfl rfl (key := 1540) rfl (kc := 34) rfl s1.1 rfl).trans ?_
  refine (rn_icmp_ge (t := 91) (pc := 9) (dd bX13_encloses dX13_encloses_9) rfl).trans (itec (fun c1 => ?_) (fun c1 => ?_))
  · refine (rn_iconst (pc := 91) (dd bX13_encloses dX13_encloses_91) (by decide)).trans ?_
    refine (rn_istore_n (pc := 92) (dd bX13_encloses dX13_encloses_92) (Nat.le_of_ble_eq_true rfl) rfl).trans ?_
    refine (rn_iconst (pc := 93) (dd bX13_encloses dX13_encloses_93) (by decide)).trans ?_
    refine (rn_istore_n (pc := 94) (dd bX13_encloses dX13_encloses_94) (Nat.le_of_ble_eq_true rfl) rfl).trans ?_
    rfl
  · refine (rn_aload_n (pc := 12) (dd bX13_encloses dX13_encloses_12) rfl).trans ?_
    refine (rg_gf (pc := 13) (dd bX13_encloses dX13_encloses_13) (ci := 14) (j := 45) rfl rfl (key := 1545) rfl (kc := 34) rfl s1.1 s1.2.2.2.2.2.2.2.2.2.2.2.2.2.2.2.2.2.2.2.2.2.2.2.2.2.2.2.2.2.2.2.2.2.2.2.2.2.2.2.2.2.2.2.2.2.2.2.2.2.2.2.2.2.2.2.2.2.2.2.2.2.2.2.2.2.2.2.2.2.2.2.2.2.2.2.2.2.2.2.2.2.2.2.2.2.2.2.2.2.2.2.2.2.2.2.2.2.2.2.2.2.2.2.2.2.2.2.2.2.2.2.2.2.2.2.2.2.2.2.2.2.1).trans ?_
    refine (rn_iload_n (pc := 16) (dd bX13_encloses dX13_encloses_16) rfl).trans ?_
    refine (rn_iconst (pc := 17) (dd bX13_encloses dX13_encloses_17) (by decide)).trans ?_
    refine (rg_iastore (pc := 18) (dd bX13_encloses dX13_encloses_18) s1.2.2.2.2.2.2.2.2.2.2.2.2.2.2.2.2.2.2.2.2.2.2.2.2.2.2.2.2.2.2.2.2.2.2.2.2.2.2.2.2.2.2.2.2.2.2.2.2.2.2.2.2.2.2.2.2.2.2.2.2.2.2.2.2.2.2.2.2.2.2.2.2.2.2.2.2.2.2.2.2.2.2.2.2.2.2.2.2.2.2.2.2.2.2.2.2.2.2.2.2.2.2.2.2.2.2.2.2.2.2.2.2.2.2.2.2.2.2.2.2.2.2.1 s1.2.2.2.2.2.2.2.2.2.2.2.2.2.2.2.2.2.2.2.2.2.2.2.2.2.2.2.2.2.2.2.2.2.2.2.2.2.2.2.2.2.2.2.2.2.2.2.2.2.2.2.2.2.2.2.2.2.2.2.2.2.2.2.2.2.2.2.2.2.2.2.2.2.2.2.2.2.2.2.2.2.2.2.2.2.2.2.2.2.2.2.2.2.2.2.2.2.2.2.2.2.2.2.2.2.2.2.2.2.2.2.2.2.2.2.2.2.2.2.2.2.2.2.1 (p2 c1) (p3 c1)).trans ?_
    refine (rn_aload_n (pc := 19) (dd bX13_encloses dX13_encloses_19) rfl).trans ?_
    refine (rg_gf (pc := 20) (dd bX13_encloses dX13_encloses_20) (ci := 14) (j := 30) rfl rfl (key := 1530) rfl (kc := 34) rfl ((vup_k (by decide)).trans s1.1) ((vup_k (by decide)).trans s1.2.2.2.2.2.2.2.2.2.2.2.2.2.2.2.2.2.2.2.2.2.2.2.2.2.2.2.2.2.2.2.2.2.2.2.2.2.2.2.2.2.2.2.2.2.2.2.2.2.2.2.2.2.2.2.2.2.2.2.2.2.2.2.2.2.2.2.2.2.2.2.2.2.2.2.2.2.2.2.2.2.2.2.2.2.1)).trans ?_
    refine (rn_iload_n (pc := 23) (dd bX13_encloses dX13_encloses_23) rfl).trans ?_
    refine (rg_iaload (pc := 24) (dd bX13_encloses dX13_encloses_24) ((vup_k (by decide)).trans s1.2.2.2.2.2.2.2.2.2.2.2.2.2.2.2.2.2.2.2.2.2.2.2.2.2.2.2.2.2.2.2.2.2.2.2.2.2.2.2.2.2.2.2.2.2.2.2.2.2.2.2.2.2.2.2.2.2.2.2.2.2.2.2.2.2.2.2.2.2.2.2.2.2.2.2.2.2.2.2.2.2.2.2.2.2.2.1) ((vup_k (by decide)).trans s1.2.2.2.2.2.2.2.2.2.2.2.2.2.2.2.2.2.2.2.2.2.2.2.2.2.2.2.2.2.2.2.2.2.2.2.2.2.2.2.2.2.2.2.2.2.2.2.2.2.2.2.2.2.2.2.2.2.2.2.2.2.2.2.2.2.2.2.2.2.2.2.2.2.2.2.2.2.2.2.2.2.2.2.2.2.2.2.1) (by have z0 := p2 c1; have z1 := p3 c1; omega) (by have z0 := p2 c1; have z1 := p3 c1; omega) ((vup_r (by omega)).trans rfl)).trans ?_
    refine (rn_bipush (pc := 25) (dd bX13_encloses dX13_encloses_25) (by decide)).trans ?_
    have e3 : vrun mX13_encloses 27 [(1, 282), (0, x1), (0, x2), (9, 0)] [(0, 60), (0, h 2 311 x2)] (vup h 2 323 x2 (-1)) = vrun mX13_encloses 85 [(1, 282), (0, (if h 2 311 x2 = 60 then x1 + 1 else (if h 2 311 x2 = 62 then (if x1 ≤ 0 then x1 else x1 + (-1)) else x1))), (0, x2), (9, 0)] [] (if h 2 311 x2 = 60 then vup (vup h 2 323 x2 (-1)) 2 325 x1 x2 else (if h 2 311 x2 = 62 then (if x1 ≤ 0 then vup h 2 323 x2 (-1) else vup (vup (vup h 2 323 x2 (-1)) 2 323 x2 (h 2 325 (x1 + (-1)))) 2 323 (h 2 325 (x1 + (-1))) x2) else vup h 2 323 x2 (-1))) := by
      refine (rg_icmp_ne (t := 43) (pc := 27) (dd bX13_encloses dX13_encloses_27) rfl).trans ?_
      by_cases c2 : h 2 311 x2 = 60
      · refine (if_pos c2).trans ?_
        refine (rn_aload_n (pc := 30) (dd bX13_encloses dX13_encloses_30) rfl).trans ?_
        refine (rg_gf (pc := 31) (dd bX13_encloses dX13_encloses_31) (ci := 14) (j := 47) rfl rfl (key := 1547) rfl (kc := 34) rfl ((vup_k (by decide)).trans s1.1) ((vup_k (by decide)).trans s1.2.2.2.2.2.2.2.2.2.2.2.2.2.2.2.2.2.2.2.2.2.2.2.2.2.2.2.2.2.2.2.2.2.2.2.2.2.2.2.2.2.2.2.2.2.2.2.2.2.2.2.2.2.2.2.2.2.2.2.2.2.2.2.2.2.2.2.2.2.2.2.2.2.2.2.2.2.2.2.2.2.2.2.2.2.2.2.2.2.2.2.2.2.2.2.2.2.2.2.2.2.2.2.2.2.2.2.2.2.2.2.2.2.2.2.2.2.2.2.2.2.2.2.2.2.2.2.1)).trans ?_
        refine (rn_iload_n (pc := 34) (dd bX13_encloses dX13_encloses_34) rfl).trans ?_
        refine (rn_iload_n (pc := 35) (dd bX13_encloses dX13_encloses_35) rfl).trans ?_
        refine (rg_iastore (pc := 36) (dd bX13_encloses dX13_encloses_36) ((vup_k (by decide)).trans s1.2.2.2.2.2.2.2.2.2.2.2.2.2.2.2.2.2.2.2.2.2.2.2.2.2.2.2.2.2.2.2.2.2.2.2.2.2.2.2.2.2.2.2.2.2.2.2.2.2.2.2.2.2.2.2.2.2.2.2.2.2.2.2.2.2.2.2.2.2.2.2.2.2.2.2.2.2.2.2.2.2.2.2.2.2.2.2.2.2.2.2.2.2.2.2.2.2.2.2.2.2.2.2.2.2.2.2.2.2.2.2.2.2.2.2.2.2.2.2.2.2.2.2.2.2.2.2.2.1) ((vup_k (by decide)).trans s1.2.2.2.2.2.2.2.2.2.2.2.2.2.2.2.2.2.2.2.2.2.2.2.2.2.2.2.2.2.2.2.2.2.2.2.2.2.2.2.2.2.2.2.2.2.2.2.2.2.2.2.2.2.2.2.2.2.2.2.2.2.2.2.2.2.2.2.2.2.2.2.2.2.2.2.2.2.2.2.2.2.2.2.2.2.2.2.2.2.2.2.2.2.2.2.2.2.2.2.2.2.2.2.2.2.2.2.2.2.2.2.2.2.2.2.2.2.2.2.2.2.2.2.2.2.2.2.2.2.1) (p4 c1 c2) (p5 c1 c2)).trans ?_
        refine (rg_iinc (pc := 37) (dd bX13_encloses dX13_encloses_37) rfl (Nat.le_of_ble_eq_true rfl) (by have z0 := p4 c1 c2; have z1 := p5 c1 c2; omega) (by have z0 := p4 c1 c2; have z1 := p5 c1 c2; omega) rfl).trans ?_
        refine (rn_goto (t := 85) (pc := 40) (dd bX13_encloses dX13_encloses_40) rfl).trans ?_
        refine Eq.trans (b := vrun mX13_encloses 85 [(1, 282), (0, x1 + 1), (0, x2), (9, 0)] [] (vup (vup h 2 323 x2 (-1)) 2 325 x1 x2)) rfl ?_
        simp only [if_pos c2]
      · refine (if_neg c2).trans ?_
        refine (rn_aload_n (pc := 43) (dd bX13_encloses dX13_encloses_43) rfl).trans ?_
        refine (rg_gf (pc := 44) (dd bX13_encloses dX13_encloses_44) (ci := 14) (j := 30) rfl rfl (key := 1530) rfl (kc := 34) rfl ((vup_k (by decide)).trans s1.1) ((vup_k (by decide)).trans s1.2.2.2.2.2.2.2.2.2.2.2.2.2.2.2.2.2.2.2.2.2.2.2.2.2.2.2.2.2.2.2.2.2.2.2.2.2.2.2.2.2.2.2.2.2.2.2.2.2.2.2.2.2.2.2.2.2.2.2.2.2.2.2.2.2.2.2.2.2.2.2.2.2.2.2.2.2.2.2.2.2.2.2.2.2.1)).trans ?_
        refine (rn_iload_n (pc := 47) (dd bX13_encloses dX13_encloses_47) rfl).trans ?_
        refine (rg_iaload (pc := 48) (dd bX13_encloses dX13_encloses_48) ((vup_k (by decide)).trans s1.2.2.2.2.2.2.2.2.2.2.2.2.2.2.2.2.2.2.2.2.2.2.2.2.2.2.2.2.2.2.2.2.2.2.2.2.2.2.2.2.2.2.2.2.2.2.2.2.2.2.2.2.2.2.2.2.2.2.2.2.2.2.2.2.2.2.2.2.2.2.2.2.2.2.2.2.2.2.2.2.2.2.2.2.2.2.1) ((vup_k (by decide)).trans s1.2.2.2.2.2.2.2.2.2.2.2.2.2.2.2.2.2.2.2.2.2.2.2.2.2.2.2.2.2.2.2.2.2.2.2.2.2.2.2.2.2.2.2.2.2.2.2.2.2.2.2.2.2.2.2.2.2.2.2.2.2.2.2.2.2.2.2.2.2.2.2.2.2.2.2.2.2.2.2.2.2.2.2.2.2.2.2.1) (by have z0 := p2 c1; have z1 := p3 c1; omega) (by have z0 := p2 c1; have z1 := p3 c1; omega) ((vup_r (by omega)).trans rfl)).trans ?_
        refine (rn_bipush (pc := 49) (dd bX13_encloses dX13_encloses_49) (by decide)).trans ?_
        have e2 : vrun mX13_encloses 51 [(1, 282), (0, x1), (0, x2), (9, 0)] [(0, 62), (0, h 2 311 x2)] (vup h 2 323 x2 (-1)) = vrun mX13_encloses 85 [(1, 282), (0, (if h 2 311 x2 = 62 then (if x1 ≤ 0 then x1 else x1 + (-1)) else x1)), (0, x2), (9, 0)] [] (if h 2 311 x2 = 62 then (if x1 ≤ 0 then vup h 2 323 x2 (-1) else vup (vup (vup h 2 323 x2 (-1)) 2 323 x2 (h 2 325 (x1 + (-1)))) 2 323 (h 2 325 (x1 + (-1))) x2) else vup h 2 323 x2 (-1)) := by
          refine (rg_icmp_ne (t := 85) (pc := 51) (dd bX13_encloses dX13_encloses_51) rfl).trans ?_
          by_cases c3 : h 2 311 x2 = 62
          · refine (if_pos c3).trans ?_
            refine (rn_iload_n (pc := 54) (dd bX13_encloses dX13_encloses_54) rfl).trans ?_
            have e1 : vrun mX13_encloses 55 [(1, 282), (0, x1), (0, x2), (9, 0)] [(0, x1)] (vup h 2 323 x2 (-1)) = vrun mX13_encloses 85 [(1, 282), (0, (if x1 ≤ 0 then x1 else x1 + (-1))), (0, x2), (9, 0)] [] (if x1 ≤ 0 then vup h 2 323 x2 (-1) else vup (vup (vup h 2 323 x2 (-1)) 2 323 x2 (h 2 325 (x1 + (-1)))) 2 323 (h 2 325 (x1 + (-1))) x2) := by
              refine (rn_if_le (t := 85) (pc := 55) (dd bX13_encloses dX13_encloses_55) rfl).trans ?_
              by_cases c4 : x1 ≤ 0
              · refine (if_pos c4).trans ?_
                refine Eq.trans (b := vrun mX13_encloses 85 [(1, 282), (0, x1), (0, x2), (9, 0)] [] (vup h 2 323 x2 (-1))) rfl ?_
                simp only [if_pos c4]
              · refine (if_neg c4).trans ?_
                refine (rg_iinc (pc := 58) (dd bX13_encloses dX13_encloses_58) rfl (Nat.le_of_ble_eq_true rfl) (by omega) (p6 c1 c2 c3 c4) rfl).trans ?_
                refine (rn_aload_n (pc := 61) (dd bX13_encloses dX13_encloses_61) rfl).trans ?_
                refine (rg_gf (pc := 62) (dd bX13_encloses dX13_encloses_62) (ci := 14) (j := 45) rfl rfl (key := 1545) rfl (kc := 34) rfl ((vup_k (by decide)).trans s1.1) ((vup_k (by decide)).trans s1.2.2.2.2.2.2.2.2.2.2.2.2.2.2.2.2.2.2.2.2.2.2.2.2.2.2.2.2.2.2.2.2.2.2.2.2.2.2.2.2.2.2.2.2.2.2.2.2.2.2.2.2.2.2.2.2.2.2.2.2.2.2.2.2.2.2.2.2.2.2.2.2.2.2.2.2.2.2.2.2.2.2.2.2.2.2.2.2.2.2.2.2.2.2.2.2.2.2.2.2.2.2.2.2.2.2.2.2.2.2.2.2.2.2.2.2.2.2.2.2.2.1)).trans ?_
                refine (rn_iload_n (pc := 65) (dd bX13_encloses dX13_encloses_65) rfl).trans ?_
                refine (rn_aload_n (pc := 66) (dd bX13_encloses dX13_encloses_66) rfl).trans ?_
                refine (rg_gf (pc := 67) (dd bX13_encloses dX13_encloses_67) (ci := 14) (j := 47) rfl rfl (key := 1547) rfl (kc := 34) rfl ((vup_k (by decide)).trans s1.1) ((vup_k (by decide)).trans s1.2.2.2.2.2.2.2.2.2.2.2.2.2.2.2.2.2.2.2.2.2.2.2.2.2.2.2.2.2.2.2.2.2.2.2.2.2.2.2.2.2.2.2.2.2.2.2.2.2.2.2.2.2.2.2.2.2.2.2.2.2.2.2.2.2.2.2.2.2.2.2.2.2.2.2.2.2.2.2.2.2.2.2.2.2.2.2.2.2.2.2.2.2.2.2.2.2.2.2.2.2.2.2.2.2.2.2.2.2.2.2.2.2.2.2.2.2.2.2.2.2.2.2.2.2.2.2.1)).trans ?_
                refine (rn_iload_n (pc := 70) (dd bX13_encloses dX13_encloses_70) rfl).trans ?_
                refine (rg_iaload (pc := 71) (dd bX13_encloses dX13_encloses_71) ((vup_k (by decide)).trans s1.2.2.2.2.2.2.2.2.2.2.2.2.2.2.2.2.2.2.2.2.2.2.2.2.2.2.2.2.2.2.2.2.2.2.2.2.2.2.2.2.2.2.2.2.2.2.2.2.2.2.2.2.2.2.2.2.2.2.2.2.2.2.2.2.2.2.2.2.2.2.2.2.2.2.2.2.2.2.2.2.2.2.2.2.2.2.2.2.2.2.2.2.2.2.2.2.2.2.2.2.2.2.2.2.2.2.2.2.2.2.2.2.2.2.2.2.2.2.2.2.2.2.2.2.2.2.2.2.1) ((vup_k (by decide)).trans s1.2.2.2.2.2.2.2.2.2.2.2.2.2.2.2.2.2.2.2.2.2.2.2.2.2.2.2.2.2.2.2.2.2.2.2.2.2.2.2.2.2.2.2.2.2.2.2.2.2.2.2.2.2.2.2.2.2.2.2.2.2.2.2.2.2.2.2.2.2.2.2.2.2.2.2.2.2.2.2.2.2.2.2.2.2.2.2.2.2.2.2.2.2.2.2.2.2.2.2.2.2.2.2.2.2.2.2.2.2.2.2.2.2.2.2.2.2.2.2.2.2.2.2.2.2.2.2.2.2.1) (by have z0 := p6 c1 c2 c3 c4; omega) (p7 c1 c2 c3 c4) ((vup_r (by omega)).trans rfl)).trans ?_
                refine (rg_iastore (pc := 72) (dd bX13_encloses dX13_encloses_72) ((vup_k (by decide)).trans s1.2.2.2.2.2.2.2.2.2.2.2.2.2.2.2.2.2.2.2.2.2.2.2.2.2.2.2.2.2.2.2.2.2.2.2.2.2.2.2.2.2.2.2.2.2.2.2.2.2.2.2.2.2.2.2.2.2.2.2.2.2.2.2.2.2.2.2.2.2.2.2.2.2.2.2.2.2.2.2.2.2.2.2.2.2.2.2.2.2.2.2.2.2.2.2.2.2.2.2.2.2.2.2.2.2.2.2.2.2.2.2.2.2.2.2.2.2.2.2.2.2.2.1) ((vup_k (by decide)).trans s1.2.2.2.2.2.2.2.2.2.2.2.2.2.2.2.2.2.2.2.2.2.2.2.2.2.2.2.2.2.2.2.2.2.2.2.2.2.2.2.2.2.2.2.2.2.2.2.2.2.2.2.2.2.2.2.2.2.2.2.2.2.2.2.2.2.2.2.2.2.2.2.2.2.2.2.2.2.2.2.2.2.2.2.2.2.2.2.2.2.2.2.2.2.2.2.2.2.2.2.2.2.2.2.2.2.2.2.2.2.2.2.2.2.2.2.2.2.2.2.2.2.2.2.1) (by have z0 := p2 c1; have z1 := p3 c1; omega) (by have z0 := p2 c1; have z1 := p3 c1; omega)).trans ?_
                refine (rn_aload_n (pc := 73) (dd bX13_encloses dX13_encloses_73) rfl).trans ?_
                refine (rg_gf (pc := 74) (dd bX13_encloses dX13_encloses_74) (ci := 14) (j := 45) rfl rfl (key := 1545) rfl (kc := 34) rfl ((vup_k (by decide)).trans ((vup_k (by decide)).trans s1.1)) ((vup_k (by decide)).trans ((vup_k (by decide)).trans s1.2.2.2.2.2.2.2.2.2.2.2.2.2.2.2.2.2.2.2.2.2.2.2.2.2.2.2.2.2.2.2.2.2.2.2.2.2.2.2.2.2.2.2.2.2.2.2.2.2.2.2.2.2.2.2.2.2.2.2.2.2.2.2.2.2.2.2.2.2.2.2.2.2.2.2.2.2.2.2.2.2.2.2.2.2.2.2.2.2.2.2.2.2.2.2.2.2.2.2.2.2.2.2.2.2.2.2.2.2.2.2.2.2.2.2.2.2.2.2.2.2.1))).trans ?_
                refine (rn_aload_n (pc := 77) (dd bX13_encloses dX13_encloses_77) rfl).trans ?_
                refine (rg_gf (pc := 78) (dd bX13_encloses dX13_encloses_78) (ci := 14) (j := 47) rfl rfl (key := 1547) rfl (kc := 34) rfl ((vup_k (by decide)).trans ((vup_k (by decide)).trans s1.1)) ((vup_k (by decide)).trans ((vup_k (by decide)).trans s1.2.2.2.2.2.2.2.2.2.2.2.2.2.2.2.2.2.2.2.2.2.2.2.2.2.2.2.2.2.2.2.2.2.2.2.2.2.2.2.2.2.2.2.2.2.2.2.2.2.2.2.2.2.2.2.2.2.2.2.2.2.2.2.2.2.2.2.2.2.2.2.2.2.2.2.2.2.2.2.2.2.2.2.2.2.2.2.2.2.2.2.2.2.2.2.2.2.2.2.2.2.2.2.2.2.2.2.2.2.2.2.2.2.2.2.2.2.2.2.2.2.2.2.2.2.2.2.1))).trans ?_
                refine (rn_iload_n (pc := 81) (dd bX13_encloses dX13_encloses_81) rfl).trans ?_
                refine (rg_iaload (pc := 82) (dd bX13_encloses dX13_encloses_82) ((vup_k (by decide)).trans ((vup_k (by decide)).trans s1.2.2.2.2.2.2.2.2.2.2.2.2.2.2.2.2.2.2.2.2.2.2.2.2.2.2.2.2.2.2.2.2.2.2.2.2.2.2.2.2.2.2.2.2.2.2.2.2.2.2.2.2.2.2.2.2.2.2.2.2.2.2.2.2.2.2.2.2.2.2.2.2.2.2.2.2.2.2.2.2.2.2.2.2.2.2.2.2.2.2.2.2.2.2.2.2.2.2.2.2.2.2.2.2.2.2.2.2.2.2.2.2.2.2.2.2.2.2.2.2.2.2.2.2.2.2.2.2.1)) ((vup_k (by decide)).trans ((vup_k (by decide)).trans s1.2.2.2.2.2.2.2.2.2.2.2.2.2.2.2.2.2.2.2.2.2.2.2.2.2.2.2.2.2.2.2.2.2.2.2.2.2.2.2.2.2.2.2.2.2.2.2.2.2.2.2.2.2.2.2.2.2.2.2.2.2.2.2.2.2.2.2.2.2.2.2.2.2.2.2.2.2.2.2.2.2.2.2.2.2.2.2.2.2.2.2.2.2.2.2.2.2.2.2.2.2.2.2.2.2.2.2.2.2.2.2.2.2.2.2.2.2.2.2.2.2.2.2.2.2.2.2.2.2.1)) (by have z0 := p6 c1 c2 c3 c4; have z1 := p7 c1 c2 c3 c4; omega) (by have z0 := p6 c1 c2 c3 c4; have z1 := p7 c1 c2 c3 c4; omega) ((vup_r (by omega)).trans ((vup_r (by omega)).trans rfl))).trans ?_
                refine (rn_iload_n (pc := 83) (dd bX13_encloses dX13_encloses_83) rfl).trans ?_
                refine (rg_iastore (pc := 84) (dd bX13_encloses dX13_encloses_84) ((vup_k (by decide)).trans ((vup_k (by decide)).trans s1.2.2.2.2.2.2.2.2.2.2.2.2.2.2.2.2.2.2.2.2.2.2.2.2.2.2.2.2.2.2.2.2.2.2.2.2.2.2.2.2.2.2.2.2.2.2.2.2.2.2.2.2.2.2.2.2.2.2.2.2.2.2.2.2.2.2.2.2.2.2.2.2.2.2.2.2.2.2.2.2.2.2.2.2.2.2.2.2.2.2.2.2.2.2.2.2.2.2.2.2.2.2.2.2.2.2.2.2.2.2.2.2.2.2.2.2.2.2.2.2.2.2.1)) ((vup_k (by decide)).trans ((vup_k (by decide)).trans s1.2.2.2.2.2.2.2.2.2.2.2.2.2.2.2.2.2.2.2.2.2.2.2.2.2.2.2.2.2.2.2.2.2.2.2.2.2.2.2.2.2.2.2.2.2.2.2.2.2.2.2.2.2.2.2.2.2.2.2.2.2.2.2.2.2.2.2.2.2.2.2.2.2.2.2.2.2.2.2.2.2.2.2.2.2.2.2.2.2.2.2.2.2.2.2.2.2.2.2.2.2.2.2.2.2.2.2.2.2.2.2.2.2.2.2.2.2.2.2.2.2.2.2.1)) (p8 c1 c2 c3 c4) (p9 c1 c2 c3 c4)).trans ?_
                refine Eq.trans (b := vrun mX13_encloses 85 [(1, 282), (0, x1 + (-1)), (0, x2), (9, 0)] [] (vup (vup (vup h 2 323 x2 (-1)) 2 323 x2 (h 2 325 (x1 + (-1)))) 2 323 (h 2 325 (x1 + (-1))) x2)) rfl ?_
                simp only [if_neg c4]
            refine e1.trans ?_
            refine Eq.trans (b := vrun mX13_encloses 85 [(1, 282), (0, (if x1 ≤ 0 then x1 else x1 + (-1))), (0, x2), (9, 0)] [] (if x1 ≤ 0 then vup h 2 323 x2 (-1) else vup (vup (vup h 2 323 x2 (-1)) 2 323 x2 (h 2 325 (x1 + (-1)))) 2 323 (h 2 325 (x1 + (-1))) x2)) rfl ?_
            simp only [if_pos c3]
          · refine (if_neg c3).trans ?_
            refine Eq.trans (b := vrun mX13_encloses 85 [(1, 282), (0, x1), (0, x2), (9, 0)] [] (vup h 2 323 x2 (-1))) rfl ?_
            simp only [if_neg c3]
        refine e2.trans ?_
        refine Eq.trans (b := vrun mX13_encloses 85 [(1, 282), (0, (if h 2 311 x2 = 62 then (if x1 ≤ 0 then x1 else x1 + (-1)) else x1)), (0, x2), (9, 0)] [] (if h 2 311 x2 = 62 then (if x1 ≤ 0 then vup h 2 323 x2 (-1) else vup (vup (vup h 2 323 x2 (-1)) 2 323 x2 (h 2 325 (x1 + (-1)))) 2 323 (h 2 325 (x1 + (-1))) x2) else vup h 2 323 x2 (-1))) rfl ?_
        simp only [if_neg c2]
    refine e3.trans ?_
    refine (rg_iinc (pc := 85) (dd bX13_encloses dX13_encloses_85) rfl (Nat.le_of_ble_eq_true rfl) (by have z0 := p2 c1; have z1 := p3 c1; omega) (by have z0 := p2 c1; have z1 := p3 c1; omega) rfl).trans ?_
    refine (rn_goto (t := 4) (pc := 88) (dd bX13_encloses dX13_encloses_88) rfl).trans ?_
    rfl
theorem rX13_encloses_95 {x1 : Int} {x2 : Int} {v3 : vv} {h : vH} (s1 : shModel h) (p2 : ¬ (h 1540 282 0 ≤ x2) → 0 ≤ x2) (p3 : ¬ (h 1540 282 0 ≤ x2) → x2 < 140) (p4 : ¬ (h 1540 282 0 ≤ x2) → (-2147483648) ≤ x1 - (if (¬ (h 2 323 x2 = (-1)) ∧ (h 2 311 x2 = 60 ∨ h 2 311 x2 = 62)) ∧ h 2 311 x2 = 62 then 1 else 0)) (p5 : ¬ (h 1540 282 0 ≤ x2) → x1 - (if (¬ (h 2 323 x2 = (-1)) ∧ (h 2 311 x2 = 60 ∨ h 2 311 x2 = 62)) ∧ h 2 311 x2 = 62 then 1 else 0) < 2147483648) (p6 : ¬ (h 1540 282 0 ≤ x2) → ¬ (x1 - (if (¬ (h 2 323 x2 = (-1)) ∧ (h 2 311 x2 = 60 ∨ h 2 311 x2 = 62)) ∧ h 2 311 x2 = 62 then 1 else 0) = 0) → (-2147483648) ≤ x1 - (if (¬ (h 2 323 x2 = (-1)) ∧ (h 2 311 x2 = 60 ∨ h 2 311 x2 = 62)) ∧ h 2 311 x2 = 62 then 1 else 0) - 1) (p7 : ¬ (h 1540 282 0 ≤ x2) → ¬ (x1 - (if (¬ (h 2 323 x2 = (-1)) ∧ (h 2 311 x2 = 60 ∨ h 2 311 x2 = 62)) ∧ h 2 311 x2 = 62 then 1 else 0) = 0) → 0 ≤ x1 - (if (¬ (h 2 323 x2 = (-1)) ∧ (h 2 311 x2 = 60 ∨ h 2 311 x2 = 62)) ∧ h 2 311 x2 = 62 then 1 else 0) - 1) (p8 : ¬ (h 1540 282 0 ≤ x2) → ¬ (x1 - (if (¬ (h 2 323 x2 = (-1)) ∧ (h 2 311 x2 = 60 ∨ h 2 311 x2 = 62)) ∧ h 2 311 x2 = 62 then 1 else 0) = 0) → x1 - (if (¬ (h 2 323 x2 = (-1)) ∧ (h 2 311 x2 = 60 ∨ h 2 311 x2 = 62)) ∧ h 2 311 x2 = 62 then 1 else 0) - 1 < 140) (p9 : ¬ (h 1540 282 0 ≤ x2) → ¬ (h 2 323 x2 = (-1)) ∧ (h 2 311 x2 = 60 ∨ h 2 311 x2 = 62) → h 2 311 x2 = 60 → 0 ≤ x1 - (if (¬ (h 2 323 x2 = (-1)) ∧ (h 2 311 x2 = 60 ∨ h 2 311 x2 = 62)) ∧ h 2 311 x2 = 62 then 1 else 0)) (p10 : ¬ (h 1540 282 0 ≤ x2) → ¬ (h 2 323 x2 = (-1)) ∧ (h 2 311 x2 = 60 ∨ h 2 311 x2 = 62) → h 2 311 x2 = 60 → x1 - (if (¬ (h 2 323 x2 = (-1)) ∧ (h 2 311 x2 = 60 ∨ h 2 311 x2 = 62)) ∧ h 2 311 x2 = 62 then 1 else 0) < 140) : vrun mX13_encloses 95 [(1, 282), (0, x1), (0, x2), v3] [] h = if h 1540 282 0 ≤ x2 then some (.inl none, h) else vrun mX13_encloses 95 [(1, 282), (0, (if ¬ (h 2 323 x2 = (-1)) ∧ (h 2 311 x2 = 60 ∨ h 2 311 x2 = 62) then (if h 2 311 x2 = 60 then x1 - (if (¬ (h 2 323 x2 = (-1)) ∧ (h 2 311 x2 = 60 ∨ h 2 311 x2 = 62)) ∧ h 2 311 x2 = 62 then 1 else 0) + 1 else x1 - (if (¬ (h 2 323 x2 = (-1)) ∧ (h 2 311 x2 = 60 ∨ h 2 311 x2 = 62)) ∧ h 2 311 x2 = 62 then 1 else 0)) else x1 - (if (¬ (h 2 323 x2 = (-1)) ∧ (h 2 311 x2 = 60 ∨ h 2 311 x2 = 62)) ∧ h 2 311 x2 = 62 then 1 else 0))), (0, x2 + 1), (0, (if ¬ (h 2 323 x2 = (-1)) ∧ (h 2 311 x2 = 60 ∨ h 2 311 x2 = 62) then 1 else 0))] [] (if ¬ (h 2 323 x2 = (-1)) ∧ (h 2 311 x2 = 60 ∨ h 2 311 x2 = 62) then (if h 2 311 x2 = 60 then vup (vup h 2 322 x2 (if x1 - (if (¬ (h 2 323 x2 = (-1)) ∧ (h 2 311 x2 = 60 ∨ h 2 311 x2 = 62)) ∧ h 2 311 x2 = 62 then 1 else 0) = 0 then (-1) else h 2 325 (x1 - (if (¬ (h 2 323 x2 = (-1)) ∧ (h 2 311 x2 = 60 ∨ h 2 311 x2 = 62)) ∧ h 2 311 x2 = 62 then 1 else 0) - 1))) 2 325 (x1 - (if (¬ (h 2 323 x2 = (-1)) ∧ (h 2 311 x2 = 60 ∨ h 2 311 x2 = 62)) ∧ h 2 311 x2 = 62 then 1 else 0)) x2 else vup h 2 322 x2 (if x1 - (if (¬ (h 2 323 x2 = (-1)) ∧ (h 2 311 x2 = 60 ∨ h 2 311 x2 = 62)) ∧ h 2 311 x2 = 62 then 1 else 0) = 0 then (-1) else h 2 325 (x1 - (if (¬ (h 2 323 x2 = (-1)) ∧ (h 2 311 x2 = 60 ∨ h 2 311 x2 = 62)) ∧ h 2 311 x2 = 62 then 1 else 0) - 1))) else vup h 2 322 x2 (if x1 - (if (¬ (h 2 323 x2 = (-1)) ∧ (h 2 311 x2 = 60 ∨ h 2 311 x2 = 62)) ∧ h 2 311 x2 = 62 then 1 else 0) = 0 then (-1) else h 2 325 (x1 - (if (¬ (h 2 323 x2 = (-1)) ∧ (h 2 311 x2 = 60 ∨ h 2 311 x2 = 62)) ∧ h 2 311 x2 = 62 then 1 else 0) - 1))) := by
  refine (rn_iload_n (pc := 95) (dd bX13_encloses dX13_encloses_95) rfl).trans ?_
  refine (rn_aload_n (pc := 96) (dd bX13_encloses dX13_encloses_96) rfl).trans ?_
  refine (rg_gf (pc := 97) (dd bX13_encloses dX13_encloses_97) (ci := 14) (j := 40) rfl rfl (key := 1540) rfl (kc := 34) rfl s1.1 rfl).trans ?_
  refine (rn_icmp_ge (t := 217) (pc := 100) (dd bX13_encloses dX13_encloses_100) rfl).trans (itec (fun c1 => ?_) (fun c1 => ?_))
  · exact rn_return (pc := 217) (dd bX13_encloses dX13_encloses_217) rfl
  · refine (rn_aload_n (pc := 103) (dd bX13_encloses dX13_encloses_103) rfl).trans ?_
    refine (rg_gf (pc := 104) (dd bX13_encloses dX13_encloses_104) (ci := 14) (j := 45) rfl rfl (key := 1545) rfl (kc := 34) rfl s1.1 s1.2.2.2.2.2.2.2.2.2.2.2.2.2.2.2.2.2.2.2.2.2.2.2.2.2.2.2.2.2.2.2.2.2.2.2.2.2.2.2.2.2.2.2.2.2.2.2.2.2.2.2.2.2.2.2.2.2.2.2.2.2.2.2.2.2.2.2.2.2.2.2.2.2.2.2.2.2.2.2.2.2.2.2.2.2.2.2.2.2.2.2.2.2.2.2.2.2.2.2.2.2.2.2.2.2.2.2.2.2.2.2.2.2.2.2.2.2.2.2.2.2.1).trans ?_
    refine (rn_iload_n (pc := 107) (dd bX13_encloses dX13_encloses_107) rfl).trans ?_
    refine (rg_iaload (pc := 108) (dd bX13_encloses dX13_encloses_108) s1.2.2.2.2.2.2.2.2.2.2.2.2.2.2.2.2.2.2.2.2.2.2.2.2.2.2.2.2.2.2.2.2.2.2.2.2.2.2.2.2.2.2.2.2.2.2.2.2.2.2.2.2.2.2.2.2.2.2.2.2.2.2.2.2.2.2.2.2.2.2.2.2.2.2.2.2.2.2.2.2.2.2.2.2.2.2.2.2.2.2.2.2.2.2.2.2.2.2.2.2.2.2.2.2.2.2.2.2.2.2.2.2.2.2.2.2.2.2.2.2.2.2.1 s1.2.2.2.2.2.2.2.2.2.2.2.2.2.2.2.2.2.2.2.2.2.2.2.2.2.2.2.2.2.2.2.2.2.2.2.2.2.2.2.2.2.2.2.2.2.2.2.2.2.2.2.2.2.2.2.2.2.2.2.2.2.2.2.2.2.2.2.2.2.2.2.2.2.2.2.2.2.2.2.2.2.2.2.2.2.2.2.2.2.2.2.2.2.2.2.2.2.2.2.2.2.2.2.2.2.2.2.2.2.2.2.2.2.2.2.2.2.2.2.2.2.2.2.1 (p2 c1) (p3 c1) rfl).trans ?_
    refine (rn_iconst (pc := 109) (dd bX13_encloses dX13_encloses_109) (by decide)).trans ?_
    have e3 : vrun mX13_encloses 110 [(1, 282), (0, x1), (0, x2), v3] [(0, (-1)), (0, h 2 323 x2)] h = vrun mX13_encloses 140 [(1, 282), (0, x1), (0, x2), v3] [(0, (if ¬ (h 2 323 x2 = (-1)) ∧ (h 2 311 x2 = 60 ∨ h 2 311 x2 = 62) then 1 else 0))] h := by
      refine (rn_icmp_eq (t := 139) (pc := 110) (dd bX13_encloses dX13_encloses_110) rfl).trans ?_
      by_cases c2 : h 2 323 x2 = (-1)
      · refine (if_pos c2).trans ?_
        refine (rn_iconst (pc := 139) (dd bX13_encloses dX13_encloses_139) (by decide)).trans ?_
        refine Eq.trans (b := vrun mX13_encloses 140 [(1, 282), (0, x1), (0, x2), v3] [(0, 0)] h) rfl ?_
        simp only [c2, true_or, false_or, or_true, or_false, true_and, false_and, and_true, and_false, not_true_eq_false, not_false_eq_true, ne_eq, if_true, if_false, ↓reduceIte]
      · refine (if_neg c2).trans ?_
        refine (rn_aload_n (pc := 113) (dd bX13_encloses dX13_encloses_113) rfl).trans ?_
        refine (rg_gf (pc := 114) (dd bX13_encloses dX13_encloses_114) (ci := 14) (j := 30) rfl rfl (key := 1530) rfl (kc := 34) rfl s1.1 s1.2.2.2.2.2.2.2.2.2.2.2.2.2.2.2.2.2.2.2.2.2.2.2.2.2.2.2.2.2.2.2.2.2.2.2.2.2.2.2.2.2.2.2.2.2.2.2.2.2.2.2.2.2.2.2.2.2.2.2.2.2.2.2.2.2.2.2.2.2.2.2.2.2.2.2.2.2.2.2.2.2.2.2.2.2.1).trans ?_
        refine (rn_iload_n (pc := 117) (dd bX13_encloses dX13_encloses_117) rfl).trans ?_
        refine (rg_iaload (pc := 118) (dd bX13_encloses dX13_encloses_118) s1.2.2.2.2.2.2.2.2.2.2.2.2.2.2.2.2.2.2.2.2.2.2.2.2.2.2.2.2.2.2.2.2.2.2.2.2.2.2.2.2.2.2.2.2.2.2.2.2.2.2.2.2.2.2.2.2.2.2.2.2.2.2.2.2.2.2.2.2.2.2.2.2.2.2.2.2.2.2.2.2.2.2.2.2.2.2.1 s1.2.2.2.2.2.2.2.2.2.2.2.2.2.2.2.2.2.2.2.2.2.2.2.2.2.2.2.2.2.2.2.2.2.2.2.2.2.2.2.2.2.2.2.2.2.2.2.2.2.2.2.2.2.2.2.2.2.2.2.2.2.2.2.2.2.2.2.2.2.2.2.2.2.2.2.2.2.2.2.2.2.2.2.2.2.2.2.1 (by have z0 := p2 c1; have z1 := p3 c1; omega) (by have z0 := p2 c1; have z1 := p3 c1; omega) rfl).trans ?_
        refine (rn_bipush (pc := 119) (dd bX13_encloses dX13_encloses_119) (by decide)).trans ?_
        have e2 : vrun mX13_encloses 121 [(1, 282), (0, x1), (0, x2), v3] [(0, 60), (0, h 2 311 x2)] h = vrun mX13_encloses 140 [(1, 282), (0, x1), (0, x2), v3] [(0, (if h 2 311 x2 = 60 ∨ h 2 311 x2 = 62 then 1 else 0))] h := by
          refine (rn_icmp_eq (t := 135) (pc := 121) (dd bX13_encloses dX13_encloses_121) rfl).trans ?_
          by_cases c3 : h 2 311 x2 = 60
          · refine (if_pos c3).trans ?_
            refine (rn_iconst (pc := 135) (dd bX13_encloses dX13_encloses_135) (by decide)).trans ?_
            refine (rn_goto (t := 140) (pc := 136) (dd bX13_encloses dX13_encloses_136) rfl).trans ?_
            refine Eq.trans (b := vrun mX13_encloses 140 [(1, 282), (0, x1), (0, x2), v3] [(0, 1)] h) rfl ?_
            simp only [c3, true_or, false_or, or_true, or_false, true_and, false_and, and_true, and_false, not_true_eq_false, not_false_eq_true, ne_eq, if_true, if_false, ↓reduceIte]
          · refine (if_neg c3).trans ?_
            refine (rn_aload_n (pc := 124) (dd bX13_encloses dX13_encloses_124) rfl).trans ?_
            refine (rg_gf (pc := 125) (dd bX13_encloses dX13_encloses_125) (ci := 14) (j := 30) rfl rfl (key := 1530) rfl (kc := 34) rfl s1.1 s1.2.2.2.2.2.2.2.2.2.2.2.2.2.2.2.2.2.2.2.2.2.2.2.2.2.2.2.2.2.2.2.2.2.2.2.2.2.2.2.2.2.2.2.2.2.2.2.2.2.2.2.2.2.2.2.2.2.2.2.2.2.2.2.2.2.2.2.2.2.2.2.2.2.2.2.2.2.2.2.2.2.2.2.2.2.1).trans ?_
            refine (rn_iload_n (pc := 128) (dd bX13_encloses dX13_encloses_128) rfl).trans ?_
            refine (rg_iaload (pc := 129) (dd bX13_encloses dX13_encloses_129) s1.2.2.2.2.2.2.2.2.2.2.2.2.2.2.2.2.2.2.2.2.2.2.2.2.2.2.2.2.2.2.2.2.2.2.2.2.2.2.2.2.2.2.2.2.2.2.2.2.2.2.2.2.2.2.2.2.2.2.2.2.2.2.2.2.2.2.2.2.2.2.2.2.2.2.2.2.2.2.2.2.2.2.2.2.2.2.1 s1.2.2.2.2.2.2.2.2.2.2.2.2.2.2.2.2.2.2.2.2.2.2.2.2.2.2.2.2.2.2.2.2.2.2.2.2.2.2.2.2.2.2.2.2.2.2.2.2.2.2.2.2.2.2.2.2.2.2.2.2.2.2.2.2.2.2.2.2.2.2.2.2.2.2.2.2.2.2.2.2.2.2.2.2.2.2.2.1 (by have z0 := p2 c1; have z1 := p3 c1; omega) (by have z0 := p2 c1; have z1 := p3 c1; omega) rfl).trans ?_
            refine (rn_bipush (pc := 130) (dd bX13_encloses dX13_encloses_130) (by decide)).trans ?_
            have e1 : vrun mX13_encloses 132 [(1, 282), (0, x1), (0, x2), v3] [(0, 62), (0, h 2 311 x2)] h = vrun mX13_encloses 140 [(1, 282), (0, x1), (0, x2), v3] [(0, (if h 2 311 x2 = 62 then 1 else 0))] h := by
              refine (rg_icmp_ne (t := 139) (pc := 132) (dd bX13_encloses dX13_encloses_132) rfl).trans ?_
              by_cases c4 : h 2 311 x2 = 62
              · refine (if_pos c4).trans ?_
                refine (rn_iconst (pc := 135) (dd bX13_encloses dX13_encloses_135) (by decide)).trans ?_
                refine (rn_goto (t := 140) (pc := 136) (dd bX13_encloses dX13_encloses_136) rfl).trans ?_
                refine Eq.trans (b := vrun mX13_encloses 140 [(1, 282), (0, x1), (0, x2), v3] [(0, 1)] h) rfl ?_
                simp only [c4, true_or, false_or, or_true, or_false, true_and, false_and, and_true, and_false, not_true_eq_false, not_false_eq_true, ne_eq, if_true, if_false, ↓reduceIte]
              · refine (if_neg c4).trans ?_
                refine (rn_iconst (pc := 139) (dd bX13_encloses dX13_encloses_139) (by decide)).trans ?_
                refine Eq.trans (b := vrun mX13_encloses 140 [(1, 282), (0, x1), (0, x2), v3] [(0, 0)] h) rfl ?_
                simp only [c4, true_or, false_or, or_true, or_false, true_and, false_and, and_true, and_false, not_true_eq_false, not_false_eq_true, ne_eq, if_true, if_false, ↓reduceIte]
            refine e1.trans ?_
            refine Eq.trans (b := vrun mX13_encloses 140 [(1, 282), (0, x1), (0, x2), v3] [(0, (if h 2 311 x2 = 62 then 1 else 0))] h) rfl ?_
            simp only [c3, true_or, false_or, or_true, or_false, true_and, false_and, and_true, and_false, not_true_eq_false, not_false_eq_true, ne_eq, if_true, if_false, ↓reduceIte]
        refine e2.trans ?_
        refine Eq.trans (b := vrun mX13_encloses 140 [(1, 282), (0, x1), (0, x2), v3] [(0, (if h 2 311 x2 = 60 ∨ h 2 311 x2 = 62 then 1 else 0))] h) rfl ?_
        simp only [c2, true_or, false_or, or_true, or_false, true_and, false_and, and_true, and_false, not_true_eq_false, not_false_eq_true, ne_eq, if_true, if_false, ↓reduceIte]
    refine e3.trans ?_
    refine (rn_istore_n (pc := 140) (dd bX13_encloses dX13_encloses_140) (Nat.le_of_ble_eq_true rfl) rfl).trans ?_
    refine (rn_iload_n (pc := 141) (dd bX13_encloses dX13_encloses_141) rfl).trans ?_
    refine (rn_iload_n (pc := 142) (dd bX13_encloses dX13_encloses_142) rfl).trans ?_
    have e5 : vrun mX13_encloses 143 [(1, 282), (0, x1), (0, x2), (0, (if ¬ (h 2 323 x2 = (-1)) ∧ (h 2 311 x2 = 60 ∨ h 2 311 x2 = 62) then 1 else 0))] [(0, (if ¬ (h 2 323 x2 = (-1)) ∧ (h 2 311 x2 = 60 ∨ h 2 311 x2 = 62) then 1 else 0)), (0, x1)] h = vrun mX13_encloses 162 [(1, 282), (0, x1), (0, x2), (0, (if ¬ (h 2 323 x2 = (-1)) ∧ (h 2 311 x2 = 60 ∨ h 2 311 x2 = 62) then 1 else 0))] [(0, (if (¬ (h 2 323 x2 = (-1)) ∧ (h 2 311 x2 = 60 ∨ h 2 311 x2 = 62)) ∧ h 2 311 x2 = 62 then 1 else 0)), (0, x1)] h := by
      refine (rg_beq (t := 161) (pc := 143) (dd bX13_encloses dX13_encloses_143) rfl).trans ?_
      by_cases c5 : ¬ (h 2 323 x2 = (-1)) ∧ (h 2 311 x2 = 60 ∨ h 2 311 x2 = 62)
      · refine (if_pos c5).trans ?_
        refine (rn_aload_n (pc := 146) (dd bX13_encloses dX13_encloses_146) rfl).trans ?_
        refine (rg_gf (pc := 147) (dd bX13_encloses dX13_encloses_147) (ci := 14) (j := 30) rfl rfl (key := 1530) rfl (kc := 34) rfl s1.1 s1.2.2.2.2.2.2.2.2.2.2.2.2.2.2.2.2.2.2.2.2.2.2.2.2.2.2.2.2.2.2.2.2.2.2.2.2.2.2.2.2.2.2.2.2.2.2.2.2.2.2.2.2.2.2.2.2.2.2.2.2.2.2.2.2.2.2.2.2.2.2.2.2.2.2.2.2.2.2.2.2.2.2.2.2.2.1).trans ?_
        refine (rn_iload_n (pc := 150) (dd bX13_encloses dX13_encloses_150) rfl).trans ?_
        refine (rg_iaload (pc := 151) (dd bX13_encloses dX13_encloses_151) s1.2.2.2.2.2.2.2.2.2.2.2.2.2.2.2.2.2.2.2.2.2.2.2.2.2.2.2.2.2.2.2.2.2.2.2.2.2.2.2.2.2.2.2.2.2.2.2.2.2.2.2.2.2.2.2.2.2.2.2.2.2.2.2.2.2.2.2.2.2.2.2.2.2.2.2.2.2.2.2.2.2.2.2.2.2.2.1 s1.2.2.2.2.2.2.2.2.2.2.2.2.2.2.2.2.2.2.2.2.2.2.2.2.2.2.2.2.2.2.2.2.2.2.2.2.2.2.2.2.2.2.2.2.2.2.2.2.2.2.2.2.2.2.2.2.2.2.2.2.2.2.2.2.2.2.2.2.2.2.2.2.2.2.2.2.2.2.2.2.2.2.2.2.2.2.2.1 (by have z0 := p2 c1; have z1 := p3 c1; omega) (by have z0 := p2 c1; have z1 := p3 c1; omega) rfl).trans ?_
        refine (rn_bipush (pc := 152) (dd bX13_encloses dX13_encloses_152) (by decide)).trans ?_
        have e4 : vrun mX13_encloses 154 [(1, 282), (0, x1), (0, x2), (0, (if ¬ (h 2 323 x2 = (-1)) ∧ (h 2 311 x2 = 60 ∨ h 2 311 x2 = 62) then 1 else 0))] [(0, 62), (0, h 2 311 x2), (0, x1)] h = vrun mX13_encloses 162 [(1, 282), (0, x1), (0, x2), (0, (if ¬ (h 2 323 x2 = (-1)) ∧ (h 2 311 x2 = 60 ∨ h 2 311 x2 = 62) then 1 else 0))] [(0, (if h 2 311 x2 = 62 then 1 else 0)), (0, x1)] h := by
          refine (rg_icmp_ne (t := 161) (pc := 154) (dd bX13_encloses dX13_encloses_154) rfl).trans ?_
          by_cases c6 : h 2 311 x2 = 62
          · refine (if_pos c6).trans ?_
            refine (rn_iconst (pc := 157) (dd bX13_encloses dX13_encloses_157) (by decide)).trans ?_
            refine (rn_goto (t := 162) (pc := 158) (dd bX13_encloses dX13_encloses_158) rfl).trans ?_
            refine Eq.trans (b := vrun mX13_encloses 162 [(1, 282), (0, x1), (0, x2), (0, (if ¬ (h 2 323 x2 = (-1)) ∧ (h 2 311 x2 = 60 ∨ h 2 311 x2 = 62) then 1 else 0))] [(0, 1), (0, x1)] h) rfl ?_
            simp only [c6, true_or, false_or, or_true, or_false, true_and, false_and, and_true, and_false, not_true_eq_false, not_false_eq_true, ne_eq, if_true, if_false, ↓reduceIte]
          · refine (if_neg c6).trans ?_
            refine (rn_iconst (pc := 161) (dd bX13_encloses dX13_encloses_161) (by decide)).trans ?_
            refine Eq.trans (b := vrun mX13_encloses 162 [(1, 282), (0, x1), (0, x2), (0, (if ¬ (h 2 323 x2 = (-1)) ∧ (h 2 311 x2 = 60 ∨ h 2 311 x2 = 62) then 1 else 0))] [(0, 0), (0, x1)] h) rfl ?_
            simp only [c6, true_or, false_or, or_true, or_false, true_and, false_and, and_true, and_false, not_true_eq_false, not_false_eq_true, ne_eq, if_true, if_false, ↓reduceIte]
        refine e4.trans ?_
        refine Eq.trans (b := vrun mX13_encloses 162 [(1, 282), (0, x1), (0, x2), (0, (if ¬ (h 2 323 x2 = (-1)) ∧ (h 2 311 x2 = 60 ∨ h 2 311 x2 = 62) then 1 else 0))] [(0, (if h 2 311 x2 = 62 then 1 else 0)), (0, x1)] h) rfl ?_
        simp only [c5, true_or, false_or, or_true, or_false, true_and, false_and, and_true, and_false, not_true_eq_false, not_false_eq_true, ne_eq, if_true, if_false, ↓reduceIte]
      · refine (if_neg c5).trans ?_
        refine (rn_iconst (pc := 161) (dd bX13_encloses dX13_encloses_161) (by decide)).trans ?_
        refine Eq.trans (b := vrun mX13_encloses 162 [(1, 282), (0, x1), (0, x2), (0, (if ¬ (h 2 323 x2 = (-1)) ∧ (h 2 311 x2 = 60 ∨ h 2 311 x2 = 62) then 1 else 0))] [(0, 0), (0, x1)] h) rfl ?_
        simp only [c5, true_or, false_or, or_true, or_false, true_and, false_and, and_true, and_false, not_true_eq_false, not_false_eq_true, ne_eq, if_true, if_false, ↓reduceIte]
    refine e5.trans ?_
    refine (rg_isub (pc := 162) (dd bX13_encloses dX13_encloses_162) (p4 c1) (p5 c1)).trans ?_
    refine (rn_istore_n (pc := 163) (dd bX13_encloses dX13_encloses_163) (Nat.le_of_ble_eq_true rfl) rfl).trans ?_
    refine (rn_aload_n (pc := 164) (dd bX13_encloses dX13_encloses_164) rfl).trans ?_
    refine (rg_gf (pc := 165) (dd bX13_encloses dX13_encloses_165) (ci := 14) (j := 44) rfl rfl (key := 1544) rfl (kc := 34) rfl s1.1 s1.2.2.2.2.2.2.2.2.2.2.2.2.2.2.2.2.2.2.2.2.2.2.2.2.2.2.2.2.2.2.2.2.2.2.2.2.2.2.2.2.2.2.2.2.2.2.2.2.2.2.2.2.2.2.2.2.2.2.2.2.2.2.2.2.2.2.2.2.2.2.2.2.2.2.2.2.2.2.2.2.2.2.2.2.2.2.2.2.2.2.2.2.2.2.2.2.2.2.2.2.2.2.2.2.2.2.2.2.2.2.2.2.2.2.2.2.2.2.1).trans ?_
    refine (rn_iload_n (pc := 168) (dd bX13_encloses dX13_encloses_168) rfl).trans ?_
    refine (rn_iload_n (pc := 169) (dd bX13_encloses dX13_encloses_169) rfl).trans ?_
    have e6 : vrun mX13_encloses 170 [(1, 282), (0, x1 - (if (¬ (h 2 323 x2 = (-1)) ∧ (h 2 311 x2 = 60 ∨ h 2 311 x2 = 62)) ∧ h 2 311 x2 = 62 then 1 else 0)), (0, x2), (0, (if ¬ (h 2 323 x2 = (-1)) ∧ (h 2 311 x2 = 60 ∨ h 2 311 x2 = 62) then 1 else 0))] [(0, x1 - (if (¬ (h 2 323 x2 = (-1)) ∧ (h 2 311 x2 = 60 ∨ h 2 311 x2 = 62)) ∧ h 2 311 x2 = 62 then 1 else 0)), (0, x2), (1, 322)] h = vrun mX13_encloses 185 [(1, 282), (0, x1 - (if (¬ (h 2 323 x2 = (-1)) ∧ (h 2 311 x2 = 60 ∨ h 2 311 x2 = 62)) ∧ h 2 311 x2 = 62 then 1 else 0)), (0, x2), (0, (if ¬ (h 2 323 x2 = (-1)) ∧ (h 2 311 x2 = 60 ∨ h 2 311 x2 = 62) then 1 else 0))] [(0, (if x1 - (if (¬ (h 2 323 x2 = (-1)) ∧ (h 2 311 x2 = 60 ∨ h 2 311 x2 = 62)) ∧ h 2 311 x2 = 62 then 1 else 0) = 0 then (-1) else h 2 325 (x1 - (if (¬ (h 2 323 x2 = (-1)) ∧ (h 2 311 x2 = 60 ∨ h 2 311 x2 = 62)) ∧ h 2 311 x2 = 62 then 1 else 0) - 1))), (0, x2), (1, 322)] h := by
      refine (rg_if_ne (t := 177) (pc := 170) (dd bX13_encloses dX13_encloses_170) rfl).trans ?_
      by_cases c7 : x1 - (if (¬ (h 2 323 x2 = (-1)) ∧ (h 2 311 x2 = 60 ∨ h 2 311 x2 = 62)) ∧ h 2 311 x2 = 62 then 1 else 0) = 0
      · refine (if_pos c7).trans ?_
        refine (rn_iconst (pc := 173) (dd bX13_encloses dX13_encloses_173) (by decide)).trans ?_
        refine (rn_goto (t := 185) (pc := 174) (dd bX13_encloses dX13_encloses_174) rfl).trans ?_
        refine Eq.trans (b := vrun mX13_encloses 185 [(1, 282), (0, x1 - (if (¬ (h 2 323 x2 = (-1)) ∧ (h 2 311 x2 = 60 ∨ h 2 311 x2 = 62)) ∧ h 2 311 x2 = 62 then 1 else 0)), (0, x2), (0, (if ¬ (h 2 323 x2 = (-1)) ∧ (h 2 311 x2 = 60 ∨ h 2 311 x2 = 62) then 1 else 0))] [(0, (-1)), (0, x2), (1, 322)] h) rfl ?_
        simp only [if_pos c7]
      · refine (if_neg c7).trans ?_
        refine (rn_aload_n (pc := 177) (dd bX13_encloses dX13_encloses_177) rfl).trans ?_
        refine (rg_gf (pc := 178) (dd bX13_encloses dX13_encloses_178) (ci := 14) (j := 47) rfl rfl (key := 1547) rfl (kc := 34) rfl s1.1 s1.2.2.2.2.2.2.2.2.2.2.2.2.2.2.2.2.2.2.2.2.2.2.2.2.2.2.2.2.2.2.2.2.2.2.2.2.2.2.2.2.2.2.2.2.2.2.2.2.2.2.2.2.2.2.2.2.2.2.2.2.2.2.2.2.2.2.2.2.2.2.2.2.2.2.2.2.2.2.2.2.2.2.2.2.2.2.2.2.2.2.2.2.2.2.2.2.2.2.2.2.2.2.2.2.2.2.2.2.2.2.2.2.2.2.2.2.2.2.2.2.2.2.2.2.2.2.2.1).trans ?_
        refine (rn_iload_n (pc := 181) (dd bX13_encloses dX13_encloses_181) rfl).trans ?_
        refine (rn_iconst (pc := 182) (dd bX13_encloses dX13_encloses_182) (by decide)).trans ?_
        refine (rg_isub (pc := 183) (dd bX13_encloses dX13_encloses_183) (p6 c1 c7) (by have z0 := p4 c1; have z1 := p5 c1; have z2 := p6 c1 c7; omega)).trans ?_
        refine (rg_iaload (pc := 184) (dd bX13_encloses dX13_encloses_184) s1.2.2.2.2.2.2.2.2.2.2.2.2.2.2.2.2.2.2.2.2.2.2.2.2.2.2.2.2.2.2.2.2.2.2.2.2.2.2.2.2.2.2.2.2.2.2.2.2.2.2.2.2.2.2.2.2.2.2.2.2.2.2.2.2.2.2.2.2.2.2.2.2.2.2.2.2.2.2.2.2.2.2.2.2.2.2.2.2.2.2.2.2.2.2.2.2.2.2.2.2.2.2.2.2.2.2.2.2.2.2.2.2.2.2.2.2.2.2.2.2.2.2.2.2.2.2.2.2.1 s1.2.2.2.2.2.2.2.2.2.2.2.2.2.2.2.2.2.2.2.2.2.2.2.2.2.2.2.2.2.2.2.2.2.2.2.2.2.2.2.2.2.2.2.2.2.2.2.2.2.2.2.2.2.2.2.2.2.2.2.2.2.2.2.2.2.2.2.2.2.2.2.2.2.2.2.2.2.2.2.2.2.2.2.2.2.2.2.2.2.2.2.2.2.2.2.2.2.2.2.2.2.2.2.2.2.2.2.2.2.2.2.2.2.2.2.2.2.2.2.2.2.2.2.2.2.2.2.2.2.1 (p7 c1 c7) (p8 c1 c7) rfl).trans ?_
        refine Eq.trans (b := vrun mX13_encloses 185 [(1, 282), (0, x1 - (if (¬ (h 2 323 x2 = (-1)) ∧ (h 2 311 x2 = 60 ∨ h 2 311 x2 = 62)) ∧ h 2 311 x2 = 62 then 1 else 0)), (0, x2), (0, (if ¬ (h 2 323 x2 = (-1)) ∧ (h 2 311 x2 = 60 ∨ h 2 311 x2 = 62) then 1 else 0))] [(0, h 2 325 (x1 - (if (¬ (h 2 323 x2 = (-1)) ∧ (h 2 311 x2 = 60 ∨ h 2 311 x2 = 62)) ∧ h 2 311 x2 = 62 then 1 else 0) - 1)), (0, x2), (1, 322)] h) rfl ?_
        simp only [if_neg c7]
    refine e6.trans ?_
    refine (rg_iastore (pc := 185) (dd bX13_encloses dX13_encloses_185) s1.2.2.2.2.2.2.2.2.2.2.2.2.2.2.2.2.2.2.2.2.2.2.2.2.2.2.2.2.2.2.2.2.2.2.2.2.2.2.2.2.2.2.2.2.2.2.2.2.2.2.2.2.2.2.2.2.2.2.2.2.2.2.2.2.2.2.2.2.2.2.2.2.2.2.2.2.2.2.2.2.2.2.2.2.2.2.2.2.2.2.2.2.2.2.2.2.2.2.2.2.2.2.2.2.2.2.2.2.2.2.2.2.2.2.2.2.2.2.2.1 s1.2.2.2.2.2.2.2.2.2.2.2.2.2.2.2.2.2.2.2.2.2.2.2.2.2.2.2.2.2.2.2.2.2.2.2.2.2.2.2.2.2.2.2.2.2.2.2.2.2.2.2.2.2.2.2.2.2.2.2.2.2.2.2.2.2.2.2.2.2.2.2.2.2.2.2.2.2.2.2.2.2.2.2.2.2.2.2.2.2.2.2.2.2.2.2.2.2.2.2.2.2.2.2.2.2.2.2.2.2.2.2.2.2.2.2.2.2.2.2.2.1 (by have z0 := p2 c1; have z1 := p3 c1; omega) (by have z0 := p2 c1; have z1 := p3 c1; omega)).trans ?_
    refine (rn_iload_n (pc := 186) (dd bX13_encloses dX13_encloses_186) rfl).trans ?_
    have e8 : vrun mX13_encloses 187 [(1, 282), (0, x1 - (if (¬ (h 2 323 x2 = (-1)) ∧ (h 2 311 x2 = 60 ∨ h 2 311 x2 = 62)) ∧ h 2 311 x2 = 62 then 1 else 0)), (0, x2), (0, (if ¬ (h 2 323 x2 = (-1)) ∧ (h 2 311 x2 = 60 ∨ h 2 311 x2 = 62) then 1 else 0))] [(0, (if ¬ (h 2 323 x2 = (-1)) ∧ (h 2 311 x2 = 60 ∨ h 2 311 x2 = 62) then 1 else 0))] (vup h 2 322 x2 (if x1 - (if (¬ (h 2 323 x2 = (-1)) ∧ (h 2 311 x2 = 60 ∨ h 2 311 x2 = 62)) ∧ h 2 311 x2 = 62 then 1 else 0) = 0 then (-1) else h 2 325 (x1 - (if (¬ (h 2 323 x2 = (-1)) ∧ (h 2 311 x2 = 60 ∨ h 2 311 x2 = 62)) ∧ h 2 311 x2 = 62 then 1 else 0) - 1))) = vrun mX13_encloses 211 [(1, 282), (0, (if ¬ (h 2 323 x2 = (-1)) ∧ (h 2 311 x2 = 60 ∨ h 2 311 x2 = 62) then (if h 2 311 x2 = 60 then x1 - (if (¬ (h 2 323 x2 = (-1)) ∧ (h 2 311 x2 = 60 ∨ h 2 311 x2 = 62)) ∧ h 2 311 x2 = 62 then 1 else 0) + 1 else x1 - (if (¬ (h 2 323 x2 = (-1)) ∧ (h 2 311 x2 = 60 ∨ h 2 311 x2 = 62)) ∧ h 2 311 x2 = 62 then 1 else 0)) else x1 - (if (¬ (h 2 323 x2 = (-1)) ∧ (h 2 311 x2 = 60 ∨ h 2 311 x2 = 62)) ∧ h 2 311 x2 = 62 then 1 else 0))), (0, x2), (0, (if ¬ (h 2 323 x2 = (-1)) ∧ (h 2 311 x2 = 60 ∨ h 2 311 x2 = 62) then 1 else 0))] [] (if ¬ (h 2 323 x2 = (-1)) ∧ (h 2 311 x2 = 60 ∨ h 2 311 x2 = 62) then (if h 2 311 x2 = 60 then vup (vup h 2 322 x2 (if x1 - (if (¬ (h 2 323 x2 = (-1)) ∧ (h 2 311 x2 = 60 ∨ h 2 311 x2 = 62)) ∧ h 2 311 x2 = 62 then 1 else 0) = 0 then (-1) else h 2 325 (x1 - (if (¬ (h 2 323 x2 = (-1)) ∧ (h 2 311 x2 = 60 ∨ h 2 311 x2 = 62)) ∧ h 2 311 x2 = 62 then 1 else 0) - 1))) 2 325 (x1 - (if (¬ (h 2 323 x2 = (-1)) ∧ (h 2 311 x2 = 60 ∨ h 2 311 x2 = 62)) ∧ h 2 311 x2 = 62 then 1 else 0)) x2 else vup h 2 322 x2 (if x1 - (if (¬ (h 2 323 x2 = (-1)) ∧ (h 2 311 x2 = 60 ∨ h 2 311 x2 = 62)) ∧ h 2 311 x2 = 62 then 1 else 0) = 0 then (-1) else h 2 325 (x1 - (if (¬ (h 2 323 x2 = (-1)) ∧ (h 2 311 x2 = 60 ∨ h 2 311 x2 = 62)) ∧ h 2 311 x2 = 62 then 1 else 0) - 1))) else vup h 2 322 x2 (if x1 - (if (¬ (h 2 323 x2 = (-1)) ∧ (h 2 311 x2 = 60 ∨ h 2 311 x2 = 62)) ∧ h 2 311 x2 = 62 then 1 else 0) = 0 then (-1) else h 2 325 (x1 - (if (¬ (h 2 323 x2 = (-1)) ∧ (h 2 311 x2 = 60 ∨ h 2 311 x2 = 62)) ∧ h 2 311 x2 = 62 then 1 else 0) - 1))) := by
      refine (rg_beq (t := 211) (pc := 187) (dd bX13_encloses dX13_encloses_187) rfl).trans ?_
      by_cases c8 : ¬ (h 2 323 x2 = (-1)) ∧ (h 2 311 x2 = 60 ∨ h 2 311 x2 = 62)
      · refine (if_pos c8).trans ?_
        refine (rn_aload_n (pc := 190) (dd bX13_encloses dX13_encloses_190) rfl).trans ?_
        refine (rg_gf (pc := 191) (dd bX13_encloses dX13_encloses_191) (ci := 14) (j := 30) rfl rfl (key := 1530) rfl (kc := 34) rfl ((vup_k (by decide)).trans s1.1) ((vup_k (by decide)).trans s1.2.2.2.2.2.2.2.2.2.2.2.2.2.2.2.2.2.2.2.2.2.2.2.2.2.2.2.2.2.2.2.2.2.2.2.2.2.2.2.2.2.2.2.2.2.2.2.2.2.2.2.2.2.2.2.2.2.2.2.2.2.2.2.2.2.2.2.2.2.2.2.2.2.2.2.2.2.2.2.2.2.2.2.2.2.1)).trans ?_
        refine (rn_iload_n (pc := 194) (dd bX13_encloses dX13_encloses_194) rfl).trans ?_
        refine (rg_iaload (pc := 195) (dd bX13_encloses dX13_encloses_195) ((vup_k (by decide)).trans s1.2.2.2.2.2.2.2.2.2.2.2.2.2.2.2.2.2.2.2.2.2.2.2.2.2.2.2.2.2.2.2.2.2.2.2.2.2.2.2.2.2.2.2.2.2.2.2.2.2.2.2.2.2.2.2.2.2.2.2.2.2.2.2.2.2.2.2.2.2.2.2.2.2.2.2.2.2.2.2.2.2.2.2.2.2.2.1) ((vup_k (by decide)).trans s1.2.2.2.2.2.2.2.2.2.2.2.2.2.2.2.2.2.2.2.2.2.2.2.2.2.2.2.2.2.2.2.2.2.2.2.2.2.2.2.2.2.2.2.2.2.2.2.2.2.2.2.2.2.2.2.2.2.2.2.2.2.2.2.2.2.2.2.2.2.2.2.2.2.2.2.2.2.2.2.2.2.2.2.2.2.2.2.1) (by have z0 := p2 c1; have z1 := p3 c1; omega) (by have z0 := p2 c1; have z1 := p3 c1; omega) ((vup_r (by omega)).trans rfl)).trans ?_
        refine (rn_bipush (pc := 196) (dd bX13_encloses dX13_encloses_196) (by decide)).trans ?_
        have e7 : vrun mX13_encloses 198 [(1, 282), (0, x1 - (if (¬ (h 2 323 x2 = (-1)) ∧ (h 2 311 x2 = 60 ∨ h 2 311 x2 = 62)) ∧ h 2 311 x2 = 62 then 1 else 0)), (0, x2), (0, (if ¬ (h 2 323 x2 = (-1)) ∧ (h 2 311 x2 = 60 ∨ h 2 311 x2 = 62) then 1 else 0))] [(0, 60), (0, h 2 311 x2)] (vup h 2 322 x2 (if x1 - (if (¬ (h 2 323 x2 = (-1)) ∧ (h 2 311 x2 = 60 ∨ h 2 311 x2 = 62)) ∧ h 2 311 x2 = 62 then 1 else 0) = 0 then (-1) else h 2 325 (x1 - (if (¬ (h 2 323 x2 = (-1)) ∧ (h 2 311 x2 = 60 ∨ h 2 311 x2 = 62)) ∧ h 2 311 x2 = 62 then 1 else 0) - 1))) = vrun mX13_encloses 211 [(1, 282), (0, (if h 2 311 x2 = 60 then x1 - (if (¬ (h 2 323 x2 = (-1)) ∧ (h 2 311 x2 = 60 ∨ h 2 311 x2 = 62)) ∧ h 2 311 x2 = 62 then 1 else 0) + 1 else x1 - (if (¬ (h 2 323 x2 = (-1)) ∧ (h 2 311 x2 = 60 ∨ h 2 311 x2 = 62)) ∧ h 2 311 x2 = 62 then 1 else 0))), (0, x2), (0, (if ¬ (h 2 323 x2 = (-1)) ∧ (h 2 311 x2 = 60 ∨ h 2 311 x2 = 62) then 1 else 0))] [] (if h 2 311 x2 = 60 then vup (vup h 2 322 x2 (if x1 - (if (¬ (h 2 323 x2 = (-1)) ∧ (h 2 311 x2 = 60 ∨ h 2 311 x2 = 62)) ∧ h 2 311 x2 = 62 then 1 else 0) = 0 then (-1) else h 2 325 (x1 - (if (¬ (h 2 323 x2 = (-1)) ∧ (h 2 311 x2 = 60 ∨ h 2 311 x2 = 62)) ∧ h 2 311 x2 = 62 then 1 else 0) - 1))) 2 325 (x1 - (if (¬ (h 2 323 x2 = (-1)) ∧ (h 2 311 x2 = 60 ∨ h 2 311 x2 = 62)) ∧ h 2 311 x2 = 62 then 1 else 0)) x2 else vup h 2 322 x2 (if x1 - (if (¬ (h 2 323 x2 = (-1)) ∧ (h 2 311 x2 = 60 ∨ h 2 311 x2 = 62)) ∧ h 2 311 x2 = 62 then 1 else 0) = 0 then (-1) else h 2 325 (x1 - (if (¬ (h 2 323 x2 = (-1)) ∧ (h 2 311 x2 = 60 ∨ h 2 311 x2 = 62)) ∧ h 2 311 x2 = 62 then 1 else 0) - 1))) := by
          refine (rg_icmp_ne (t := 211) (pc := 198) (dd bX13_encloses dX13_encloses_198) rfl).trans ?_
          by_cases c9 : h 2 311 x2 = 60
          · refine (if_pos c9).trans ?_
            refine (rn_aload_n (pc := 201) (dd bX13_encloses dX13_encloses_201) rfl).trans ?_
            refine (rg_gf (pc := 202) (dd bX13_encloses dX13_encloses_202) (ci := 14) (j := 47) rfl rfl (key := 1547) rfl (kc := 34) rfl ((vup_k (by decide)).trans s1.1) ((vup_k (by decide)).trans s1.2.2.2.2.2.2.2.2.2.2.2.2.2.2.2.2.2.2.2.2.2.2.2.2.2.2.2.2.2.2.2.2.2.2.2.2.2.2.2.2.2.2.2.2.2.2.2.2.2.2.2.2.2.2.2.2.2.2.2.2.2.2.2.2.2.2.2.2.2.2.2.2.2.2.2.2.2.2.2.2.2.2.2.2.2.2.2.2.2.2.2.2.2.2.2.2.2.2.2.2.2.2.2.2.2.2.2.2.2.2.2.2.2.2.2.2.2.2.2.2.2.2.2.2.2.2.2.1)).trans ?_
            refine (rn_iload_n (pc := 205) (dd bX13_encloses dX13_encloses_205) rfl).trans ?_
            refine (rn_iload_n (pc := 206) (dd bX13_encloses dX13_encloses_206) rfl).trans ?_
            refine (rg_iastore (pc := 207) (dd bX13_encloses dX13_encloses_207) ((vup_k (by decide)).trans s1.2.2.2.2.2.2.2.2.2.2.2.2.2.2.2.2.2.2.2.2.2.2.2.2.2.2.2.2.2.2.2.2.2.2.2.2.2.2.2.2.2.2.2.2.2.2.2.2.2.2.2.2.2.2.2.2.2.2.2.2.2.2.2.2.2.2.2.2.2.2.2.2.2.2.2.2.2.2.2.2.2.2.2.2.2.2.2.2.2.2.2.2.2.2.2.2.2.2.2.2.2.2.2.2.2.2.2.2.2.2.2.2.2.2.2.2.2.2.2.2.2.2.2.2.2.2.2.2.1) ((vup_k (by decide)).trans s1.2.2.2.2.2.2.2.2.2.2.2.2.2.2.2.2.2.2.2.2.2.2.2.2.2.2.2.2.2.2.2.2.2.2.2.2.2.2.2.2.2.2.2.2.2.2.2.2.2.2.2.2.2.2.2.2.2.2.2.2.2.2.2.2.2.2.2.2.2.2.2.2.2.2.2.2.2.2.2.2.2.2.2.2.2.2.2.2.2.2.2.2.2.2.2.2.2.2.2.2.2.2.2.2.2.2.2.2.2.2.2.2.2.2.2.2.2.2.2.2.2.2.2.2.2.2.2.2.2.1) (p9 c1 c8 c9) (p10 c1 c8 c9)).trans ?_
            refine (rg_iinc (pc := 208) (dd bX13_encloses dX13_encloses_208) rfl (Nat.le_of_ble_eq_true rfl) (by have z0 := p4 c1; have z1 := p5 c1; have z2 := p9 c1 c8 c9; have z3 := p10 c1 c8 c9; omega) (by have z0 := p4 c1; have z1 := p5 c1; have z2 := p9 c1 c8 c9; have z3 := p10 c1 c8 c9; omega) rfl).trans ?_
            refine Eq.trans (b := vrun mX13_encloses 211 [(1, 282), (0, x1 - (if (¬ (h 2 323 x2 = (-1)) ∧ (h 2 311 x2 = 60 ∨ h 2 311 x2 = 62)) ∧ h 2 311 x2 = 62 then 1 else 0) + 1), (0, x2), (0, (if ¬ (h 2 323 x2 = (-1)) ∧ (h 2 311 x2 = 60 ∨ h 2 311 x2 = 62) then 1 else 0))] [] (vup (vup h 2 322 x2 (if x1 - (if (¬ (h 2 323 x2 = (-1)) ∧ (h 2 311 x2 = 60 ∨ h 2 311 x2 = 62)) ∧ h 2 311 x2 = 62 then 1 else 0) = 0 then (-1) else h 2 325 (x1 - (if (¬ (h 2 323 x2 = (-1)) ∧ (h 2 311 x2 = 60 ∨ h 2 311 x2 = 62)) ∧ h 2 311 x2 = 62 then 1 else 0) - 1))) 2 325 (x1 - (if (¬ (h 2 323 x2 = (-1)) ∧ (h 2 311 x2 = 60 ∨ h 2 311 x2 = 62)) ∧ h 2 311 x2 = 62 then 1 else 0)) x2)) rfl ?_
            simp only [if_pos c9]
          · refine (if_neg c9).trans ?_
            refine Eq.trans (b := vrun mX13_encloses 211 [(1, 282), (0, x1 - (if (¬ (h 2 323 x2 = (-1)) ∧ (h 2 311 x2 = 60 ∨ h 2 311 x2 = 62)) ∧ h 2 311 x2 = 62 then 1 else 0)), (0, x2), (0, (if ¬ (h 2 323 x2 = (-1)) ∧ (h 2 311 x2 = 60 ∨ h 2 311 x2 = 62) then 1 else 0))] [] (vup h 2 322 x2 (if x1 - (if (¬ (h 2 323 x2 = (-1)) ∧ (h 2 311 x2 = 60 ∨ h 2 311 x2 = 62)) ∧ h 2 311 x2 = 62 then 1 else 0) = 0 then (-1) else h 2 325 (x1 - (if (¬ (h 2 323 x2 = (-1)) ∧ (h 2 311 x2 = 60 ∨ h 2 311 x2 = 62)) ∧ h 2 311 x2 = 62 then 1 else 0) - 1)))) rfl ?_
            simp only [if_neg c9]
        refine e7.trans ?_
        refine Eq.trans (b := vrun mX13_encloses 211 [(1, 282), (0, (if h 2 311 x2 = 60 then x1 - (if (¬ (h 2 323 x2 = (-1)) ∧ (h 2 311 x2 = 60 ∨ h 2 311 x2 = 62)) ∧ h 2 311 x2 = 62 then 1 else 0) + 1 else x1 - (if (¬ (h 2 323 x2 = (-1)) ∧ (h 2 311 x2 = 60 ∨ h 2 311 x2 = 62)) ∧ h 2 311 x2 = 62 then 1 else 0))), (0, x2), (0, (if ¬ (h 2 323 x2 = (-1)) ∧ (h 2 311 x2 = 60 ∨ h 2 311 x2 = 62) then 1 else 0))] [] (if h 2 311 x2 = 60 then vup (vup h 2 322 x2 (if x1 - (if (¬ (h 2 323 x2 = (-1)) ∧ (h 2 311 x2 = 60 ∨ h 2 311 x2 = 62)) ∧ h 2 311 x2 = 62 then 1 else 0) = 0 then (-1) else h 2 325 (x1 - (if (¬ (h 2 323 x2 = (-1)) ∧ (h 2 311 x2 = 60 ∨ h 2 311 x2 = 62)) ∧ h 2 311 x2 = 62 then 1 else 0) - 1))) 2 325 (x1 - (if (¬ (h 2 323 x2 = (-1)) ∧ (h 2 311 x2 = 60 ∨ h 2 311 x2 = 62)) ∧ h 2 311 x2 = 62 then 1 else 0)) x2 else vup h 2 322 x2 (if x1 - (if (¬ (h 2 323 x2 = (-1)) ∧ (h 2 311 x2 = 60 ∨ h 2 311 x2 = 62)) ∧ h 2 311 x2 = 62 then 1 else 0) = 0 then (-1) else h 2 325 (x1 - (if (¬ (h 2 323 x2 = (-1)) ∧ (h 2 311 x2 = 60 ∨ h 2 311 x2 = 62)) ∧ h 2 311 x2 = 62 then 1 else 0) - 1)))) rfl ?_
        simp only [if_pos c8]
      · refine (if_neg c8).trans ?_
        refine Eq.trans (b := vrun mX13_encloses 211 [(1, 282), (0, x1 - (if (¬ (h 2 323 x2 = (-1)) ∧ (h 2 311 x2 = 60 ∨ h 2 311 x2 = 62)) ∧ h 2 311 x2 = 62 then 1 else 0)), (0, x2), (0, (if ¬ (h 2 323 x2 = (-1)) ∧ (h 2 311 x2 = 60 ∨ h 2 311 x2 = 62) then 1 else 0))] [] (vup h 2 322 x2 (if x1 - (if (¬ (h 2 323 x2 = (-1)) ∧ (h 2 311 x2 = 60 ∨ h 2 311 x2 = 62)) ∧ h 2 311 x2 = 62 then 1 else 0) = 0 then (-1) else h 2 325 (x1 - (if (¬ (h 2 323 x2 = (-1)) ∧ (h 2 311 x2 = 60 ∨ h 2 311 x2 = 62)) ∧ h 2 311 x2 = 62 then 1 else 0) - 1)))) rfl ?_
        simp only [if_neg c8]
    refine e8.trans ?_
    refine (rg_iinc (pc := 211) (dd bX13_encloses dX13_encloses_211) rfl (Nat.le_of_ble_eq_true rfl) (by have z0 := p2 c1; have z1 := p3 c1; omega) (by have z0 := p2 c1; have z1 := p3 c1; omega) rfl).trans ?_
    refine (rn_goto (t := 95) (pc := 214) (dd bX13_encloses dX13_encloses_214) rfl).trans ?_
    rfl
theorem bX13_isLeft : vmB mX13_isLeft = cX13_isLeft := rfl
theorem rX13_isLeft_0 {x0 : Int} {h : vH} : vrun mX13_isLeft 0 [(0, x0)] [] h = some (.inl (some (0, (if ¬ (x0 < 97) ∧ ¬ (109 < x0) ∨ ¬ (x0 < 65) ∧ ¬ (77 < x0) then 1 else 0))), h) := by
  refine (rn_iload_n (pc := 0) (dd bX13_isLeft dX13_isLeft_0) rfl).trans ?_
  refine (rn_bipush (pc := 1) (dd bX13_isLeft dX13_isLeft_1) (by decide)).trans ?_
  refine (rn_bipush (pc := 3) (dd bX13_isLeft dX13_isLeft_3) (by decide)).trans ?_
  refine (rg_static (pc := 5) (dd bX13_isLeft dX13_isLeft_5) rfl (by decide) (Nat.le_of_ble_eq_true rfl) (as := [(0, x0), (0, 97), (0, 109)]) rfl rfl ⟨Nat.le_of_ble_eq_true rfl, Nat.le_of_ble_eq_true rfl, Nat.le_of_ble_eq_true rfl, Nat.le_of_ble_eq_true rfl⟩).trans ?_
  refine (vret_v spX13_isIn).trans ?_
  have e2 : vrun mX13_isLeft 8 [(0, x0)] [(0, (if ¬ (x0 < 97) ∧ ¬ (109 < x0) then 1 else 0))] h = vrun mX13_isLeft 27 [(0, x0)] [(0, (if ¬ (x0 < 97) ∧ ¬ (109 < x0) ∨ ¬ (x0 < 65) ∧ ¬ (77 < x0) then 1 else 0))] h := by
    refine (rg_bne (t := 22) (pc := 8) (dd bX13_isLeft dX13_isLeft_8) rfl).trans ?_
    by_cases c1 : ¬ (x0 < 97) ∧ ¬ (109 < x0)
    · refine (if_pos c1).trans ?_
      refine (rn_iconst (pc := 22) (dd bX13_isLeft dX13_isLeft_22) (by decide)).trans ?_
      refine (rn_goto (t := 27) (pc := 23) (dd bX13_isLeft dX13_isLeft_23) rfl).trans ?_
      refine Eq.trans (b := vrun mX13_isLeft 27 [(0, x0)] [(0, 1)] h) rfl ?_
      simp only [c1, true_or, false_or, or_true, or_false, true_and, false_and, and_true, and_false, not_true_eq_false, not_false_eq_true, ne_eq, if_true, if_false, ↓reduceIte]
    · refine (if_neg c1).trans ?_
      refine (rn_iload_n (pc := 11) (dd bX13_isLeft dX13_isLeft_11) rfl).trans ?_
      refine (rn_bipush (pc := 12) (dd bX13_isLeft dX13_isLeft_12) (by decide)).trans ?_
      refine (rn_bipush (pc := 14) (dd bX13_isLeft dX13_isLeft_14) (by decide)).trans ?_
      refine (rg_static (pc := 16) (dd bX13_isLeft dX13_isLeft_16) rfl (by decide) (Nat.le_of_ble_eq_true rfl) (as := [(0, x0), (0, 65), (0, 77)]) rfl rfl ⟨Nat.le_of_ble_eq_true rfl, Nat.le_of_ble_eq_true rfl, Nat.le_of_ble_eq_true rfl, Nat.le_of_ble_eq_true rfl⟩).trans ?_
      refine (vret_v spX13_isIn).trans ?_
      have e1 : vrun mX13_isLeft 19 [(0, x0)] [(0, (if ¬ (x0 < 65) ∧ ¬ (77 < x0) then 1 else 0))] h = vrun mX13_isLeft 27 [(0, x0)] [(0, (if ¬ (x0 < 65) ∧ ¬ (77 < x0) then 1 else 0))] h := by
        refine (rg_beq (t := 26) (pc := 19) (dd bX13_isLeft dX13_isLeft_19) rfl).trans ?_
        by_cases c2 : ¬ (x0 < 65) ∧ ¬ (77 < x0)
        · refine (if_pos c2).trans ?_
          refine (rn_iconst (pc := 22) (dd bX13_isLeft dX13_isLeft_22) (by decide)).trans ?_
          refine (rn_goto (t := 27) (pc := 23) (dd bX13_isLeft dX13_isLeft_23) rfl).trans ?_
          refine Eq.trans (b := vrun mX13_isLeft 27 [(0, x0)] [(0, 1)] h) rfl ?_
          simp only [c2, true_or, false_or, or_true, or_false, true_and, false_and, and_true, and_false, not_true_eq_false, not_false_eq_true, ne_eq, if_true, if_false, ↓reduceIte]
        · refine (if_neg c2).trans ?_
          refine (rn_iconst (pc := 26) (dd bX13_isLeft dX13_isLeft_26) (by decide)).trans ?_
          refine Eq.trans (b := vrun mX13_isLeft 27 [(0, x0)] [(0, 0)] h) rfl ?_
          simp only [c2, true_or, false_or, or_true, or_false, true_and, false_and, and_true, and_false, not_true_eq_false, not_false_eq_true, ne_eq, if_true, if_false, ↓reduceIte]
      refine e1.trans ?_
      refine Eq.trans (b := vrun mX13_isLeft 27 [(0, x0)] [(0, (if ¬ (x0 < 65) ∧ ¬ (77 < x0) then 1 else 0))] h) rfl ?_
      simp only [c1, true_or, false_or, or_true, or_false, true_and, false_and, and_true, and_false, not_true_eq_false, not_false_eq_true, ne_eq, if_true, if_false, ↓reduceIte]
  refine e2.trans ?_
  exact rn_ireturn (pc := 27) (dd bX13_isLeft dX13_isLeft_27) (Or.inr ⟨rfl, b01⟩)
def fX13_isLeft (h : vH) (x0 : Int) : Int := (if ¬ (x0 < 97) ∧ ¬ (109 < x0) ∨ ¬ (x0 < 65) ∧ ¬ (77 < x0) then 1 else 0)
theorem spX13_isLeft {x0 : Int} {h : vH} : vcl mX13_isLeft [(0, x0)] h = some (.inl (some (0, fX13_isLeft h x0)), h) := by
  refine (show _ = _ from rX13_isLeft_0).trans ?_
  rfl
theorem bX13_isRight : vmB mX13_isRight = cX13_isRight := rfl
theorem rX13_isRight_0 {x0 : Int} {h : vH} : vrun mX13_isRight 0 [(0, x0)] [] h = some (.inl (some (0, (if ¬ (x0 < 110) ∧ ¬ (122 < x0) ∨ ¬ (x0 < 78) ∧ ¬ (90 < x0) then 1 else 0))), h) := by
  refine (rn_iload_n (pc := 0) (dd bX13_isRight dX13_isRight_0) rfl).trans ?_
  refine (rn_bipush (pc := 1) (dd bX13_isRight dX13_isRight_1) (by decide)).trans ?_
  refine (rn_bipush (pc := 3) (dd bX13_isRight dX13_isRight_3) (by decide)).trans ?_
  refine (rg_static (pc := 5) (dd bX13_isRight dX13_isRight_5) rfl (by decide) (Nat.le_of_ble_eq_true rfl) (as := [(0, x0), (0, 110), (0, 122)]) rfl rfl ⟨Nat.le_of_ble_eq_true rfl, Nat.le_of_ble_eq_true rfl, Nat.le_of_ble_eq_true rfl, Nat.le_of_ble_eq_true rfl⟩).trans ?_
  refine (vret_v spX13_isIn).trans ?_
  have e2 : vrun mX13_isRight 8 [(0, x0)] [(0, (if ¬ (x0 < 110) ∧ ¬ (122 < x0) then 1 else 0))] h = vrun mX13_isRight 27 [(0, x0)] [(0, (if ¬ (x0 < 110) ∧ ¬ (122 < x0) ∨ ¬ (x0 < 78) ∧ ¬ (90 < x0) then 1 else 0))] h := by
    refine (rg_bne (t := 22) (pc := 8) (dd bX13_isRight dX13_isRight_8) rfl).trans ?_
    by_cases c1 : ¬ (x0 < 110) ∧ ¬ (122 < x0)
    · refine (if_pos c1).trans ?_
      refine (rn_iconst (pc := 22) (dd bX13_isRight dX13_isRight_22) (by decide)).trans ?_
      refine (rn_goto (t := 27) (pc := 23) (dd bX13_isRight dX13_isRight_23) rfl).trans ?_
      refine Eq.trans (b := vrun mX13_isRight 27 [(0, x0)] [(0, 1)] h) rfl ?_
      simp only [c1, true_or, false_or, or_true, or_false, true_and, false_and, and_true, and_false, not_true_eq_false, not_false_eq_true, ne_eq, if_true, if_false, ↓reduceIte]
    · refine (if_neg c1).trans ?_
      refine (rn_iload_n (pc := 11) (dd bX13_isRight dX13_isRight_11) rfl).trans ?_
      refine (rn_bipush (pc := 12) (dd bX13_isRight dX13_isRight_12) (by decide)).trans ?_
      refine (rn_bipush (pc := 14) (dd bX13_isRight dX13_isRight_14) (by decide)).trans ?_
      refine (rg_static (pc := 16) (dd bX13_isRight dX13_isRight_16) rfl (by decide) (Nat.le_of_ble_eq_true rfl) (as := [(0, x0), (0, 78), (0, 90)]) rfl rfl ⟨Nat.le_of_ble_eq_true rfl, Nat.le_of_ble_eq_true rfl, Nat.le_of_ble_eq_true rfl, Nat.le_of_ble_eq_true rfl⟩).trans ?_
      refine (vret_v spX13_isIn).trans ?_
      have e1 : vrun mX13_isRight 19 [(0, x0)] [(0, (if ¬ (x0 < 78) ∧ ¬ (90 < x0) then 1 else 0))] h = vrun mX13_isRight 27 [(0, x0)] [(0, (if ¬ (x0 < 78) ∧ ¬ (90 < x0) then 1 else 0))] h := by
        refine (rg_beq (t := 26) (pc := 19) (dd bX13_isRight dX13_isRight_19) rfl).trans ?_
        by_cases c2 : ¬ (x0 < 78) ∧ ¬ (90 < x0)
        · refine (if_pos c2).trans ?_
          refine (rn_iconst (pc := 22) (dd bX13_isRight dX13_isRight_22) (by decide)).trans ?_
          refine (rn_goto (t := 27) (pc := 23) (dd bX13_isRight dX13_isRight_23) rfl).trans ?_
          refine Eq.trans (b := vrun mX13_isRight 27 [(0, x0)] [(0, 1)] h) rfl ?_
          simp only [c2, true_or, false_or, or_true, or_false, true_and, false_and, and_true, and_false, not_true_eq_false, not_false_eq_true, ne_eq, if_true, if_false, ↓reduceIte]
        · refine (if_neg c2).trans ?_
          refine (rn_iconst (pc := 26) (dd bX13_isRight dX13_isRight_26) (by decide)).trans ?_
          refine Eq.trans (b := vrun mX13_isRight 27 [(0, x0)] [(0, 0)] h) rfl ?_
          simp only [c2, true_or, false_or, or_true, or_false, true_and, false_and, and_true, and_false, not_true_eq_false, not_false_eq_true, ne_eq, if_true, if_false, ↓reduceIte]
      refine e1.trans ?_
      refine Eq.trans (b := vrun mX13_isRight 27 [(0, x0)] [(0, (if ¬ (x0 < 78) ∧ ¬ (90 < x0) then 1 else 0))] h) rfl ?_
      simp only [c1, true_or, false_or, or_true, or_false, true_and, false_and, and_true, and_false, not_true_eq_false, not_false_eq_true, ne_eq, if_true, if_false, ↓reduceIte]
  refine e2.trans ?_
  exact rn_ireturn (pc := 27) (dd bX13_isRight dX13_isRight_27) (Or.inr ⟨rfl, b01⟩)
def fX13_isRight (h : vH) (x0 : Int) : Int := (if ¬ (x0 < 110) ∧ ¬ (122 < x0) ∨ ¬ (x0 < 78) ∧ ¬ (90 < x0) then 1 else 0)
theorem spX13_isRight {x0 : Int} {h : vH} : vcl mX13_isRight [(0, x0)] h = some (.inl (some (0, fX13_isRight h x0)), h) := by
  refine (show _ = _ from rX13_isRight_0).trans ?_
  rfl
theorem bX13_firstWay : vmB mX13_firstWay = cX13_firstWay := rfl
theorem rX13_firstWay_0 {x1 : Int} {h : vH} : vrun mX13_firstWay 0 [(1, 282), (0, x1), (9, 0)] [] h = vrun mX13_firstWay 2 [(1, 282), (0, x1), (0, 0)] [] h := by
  refine (rn_iconst (pc := 0) (dd bX13_firstWay dX13_firstWay_0) (by decide)).trans ?_
  refine (rn_istore_n (pc := 1) (dd bX13_firstWay dX13_firstWay_1) (Nat.le_of_ble_eq_true rfl) rfl).trans ?_
  rfl
theorem rX13_firstWay_2 {x1 : Int} {x2 : Int} {h : vH} (s1 : shModel h) (p2 : ¬ (h 1540 282 0 ≤ x2) → 0 ≤ x2) (p3 : ¬ (h 1540 282 0 ≤ x2) → x2 < 140) : vrun mX13_firstWay 2 [(1, 282), (0, x1), (0, x2)] [] h = if h 1540 282 0 ≤ x2 then some (.inl (some (0, (-1))), h) else if h 2 322 x2 = x1 then if fX13_isLeft h (h 2 311 x2) = 0 then if fX13_isRight h (h 2 311 x2) = 0 then vrun mX13_firstWay 2 [(1, 282), (0, x1), (0, x2 + 1)] [] h else some (.inl (some (0, (if ¬ (fX13_isRight h (h 2 311 x2) = 0) then 1 else 0))), h) else some (.inl (some (0, (if ¬ (fX13_isRight h (h 2 311 x2) = 0) then 1 else 0))), h) else vrun mX13_firstWay 2 [(1, 282), (0, x1), (0, x2 + 1)] [] h := by
  refine (rn_iload_n (pc := 2) (dd bX13_firstWay dX13_firstWay_2) rfl).trans ?_
  refine (rn_aload_n (pc := 3) (dd bX13_firstWay dX13_firstWay_3) rfl).trans ?_
  refine (rg_gf (pc := 4) (dd bX13_firstWay dX13_firstWay_4) (ci := 14) (j := 40) rfl rfl (key := 1540) rfl (kc := 34) rfl s1.1 rfl).trans ?_
  refine (rn_icmp_ge (t := 68) (pc := 7) (dd bX13_firstWay dX13_firstWay_7) rfl).trans (itec (fun c1 => ?_) (fun c1 => ?_))
  · refine (rn_iconst (pc := 68) (dd bX13_firstWay dX13_firstWay_68) (by decide)).trans ?_
    exact rn_ireturn (pc := 69) (dd bX13_firstWay dX13_firstWay_69) (Or.inl rfl)
  · refine (rn_aload_n (pc := 10) (dd bX13_firstWay dX13_firstWay_10) rfl).trans ?_
    refine (rg_gf (pc := 11) (dd bX13_firstWay dX13_firstWay_11) (ci := 14) (j := 44) rfl rfl (key := 1544) rfl (kc := 34) rfl s1.1 s1.2.2.2.2.2.2.2.2.2.2.2.2.2.2.2.2.2.2.2.2.2.2.2.2.2.2.2.2.2.2.2.2.2.2.2.2.2.2.2.2.2.2.2.2.2.2.2.2.2.2.2.2.2.2.2.2.2.2.2.2.2.2.2.2.2.2.2.2.2.2.2.2.2.2.2.2.2.2.2.2.2.2.2.2.2.2.2.2.2.2.2.2.2.2.2.2.2.2.2.2.2.2.2.2.2.2.2.2.2.2.2.2.2.2.2.2.2.2.1).trans ?_
    refine (rn_iload_n (pc := 14) (dd bX13_firstWay dX13_firstWay_14) rfl).trans ?_
    refine (rg_iaload (pc := 15) (dd bX13_firstWay dX13_firstWay_15) s1.2.2.2.2.2.2.2.2.2.2.2.2.2.2.2.2.2.2.2.2.2.2.2.2.2.2.2.2.2.2.2.2.2.2.2.2.2.2.2.2.2.2.2.2.2.2.2.2.2.2.2.2.2.2.2.2.2.2.2.2.2.2.2.2.2.2.2.2.2.2.2.2.2.2.2.2.2.2.2.2.2.2.2.2.2.2.2.2.2.2.2.2.2.2.2.2.2.2.2.2.2.2.2.2.2.2.2.2.2.2.2.2.2.2.2.2.2.2.2.1 s1.2.2.2.2.2.2.2.2.2.2.2.2.2.2.2.2.2.2.2.2.2.2.2.2.2.2.2.2.2.2.2.2.2.2.2.2.2.2.2.2.2.2.2.2.2.2.2.2.2.2.2.2.2.2.2.2.2.2.2.2.2.2.2.2.2.2.2.2.2.2.2.2.2.2.2.2.2.2.2.2.2.2.2.2.2.2.2.2.2.2.2.2.2.2.2.2.2.2.2.2.2.2.2.2.2.2.2.2.2.2.2.2.2.2.2.2.2.2.2.2.1 (p2 c1) (p3 c1) rfl).trans ?_
    refine (rn_iload_n (pc := 16) (dd bX13_firstWay dX13_firstWay_16) rfl).trans ?_
    refine (rg_icmp_ne (t := 62) (pc := 17) (dd bX13_firstWay dX13_firstWay_17) rfl).trans (itec (fun c2 => ?_) (fun c2 => ?_))
    · refine (rn_aload_n (pc := 20) (dd bX13_firstWay dX13_firstWay_20) rfl).trans ?_
      refine (rg_gf (pc := 21) (dd bX13_firstWay dX13_firstWay_21) (ci := 14) (j := 30) rfl rfl (key := 1530) rfl (kc := 34) rfl s1.1 s1.2.2.2.2.2.2.2.2.2.2.2.2.2.2.2.2.2.2.2.2.2.2.2.2.2.2.2.2.2.2.2.2.2.2.2.2.2.2.2.2.2.2.2.2.2.2.2.2.2.2.2.2.2.2.2.2.2.2.2.2.2.2.2.2.2.2.2.2.2.2.2.2.2.2.2.2.2.2.2.2.2.2.2.2.2.1).trans ?_
      refine (rn_iload_n (pc := 24) (dd bX13_firstWay dX13_firstWay_24) rfl).trans ?_
      refine (rg_iaload (pc := 25) (dd bX13_firstWay dX13_firstWay_25) s1.2.2.2.2.2.2.2.2.2.2.2.2.2.2.2.2.2.2.2.2.2.2.2.2.2.2.2.2.2.2.2.2.2.2.2.2.2.2.2.2.2.2.2.2.2.2.2.2.2.2.2.2.2.2.2.2.2.2.2.2.2.2.2.2.2.2.2.2.2.2.2.2.2.2.2.2.2.2.2.2.2.2.2.2.2.2.1 s1.2.2.2.2.2.2.2.2.2.2.2.2.2.2.2.2.2.2.2.2.2.2.2.2.2.2.2.2.2.2.2.2.2.2.2.2.2.2.2.2.2.2.2.2.2.2.2.2.2.2.2.2.2.2.2.2.2.2.2.2.2.2.2.2.2.2.2.2.2.2.2.2.2.2.2.2.2.2.2.2.2.2.2.2.2.2.2.1 (by have z0 := p2 c1; have z1 := p3 c1; omega) (by have z0 := p2 c1; have z1 := p3 c1; omega) rfl).trans ?_
      refine (rg_static (pc := 26) (dd bX13_firstWay dX13_firstWay_26) rfl (by decide) (Nat.le_of_ble_eq_true rfl) (as := [(0, h 2 311 x2)]) rfl rfl ⟨Nat.le_of_ble_eq_true rfl, Nat.le_of_ble_eq_true rfl, Nat.le_of_ble_eq_true rfl, Nat.le_of_ble_eq_true rfl⟩).trans ?_
      refine (vret_v spX13_isLeft).trans ?_
      refine (rg_if_ne (t := 44) (pc := 29) (dd bX13_firstWay dX13_firstWay_29) rfl).trans (itec (fun c3 => ?_) (fun c3 => ?_))
      · refine (rn_aload_n (pc := 32) (dd bX13_firstWay dX13_firstWay_32) rfl).trans ?_
        refine (rg_gf (pc := 33) (dd bX13_firstWay dX13_firstWay_33) (ci := 14) (j := 30) rfl rfl (key := 1530) rfl (kc := 34) rfl s1.1 s1.2.2.2.2.2.2.2.2.2.2.2.2.2.2.2.2.2.2.2.2.2.2.2.2.2.2.2.2.2.2.2.2.2.2.2.2.2.2.2.2.2.2.2.2.2.2.2.2.2.2.2.2.2.2.2.2.2.2.2.2.2.2.2.2.2.2.2.2.2.2.2.2.2.2.2.2.2.2.2.2.2.2.2.2.2.1).trans ?_
        refine (rn_iload_n (pc := 36) (dd bX13_firstWay dX13_firstWay_36) rfl).trans ?_
        refine (rg_iaload (pc := 37) (dd bX13_firstWay dX13_firstWay_37) s1.2.2.2.2.2.2.2.2.2.2.2.2.2.2.2.2.2.2.2.2.2.2.2.2.2.2.2.2.2.2.2.2.2.2.2.2.2.2.2.2.2.2.2.2.2.2.2.2.2.2.2.2.2.2.2.2.2.2.2.2.2.2.2.2.2.2.2.2.2.2.2.2.2.2.2.2.2.2.2.2.2.2.2.2.2.2.1 s1.2.2.2.2.2.2.2.2.2.2.2.2.2.2.2.2.2.2.2.2.2.2.2.2.2.2.2.2.2.2.2.2.2.2.2.2.2.2.2.2.2.2.2.2.2.2.2.2.2.2.2.2.2.2.2.2.2.2.2.2.2.2.2.2.2.2.2.2.2.2.2.2.2.2.2.2.2.2.2.2.2.2.2.2.2.2.2.1 (by have z0 := p2 c1; have z1 := p3 c1; omega) (by have z0 := p2 c1; have z1 := p3 c1; omega) rfl).trans ?_
        refine (rg_static (pc := 38) (dd bX13_firstWay dX13_firstWay_38) rfl (by decide) (Nat.le_of_ble_eq_true rfl) (as := [(0, h 2 311 x2)]) rfl rfl ⟨Nat.le_of_ble_eq_true rfl, Nat.le_of_ble_eq_true rfl, Nat.le_of_ble_eq_true rfl, Nat.le_of_ble_eq_true rfl⟩).trans ?_
        refine (vret_v spX13_isRight).trans ?_
        refine (rn_if_eq (t := 62) (pc := 41) (dd bX13_firstWay dX13_firstWay_41) rfl).trans (itec (fun c4 => ?_) (fun c4 => ?_))
        · refine (rg_iinc (pc := 62) (dd bX13_firstWay dX13_firstWay_62) rfl (Nat.le_of_ble_eq_true rfl) (by have z0 := p2 c1; have z1 := p3 c1; omega) (by have z0 := p2 c1; have z1 := p3 c1; omega) rfl).trans ?_
          refine (rn_goto (t := 2) (pc := 65) (dd bX13_firstWay dX13_firstWay_65) rfl).trans ?_
          rfl
        · refine (rn_aload_n (pc := 44) (dd bX13_firstWay dX13_firstWay_44) rfl).trans ?_
          refine (rg_gf (pc := 45) (dd bX13_firstWay dX13_firstWay_45) (ci := 14) (j := 30) rfl rfl (key := 1530) rfl (kc := 34) rfl s1.1 s1.2.2.2.2.2.2.2.2.2.2.2.2.2.2.2.2.2.2.2.2.2.2.2.2.2.2.2.2.2.2.2.2.2.2.2.2.2.2.2.2.2.2.2.2.2.2.2.2.2.2.2.2.2.2.2.2.2.2.2.2.2.2.2.2.2.2.2.2.2.2.2.2.2.2.2.2.2.2.2.2.2.2.2.2.2.1).trans ?_
          refine (rn_iload_n (pc := 48) (dd bX13_firstWay dX13_firstWay_48) rfl).trans ?_
          refine (rg_iaload (pc := 49) (dd bX13_firstWay dX13_firstWay_49) s1.2.2.2.2.2.2.2.2.2.2.2.2.2.2.2.2.2.2.2.2.2.2.2.2.2.2.2.2.2.2.2.2.2.2.2.2.2.2.2.2.2.2.2.2.2.2.2.2.2.2.2.2.2.2.2.2.2.2.2.2.2.2.2.2.2.2.2.2.2.2.2.2.2.2.2.2.2.2.2.2.2.2.2.2.2.2.1 s1.2.2.2.2.2.2.2.2.2.2.2.2.2.2.2.2.2.2.2.2.2.2.2.2.2.2.2.2.2.2.2.2.2.2.2.2.2.2.2.2.2.2.2.2.2.2.2.2.2.2.2.2.2.2.2.2.2.2.2.2.2.2.2.2.2.2.2.2.2.2.2.2.2.2.2.2.2.2.2.2.2.2.2.2.2.2.2.1 (by have z0 := p2 c1; have z1 := p3 c1; omega) (by have z0 := p2 c1; have z1 := p3 c1; omega) rfl).trans ?_
          refine (rg_static (pc := 50) (dd bX13_firstWay dX13_firstWay_50) rfl (by decide) (Nat.le_of_ble_eq_true rfl) (as := [(0, h 2 311 x2)]) rfl rfl ⟨Nat.le_of_ble_eq_true rfl, Nat.le_of_ble_eq_true rfl, Nat.le_of_ble_eq_true rfl, Nat.le_of_ble_eq_true rfl⟩).trans ?_
          refine (vret_v spX13_isRight).trans ?_
          have e1 : vrun mX13_firstWay 53 [(1, 282), (0, x1), (0, x2)] [(0, fX13_isRight h (h 2 311 x2))] h = vrun mX13_firstWay 61 [(1, 282), (0, x1), (0, x2)] [(0, (if ¬ (fX13_isRight h (h 2 311 x2) = 0) then 1 else 0))] h := by
            refine (rn_if_eq (t := 60) (pc := 53) (dd bX13_firstWay dX13_firstWay_53) rfl).trans ?_
            by_cases c5 : fX13_isRight h (h 2 311 x2) = 0
            · refine (if_pos c5).trans ?_
              refine (rn_iconst (pc := 60) (dd bX13_firstWay dX13_firstWay_60) (by decide)).trans ?_
              refine Eq.trans (b := vrun mX13_firstWay 61 [(1, 282), (0, x1), (0, x2)] [(0, 0)] h) rfl ?_
              simp only [c5, true_or, false_or, or_true, or_false, true_and, false_and, and_true, and_false, not_true_eq_false, not_false_eq_true, ne_eq, if_true, if_false, ↓reduceIte]
            · refine (if_neg c5).trans ?_
              refine (rn_iconst (pc := 56) (dd bX13_firstWay dX13_firstWay_56) (by decide)).trans ?_
              refine (rn_goto (t := 61) (pc := 57) (dd bX13_firstWay dX13_firstWay_57) rfl).trans ?_
              refine Eq.trans (b := vrun mX13_firstWay 61 [(1, 282), (0, x1), (0, x2)] [(0, 1)] h) rfl ?_
              simp only [c5, true_or, false_or, or_true, or_false, true_and, false_and, and_true, and_false, not_true_eq_false, not_false_eq_true, ne_eq, if_true, if_false, ↓reduceIte]
          refine e1.trans ?_
          exact rn_ireturn (pc := 61) (dd bX13_firstWay dX13_firstWay_61) (Or.inl rfl)
      · refine (rn_aload_n (pc := 44) (dd bX13_firstWay dX13_firstWay_44) rfl).trans ?_
        refine (rg_gf (pc := 45) (dd bX13_firstWay dX13_firstWay_45) (ci := 14) (j := 30) rfl rfl (key := 1530) rfl (kc := 34) rfl s1.1 s1.2.2.2.2.2.2.2.2.2.2.2.2.2.2.2.2.2.2.2.2.2.2.2.2.2.2.2.2.2.2.2.2.2.2.2.2.2.2.2.2.2.2.2.2.2.2.2.2.2.2.2.2.2.2.2.2.2.2.2.2.2.2.2.2.2.2.2.2.2.2.2.2.2.2.2.2.2.2.2.2.2.2.2.2.2.1).trans ?_
        refine (rn_iload_n (pc := 48) (dd bX13_firstWay dX13_firstWay_48) rfl).trans ?_
        refine (rg_iaload (pc := 49) (dd bX13_firstWay dX13_firstWay_49) s1.2.2.2.2.2.2.2.2.2.2.2.2.2.2.2.2.2.2.2.2.2.2.2.2.2.2.2.2.2.2.2.2.2.2.2.2.2.2.2.2.2.2.2.2.2.2.2.2.2.2.2.2.2.2.2.2.2.2.2.2.2.2.2.2.2.2.2.2.2.2.2.2.2.2.2.2.2.2.2.2.2.2.2.2.2.2.1 s1.2.2.2.2.2.2.2.2.2.2.2.2.2.2.2.2.2.2.2.2.2.2.2.2.2.2.2.2.2.2.2.2.2.2.2.2.2.2.2.2.2.2.2.2.2.2.2.2.2.2.2.2.2.2.2.2.2.2.2.2.2.2.2.2.2.2.2.2.2.2.2.2.2.2.2.2.2.2.2.2.2.2.2.2.2.2.2.1 (by have z0 := p2 c1; have z1 := p3 c1; omega) (by have z0 := p2 c1; have z1 := p3 c1; omega) rfl).trans ?_
        refine (rg_static (pc := 50) (dd bX13_firstWay dX13_firstWay_50) rfl (by decide) (Nat.le_of_ble_eq_true rfl) (as := [(0, h 2 311 x2)]) rfl rfl ⟨Nat.le_of_ble_eq_true rfl, Nat.le_of_ble_eq_true rfl, Nat.le_of_ble_eq_true rfl, Nat.le_of_ble_eq_true rfl⟩).trans ?_
        refine (vret_v spX13_isRight).trans ?_
        have e2 : vrun mX13_firstWay 53 [(1, 282), (0, x1), (0, x2)] [(0, fX13_isRight h (h 2 311 x2))] h = vrun mX13_firstWay 61 [(1, 282), (0, x1), (0, x2)] [(0, (if ¬ (fX13_isRight h (h 2 311 x2) = 0) then 1 else 0))] h := by
          refine (rn_if_eq (t := 60) (pc := 53) (dd bX13_firstWay dX13_firstWay_53) rfl).trans ?_
          by_cases c6 : fX13_isRight h (h 2 311 x2) = 0
          · refine (if_pos c6).trans ?_
            refine (rn_iconst (pc := 60) (dd bX13_firstWay dX13_firstWay_60) (by decide)).trans ?_
            refine Eq.trans (b := vrun mX13_firstWay 61 [(1, 282), (0, x1), (0, x2)] [(0, 0)] h) rfl ?_
            simp only [c6, true_or, false_or, or_true, or_false, true_and, false_and, and_true, and_false, not_true_eq_false, not_false_eq_true, ne_eq, if_true, if_false, ↓reduceIte]
          · refine (if_neg c6).trans ?_
            refine (rn_iconst (pc := 56) (dd bX13_firstWay dX13_firstWay_56) (by decide)).trans ?_
            refine (rn_goto (t := 61) (pc := 57) (dd bX13_firstWay dX13_firstWay_57) rfl).trans ?_
            refine Eq.trans (b := vrun mX13_firstWay 61 [(1, 282), (0, x1), (0, x2)] [(0, 1)] h) rfl ?_
            simp only [c6, true_or, false_or, or_true, or_false, true_and, false_and, and_true, and_false, not_true_eq_false, not_false_eq_true, ne_eq, if_true, if_false, ↓reduceIte]
        refine e2.trans ?_
        exact rn_ireturn (pc := 61) (dd bX13_firstWay dX13_firstWay_61) (Or.inl rfl)
    · refine (rg_iinc (pc := 62) (dd bX13_firstWay dX13_firstWay_62) rfl (Nat.le_of_ble_eq_true rfl) (by have z0 := p2 c1; have z1 := p3 c1; omega) (by have z0 := p2 c1; have z1 := p3 c1; omega) rfl).trans ?_
      refine (rn_goto (t := 2) (pc := 65) (dd bX13_firstWay dX13_firstWay_65) rfl).trans ?_
      rfl
theorem bX13_closing : vmB mX13_closing = cX13_closing := rfl
theorem rX13_closing_0 {x0 : Int} {h : vH} : vrun mX13_closing 0 [(0, x0)] [] h = some (.inl (some (0, (if x0 = 40 then 41 else (if x0 = 91 then 93 else (-1))))), h) := by
  refine (rn_iload_n (pc := 0) (dd bX13_closing dX13_closing_0) rfl).trans ?_
  refine (rn_bipush (pc := 1) (dd bX13_closing dX13_closing_1) (by decide)).trans ?_
  have e2 : vrun mX13_closing 3 [(0, x0)] [(0, 40), (0, x0)] h = vrun mX13_closing 23 [(0, x0)] [(0, (if x0 = 40 then 41 else (if x0 = 91 then 93 else (-1))))] h := by
    refine (rg_icmp_ne (t := 11) (pc := 3) (dd bX13_closing dX13_closing_3) rfl).trans ?_
    by_cases c1 : x0 = 40
    · refine (if_pos c1).trans ?_
      refine (rn_bipush (pc := 6) (dd bX13_closing dX13_closing_6) (by decide)).trans ?_
      refine (rn_goto (t := 23) (pc := 8) (dd bX13_closing dX13_closing_8) rfl).trans ?_
      refine Eq.trans (b := vrun mX13_closing 23 [(0, x0)] [(0, 41)] h) rfl ?_
      simp only [if_pos c1]
    · refine (if_neg c1).trans ?_
      refine (rn_iload_n (pc := 11) (dd bX13_closing dX13_closing_11) rfl).trans ?_
      refine (rn_bipush (pc := 12) (dd bX13_closing dX13_closing_12) (by decide)).trans ?_
      have e1 : vrun mX13_closing 14 [(0, x0)] [(0, 91), (0, x0)] h = vrun mX13_closing 23 [(0, x0)] [(0, (if x0 = 91 then 93 else (-1)))] h := by
        refine (rg_icmp_ne (t := 22) (pc := 14) (dd bX13_closing dX13_closing_14) rfl).trans ?_
        by_cases c2 : x0 = 91
        · refine (if_pos c2).trans ?_
          refine (rn_bipush (pc := 17) (dd bX13_closing dX13_closing_17) (by decide)).trans ?_
          refine (rn_goto (t := 23) (pc := 19) (dd bX13_closing dX13_closing_19) rfl).trans ?_
          refine Eq.trans (b := vrun mX13_closing 23 [(0, x0)] [(0, 93)] h) rfl ?_
          simp only [if_pos c2]
        · refine (if_neg c2).trans ?_
          refine (rn_iconst (pc := 22) (dd bX13_closing dX13_closing_22) (by decide)).trans ?_
          refine Eq.trans (b := vrun mX13_closing 23 [(0, x0)] [(0, (-1))] h) rfl ?_
          simp only [if_neg c2]
      refine e1.trans ?_
      refine Eq.trans (b := vrun mX13_closing 23 [(0, x0)] [(0, (if x0 = 91 then 93 else (-1)))] h) rfl ?_
      simp only [if_neg c1]
  refine e2.trans ?_
  exact rn_ireturn (pc := 23) (dd bX13_closing dX13_closing_23) (Or.inl rfl)
def fX13_closing (h : vH) (x0 : Int) : Int := (if x0 = 40 then 41 else (if x0 = 91 then 93 else (-1)))
theorem spX13_closing {x0 : Int} {h : vH} : vcl mX13_closing [(0, x0)] h = some (.inl (some (0, fX13_closing h x0)), h) := by
  refine (show _ = _ from rX13_closing_0).trans ?_
  rfl
theorem bX13_pairs : vmB mX13_pairs = cX13_pairs := rfl
theorem rX13_pairs_0 {x1 : Int} {h : vH} : vrun mX13_pairs 0 [(1, 282), (0, x1), (9, 0), (9, 0), (9, 0)] [] h = vrun mX13_pairs 4 [(1, 282), (0, x1), (0, 0), (0, 0), (9, 0)] [] h := by
  refine (rn_iconst (pc := 0) (dd bX13_pairs dX13_pairs_0) (by decide)).trans ?_
  refine (rn_istore_n (pc := 1) (dd bX13_pairs dX13_pairs_1) (Nat.le_of_ble_eq_true rfl) rfl).trans ?_
  refine (rn_iconst (pc := 2) (dd bX13_pairs dX13_pairs_2) (by decide)).trans ?_
  refine (rn_istore_n (pc := 3) (dd bX13_pairs dX13_pairs_3) (Nat.le_of_ble_eq_true rfl) rfl).trans ?_
  rfl
theorem rX13_pairs_4 {x1 : Int} {x2 : Int} {x3 : Int} {v4 : vv} {h : vH} (s1 : shModel h) (p2 : ¬ (h 1540 282 0 ≤ x3) → 0 ≤ x3) (p3 : ¬ (h 1540 282 0 ≤ x3) → x3 < 140) (p4 : ¬ (h 1540 282 0 ≤ x3) → h 2 322 x3 = x1 → fX13_closing h (h 2 311 x3) = (-1) → h 2 322 x3 = x1 → h 2 311 x3 = 41 → (-2147483648) ≤ x2 - 1) (p5 : ¬ (h 1540 282 0 ≤ x3) → h 2 322 x3 = x1 → fX13_closing h (h 2 311 x3) = (-1) → h 2 322 x3 = x1 → h 2 311 x3 = 41 → x2 - 1 < 2147483648) (p6 : ¬ (h 1540 282 0 ≤ x3) → h 2 322 x3 = x1 → fX13_closing h (h 2 311 x3) = (-1) → h 2 322 x3 = x1 → ¬ (h 2 311 x3 = 41) → h 2 311 x3 = 93 → (-2147483648) ≤ x2 - 1) (p7 : ¬ (h 1540 282 0 ≤ x3) → h 2 322 x3 = x1 → fX13_closing h (h 2 311 x3) = (-1) → h 2 322 x3 = x1 → ¬ (h 2 311 x3 = 41) → h 2 311 x3 = 93 → x2 - 1 < 2147483648) (p8 : ¬ (h 1540 282 0 ≤ x3) → h 2 322 x3 = x1 → ¬ (fX13_closing h (h 2 311 x3) = (-1)) → 0 ≤ x2) (p9 : ¬ (h 1540 282 0 ≤ x3) → h 2 322 x3 = x1 → ¬ (fX13_closing h (h 2 311 x3) = (-1)) → x2 < 140) (p10 : ¬ (h 1540 282 0 ≤ x3) → ¬ (h 2 322 x3 = x1) → h 2 322 x3 = x1 → h 2 311 x3 = 41 → (-2147483648) ≤ x2 - 1) (p11 : ¬ (h 1540 282 0 ≤ x3) → ¬ (h 2 322 x3 = x1) → h 2 322 x3 = x1 → h 2 311 x3 = 41 → x2 - 1 < 2147483648) (p12 : ¬ (h 1540 282 0 ≤ x3) → ¬ (h 2 322 x3 = x1) → h 2 322 x3 = x1 → ¬ (h 2 311 x3 = 41) → h 2 311 x3 = 93 → (-2147483648) ≤ x2 - 1) (p13 : ¬ (h 1540 282 0 ≤ x3) → ¬ (h 2 322 x3 = x1) → h 2 322 x3 = x1 → ¬ (h 2 311 x3 = 41) → h 2 311 x3 = 93 → x2 - 1 < 2147483648) : vrun mX13_pairs 4 [(1, 282), (0, x1), (0, x2), (0, x3), v4] [] h = if h 1540 282 0 ≤ x3 then some (.inl none, h) else if h 2 322 x3 = x1 then if fX13_closing h (h 2 311 x3) = (-1) then if h 2 322 x3 = x1 then if h 2 311 x3 = 41 then vrun mX13_pairs 99 [(1, 282), (0, x1), (0, x2), (0, x3), (0, x2 - 1)] [] (vup h 2 323 x3 (-1)) else if h 2 311 x3 = 93 then vrun mX13_pairs 99 [(1, 282), (0, x1), (0, x2), (0, x3), (0, x2 - 1)] [] (vup h 2 323 x3 (-1)) else vrun mX13_pairs 4 [(1, 282), (0, x1), (0, x2), (0, x3 + 1), v4] [] h else vrun mX13_pairs 4 [(1, 282), (0, x1), (0, x2), (0, x3 + 1), v4] [] h else vrun mX13_pairs 4 [(1, 282), (0, x1), (0, x2 + 1), (0, x3 + 1), v4] [] (vup (vup h 2 323 x3 (-1)) 2 325 x2 x3) else if h 2 322 x3 = x1 then if h 2 311 x3 = 41 then vrun mX13_pairs 99 [(1, 282), (0, x1), (0, x2), (0, x3), (0, x2 - 1)] [] (vup h 2 323 x3 (-1)) else if h 2 311 x3 = 93 then vrun mX13_pairs 99 [(1, 282), (0, x1), (0, x2), (0, x3), (0, x2 - 1)] [] (vup h 2 323 x3 (-1)) else vrun mX13_pairs 4 [(1, 282), (0, x1), (0, x2), (0, x3 + 1), v4] [] h else vrun mX13_pairs 4 [(1, 282), (0, x1), (0, x2), (0, x3 + 1), v4] [] h := by
  refine (rn_iload_n (pc := 4) (dd bX13_pairs dX13_pairs_4) rfl).trans ?_
  refine (rn_aload_n (pc := 5) (dd bX13_pairs dX13_pairs_5) rfl).trans ?_
  refine (rg_gf (pc := 6) (dd bX13_pairs dX13_pairs_6) (ci := 14) (j := 40) rfl rfl (key := 1540) rfl (kc := 34) rfl s1.1 rfl).trans ?_
  refine (rn_icmp_ge (t := 174) (pc := 9) (dd bX13_pairs dX13_pairs_9) rfl).trans (itec (fun c1 => ?_) (fun c1 => ?_))
  · exact rn_return (pc := 174) (dd bX13_pairs dX13_pairs_174) rfl
  · refine (rn_aload_n (pc := 12) (dd bX13_pairs dX13_pairs_12) rfl).trans ?_
    refine (rg_gf (pc := 13) (dd bX13_pairs dX13_pairs_13) (ci := 14) (j := 44) rfl rfl (key := 1544) rfl (kc := 34) rfl s1.1 s1.2.2.2.2.2.2.2.2.2.2.2.2.2.2.2.2.2.2.2.2.2.2.2.2.2.2.2.2.2.2.2.2.2.2.2.2.2.2.2.2.2.2.2.2.2.2.2.2.2.2.2.2.2.2.2.2.2.2.2.2.2.2.2.2.2.2.2.2.2.2.2.2.2.2.2.2.2.2.2.2.2.2.2.2.2.2.2.2.2.2.2.2.2.2.2.2.2.2.2.2.2.2.2.2.2.2.2.2.2.2.2.2.2.2.2.2.2.2.1).trans ?_
    refine (rn_iload_n (pc := 16) (dd bX13_pairs dX13_pairs_16) rfl).trans ?_
    refine (rg_iaload (pc := 17) (dd bX13_pairs dX13_pairs_17) s1.2.2.2.2.2.2.2.2.2.2.2.2.2.2.2.2.2.2.2.2.2.2.2.2.2.2.2.2.2.2.2.2.2.2.2.2.2.2.2.2.2.2.2.2.2.2.2.2.2.2.2.2.2.2.2.2.2.2.2.2.2.2.2.2.2.2.2.2.2.2.2.2.2.2.2.2.2.2.2.2.2.2.2.2.2.2.2.2.2.2.2.2.2.2.2.2.2.2.2.2.2.2.2.2.2.2.2.2.2.2.2.2.2.2.2.2.2.2.2.1 s1.2.2.2.2.2.2.2.2.2.2.2.2.2.2.2.2.2.2.2.2.2.2.2.2.2.2.2.2.2.2.2.2.2.2.2.2.2.2.2.2.2.2.2.2.2.2.2.2.2.2.2.2.2.2.2.2.2.2.2.2.2.2.2.2.2.2.2.2.2.2.2.2.2.2.2.2.2.2.2.2.2.2.2.2.2.2.2.2.2.2.2.2.2.2.2.2.2.2.2.2.2.2.2.2.2.2.2.2.2.2.2.2.2.2.2.2.2.2.2.2.1 (p2 c1) (p3 c1) rfl).trans ?_
    refine (rn_iload_n (pc := 18) (dd bX13_pairs dX13_pairs_18) rfl).trans ?_
    refine (rg_icmp_ne (t := 55) (pc := 19) (dd bX13_pairs dX13_pairs_19) rfl).trans (itec (fun c2 => ?_) (fun c2 => ?_))
    · refine (rn_aload_n (pc := 22) (dd bX13_pairs dX13_pairs_22) rfl).trans ?_
      refine (rg_gf (pc := 23) (dd bX13_pairs dX13_pairs_23) (ci := 14) (j := 30) rfl rfl (key := 1530) rfl (kc := 34) rfl s1.1 s1.2.2.2.2.2.2.2.2.2.2.2.2.2.2.2.2.2.2.2.2.2.2.2.2.2.2.2.2.2.2.2.2.2.2.2.2.2.2.2.2.2.2.2.2.2.2.2.2.2.2.2.2.2.2.2.2.2.2.2.2.2.2.2.2.2.2.2.2.2.2.2.2.2.2.2.2.2.2.2.2.2.2.2.2.2.1).trans ?_
      refine (rn_iload_n (pc := 26) (dd bX13_pairs dX13_pairs_26) rfl).trans ?_
      refine (rg_iaload (pc := 27) (dd bX13_pairs dX13_pairs_27) s1.2.2.2.2.2.2.2.2.2.2.2.2.2.2.2.2.2.2.2.2.2.2.2.2.2.2.2.2.2.2.2.2.2.2.2.2.2.2.2.2.2.2.2.2.2.2.2.2.2.2.2.2.2.2.2.2.2.2.2.2.2.2.2.2.2.2.2.2.2.2.2.2.2.2.2.2.2.2.2.2.2.2.2.2.2.2.1 s1.2.2.2.2.2.2.2.2.2.2.2.2.2.2.2.2.2.2.2.2.2.2.2.2.2.2.2.2.2.2.2.2.2.2.2.2.2.2.2.2.2.2.2.2.2.2.2.2.2.2.2.2.2.2.2.2.2.2.2.2.2.2.2.2.2.2.2.2.2.2.2.2.2.2.2.2.2.2.2.2.2.2.2.2.2.2.2.1 (by have z0 := p2 c1; have z1 := p3 c1; omega) (by have z0 := p2 c1; have z1 := p3 c1; omega) rfl).trans ?_
      refine (rg_static (pc := 28) (dd bX13_pairs dX13_pairs_28) rfl (by decide) (Nat.le_of_ble_eq_true rfl) (as := [(0, h 2 311 x3)]) rfl rfl ⟨Nat.le_of_ble_eq_true rfl, Nat.le_of_ble_eq_true rfl, Nat.le_of_ble_eq_true rfl, Nat.le_of_ble_eq_true rfl⟩).trans ?_
      refine (vret_v spX13_closing).trans ?_
      refine (rn_iconst (pc := 31) (dd bX13_pairs dX13_pairs_31) (by decide)).trans ?_
      refine (rn_icmp_eq (t := 55) (pc := 32) (dd bX13_pairs dX13_pairs_32) rfl).trans (itec (fun c3 => ?_) (fun c3 => ?_))
      · refine (rn_aload_n (pc := 55) (dd bX13_pairs dX13_pairs_55) rfl).trans ?_
        refine (rg_gf (pc := 56) (dd bX13_pairs dX13_pairs_56) (ci := 14) (j := 44) rfl rfl (key := 1544) rfl (kc := 34) rfl s1.1 s1.2.2.2.2.2.2.2.2.2.2.2.2.2.2.2.2.2.2.2.2.2.2.2.2.2.2.2.2.2.2.2.2.2.2.2.2.2.2.2.2.2.2.2.2.2.2.2.2.2.2.2.2.2.2.2.2.2.2.2.2.2.2.2.2.2.2.2.2.2.2.2.2.2.2.2.2.2.2.2.2.2.2.2.2.2.2.2.2.2.2.2.2.2.2.2.2.2.2.2.2.2.2.2.2.2.2.2.2.2.2.2.2.2.2.2.2.2.2.1).trans ?_
        refine (rn_iload_n (pc := 59) (dd bX13_pairs dX13_pairs_59) rfl).trans ?_
        refine (rg_iaload (pc := 60) (dd bX13_pairs dX13_pairs_60) s1.2.2.2.2.2.2.2.2.2.2.2.2.2.2.2.2.2.2.2.2.2.2.2.2.2.2.2.2.2.2.2.2.2.2.2.2.2.2.2.2.2.2.2.2.2.2.2.2.2.2.2.2.2.2.2.2.2.2.2.2.2.2.2.2.2.2.2.2.2.2.2.2.2.2.2.2.2.2.2.2.2.2.2.2.2.2.2.2.2.2.2.2.2.2.2.2.2.2.2.2.2.2.2.2.2.2.2.2.2.2.2.2.2.2.2.2.2.2.2.1 s1.2.2.2.2.2.2.2.2.2.2.2.2.2.2.2.2.2.2.2.2.2.2.2.2.2.2.2.2.2.2.2.2.2.2.2.2.2.2.2.2.2.2.2.2.2.2.2.2.2.2.2.2.2.2.2.2.2.2.2.2.2.2.2.2.2.2.2.2.2.2.2.2.2.2.2.2.2.2.2.2.2.2.2.2.2.2.2.2.2.2.2.2.2.2.2.2.2.2.2.2.2.2.2.2.2.2.2.2.2.2.2.2.2.2.2.2.2.2.2.2.1 (by have z0 := p2 c1; have z1 := p3 c1; omega) (by have z0 := p2 c1; have z1 := p3 c1; omega) rfl).trans ?_
        refine (rn_iload_n (pc := 61) (dd bX13_pairs dX13_pairs_61) rfl).trans ?_
        refine (rg_icmp_ne (t := 168) (pc := 62) (dd bX13_pairs dX13_pairs_62) rfl).trans (itec (fun c4 => ?_) (fun c4 => ?_))
        · refine (rn_aload_n (pc := 65) (dd bX13_pairs dX13_pairs_65) rfl).trans ?_
          refine (rg_gf (pc := 66) (dd bX13_pairs dX13_pairs_66) (ci := 14) (j := 30) rfl rfl (key := 1530) rfl (kc := 34) rfl s1.1 s1.2.2.2.2.2.2.2.2.2.2.2.2.2.2.2.2.2.2.2.2.2.2.2.2.2.2.2.2.2.2.2.2.2.2.2.2.2.2.2.2.2.2.2.2.2.2.2.2.2.2.2.2.2.2.2.2.2.2.2.2.2.2.2.2.2.2.2.2.2.2.2.2.2.2.2.2.2.2.2.2.2.2.2.2.2.1).trans ?_
          refine (rn_iload_n (pc := 69) (dd bX13_pairs dX13_pairs_69) rfl).trans ?_
          refine (rg_iaload (pc := 70) (dd bX13_pairs dX13_pairs_70) s1.2.2.2.2.2.2.2.2.2.2.2.2.2.2.2.2.2.2.2.2.2.2.2.2.2.2.2.2.2.2.2.2.2.2.2.2.2.2.2.2.2.2.2.2.2.2.2.2.2.2.2.2.2.2.2.2.2.2.2.2.2.2.2.2.2.2.2.2.2.2.2.2.2.2.2.2.2.2.2.2.2.2.2.2.2.2.1 s1.2.2.2.2.2.2.2.2.2.2.2.2.2.2.2.2.2.2.2.2.2.2.2.2.2.2.2.2.2.2.2.2.2.2.2.2.2.2.2.2.2.2.2.2.2.2.2.2.2.2.2.2.2.2.2.2.2.2.2.2.2.2.2.2.2.2.2.2.2.2.2.2.2.2.2.2.2.2.2.2.2.2.2.2.2.2.2.1 (by have z0 := p2 c1; have z1 := p3 c1; omega) (by have z0 := p2 c1; have z1 := p3 c1; omega) rfl).trans ?_
          refine (rn_bipush (pc := 71) (dd bX13_pairs dX13_pairs_71) (by decide)).trans ?_
          refine (rn_icmp_eq (t := 87) (pc := 73) (dd bX13_pairs dX13_pairs_73) rfl).trans (itec (fun c5 => ?_) (fun c5 => ?_))
          · refine (rn_aload_n (pc := 87) (dd bX13_pairs dX13_pairs_87) rfl).trans ?_
            refine (rg_gf (pc := 88) (dd bX13_pairs dX13_pairs_88) (ci := 14) (j := 45) rfl rfl (key := 1545) rfl (kc := 34) rfl s1.1 s1.2.2.2.2.2.2.2.2.2.2.2.2.2.2.2.2.2.2.2.2.2.2.2.2.2.2.2.2.2.2.2.2.2.2.2.2.2.2.2.2.2.2.2.2.2.2.2.2.2.2.2.2.2.2.2.2.2.2.2.2.2.2.2.2.2.2.2.2.2.2.2.2.2.2.2.2.2.2.2.2.2.2.2.2.2.2.2.2.2.2.2.2.2.2.2.2.2.2.2.2.2.2.2.2.2.2.2.2.2.2.2.2.2.2.2.2.2.2.2.2.2.1).trans ?_
            refine (rn_iload_n (pc := 91) (dd bX13_pairs dX13_pairs_91) rfl).trans ?_
            refine (rn_iconst (pc := 92) (dd bX13_pairs dX13_pairs_92) (by decide)).trans ?_
            refine (rg_iastore (pc := 93) (dd bX13_pairs dX13_pairs_93) s1.2.2.2.2.2.2.2.2.2.2.2.2.2.2.2.2.2.2.2.2.2.2.2.2.2.2.2.2.2.2.2.2.2.2.2.2.2.2.2.2.2.2.2.2.2.2.2.2.2.2.2.2.2.2.2.2.2.2.2.2.2.2.2.2.2.2.2.2.2.2.2.2.2.2.2.2.2.2.2.2.2.2.2.2.2.2.2.2.2.2.2.2.2.2.2.2.2.2.2.2.2.2.2.2.2.2.2.2.2.2.2.2.2.2.2.2.2.2.2.2.2.2.1 s1.2.2.2.2.2.2.2.2.2.2.2.2.2.2.2.2.2.2.2.2.2.2.2.2.2.2.2.2.2.2.2.2.2.2.2.2.2.2.2.2.2.2.2.2.2.2.2.2.2.2.2.2.2.2.2.2.2.2.2.2.2.2.2.2.2.2.2.2.2.2.2.2.2.2.2.2.2.2.2.2.2.2.2.2.2.2.2.2.2.2.2.2.2.2.2.2.2.2.2.2.2.2.2.2.2.2.2.2.2.2.2.2.2.2.2.2.2.2.2.2.2.2.2.1 (by have z0 := p2 c1; have z1 := p3 c1; omega) (by have z0 := p2 c1; have z1 := p3 c1; omega)).trans ?_
            refine (rn_iload_n (pc := 94) (dd bX13_pairs dX13_pairs_94) rfl).trans ?_
            refine (rn_iconst (pc := 95) (dd bX13_pairs dX13_pairs_95) (by decide)).trans ?_
            refine (rg_isub (pc := 96) (dd bX13_pairs dX13_pairs_96) (p4 c1 c2 c3 c4 c5) (p5 c1 c2 c3 c4 c5)).trans ?_
            refine (rn_istore (pc := 97) (dd bX13_pairs dX13_pairs_97) (Nat.le_of_ble_eq_true rfl) rfl).trans ?_
            rfl
          · refine (rn_aload_n (pc := 76) (dd bX13_pairs dX13_pairs_76) rfl).trans ?_
            refine (rg_gf (pc := 77) (dd bX13_pairs dX13_pairs_77) (ci := 14) (j := 30) rfl rfl (key := 1530) rfl (kc := 34) rfl s1.1 s1.2.2.2.2.2.2.2.2.2.2.2.2.2.2.2.2.2.2.2.2.2.2.2.2.2.2.2.2.2.2.2.2.2.2.2.2.2.2.2.2.2.2.2.2.2.2.2.2.2.2.2.2.2.2.2.2.2.2.2.2.2.2.2.2.2.2.2.2.2.2.2.2.2.2.2.2.2.2.2.2.2.2.2.2.2.1).trans ?_
            refine (rn_iload_n (pc := 80) (dd bX13_pairs dX13_pairs_80) rfl).trans ?_
            refine (rg_iaload (pc := 81) (dd bX13_pairs dX13_pairs_81) s1.2.2.2.2.2.2.2.2.2.2.2.2.2.2.2.2.2.2.2.2.2.2.2.2.2.2.2.2.2.2.2.2.2.2.2.2.2.2.2.2.2.2.2.2.2.2.2.2.2.2.2.2.2.2.2.2.2.2.2.2.2.2.2.2.2.2.2.2.2.2.2.2.2.2.2.2.2.2.2.2.2.2.2.2.2.2.1 s1.2.2.2.2.2.2.2.2.2.2.2.2.2.2.2.2.2.2.2.2.2.2.2.2.2.2.2.2.2.2.2.2.2.2.2.2.2.2.2.2.2.2.2.2.2.2.2.2.2.2.2.2.2.2.2.2.2.2.2.2.2.2.2.2.2.2.2.2.2.2.2.2.2.2.2.2.2.2.2.2.2.2.2.2.2.2.2.1 (by have z0 := p2 c1; have z1 := p3 c1; omega) (by have z0 := p2 c1; have z1 := p3 c1; omega) rfl).trans ?_
            refine (rn_bipush (pc := 82) (dd bX13_pairs dX13_pairs_82) (by decide)).trans ?_
            refine (rg_icmp_ne (t := 168) (pc := 84) (dd bX13_pairs dX13_pairs_84) rfl).trans (itec (fun c6 => ?_) (fun c6 => ?_))
            · refine (rn_aload_n (pc := 87) (dd bX13_pairs dX13_pairs_87) rfl).trans ?_
              refine (rg_gf (pc := 88) (dd bX13_pairs dX13_pairs_88) (ci := 14) (j := 45) rfl rfl (key := 1545) rfl (kc := 34) rfl s1.1 s1.2.2.2.2.2.2.2.2.2.2.2.2.2.2.2.2.2.2.2.2.2.2.2.2.2.2.2.2.2.2.2.2.2.2.2.2.2.2.2.2.2.2.2.2.2.2.2.2.2.2.2.2.2.2.2.2.2.2.2.2.2.2.2.2.2.2.2.2.2.2.2.2.2.2.2.2.2.2.2.2.2.2.2.2.2.2.2.2.2.2.2.2.2.2.2.2.2.2.2.2.2.2.2.2.2.2.2.2.2.2.2.2.2.2.2.2.2.2.2.2.2.1).trans ?_
              refine (rn_iload_n (pc := 91) (dd bX13_pairs dX13_pairs_91) rfl).trans ?_
              refine (rn_iconst (pc := 92) (dd bX13_pairs dX13_pairs_92) (by decide)).trans ?_
              refine (rg_iastore (pc := 93) (dd bX13_pairs dX13_pairs_93) s1.2.2.2.2.2.2.2.2.2.2.2.2.2.2.2.2.2.2.2.2.2.2.2.2.2.2.2.2.2.2.2.2.2.2.2.2.2.2.2.2.2.2.2.2.2.2.2.2.2.2.2.2.2.2.2.2.2.2.2.2.2.2.2.2.2.2.2.2.2.2.2.2.2.2.2.2.2.2.2.2.2.2.2.2.2.2.2.2.2.2.2.2.2.2.2.2.2.2.2.2.2.2.2.2.2.2.2.2.2.2.2.2.2.2.2.2.2.2.2.2.2.2.1 s1.2.2.2.2.2.2.2.2.2.2.2.2.2.2.2.2.2.2.2.2.2.2.2.2.2.2.2.2.2.2.2.2.2.2.2.2.2.2.2.2.2.2.2.2.2.2.2.2.2.2.2.2.2.2.2.2.2.2.2.2.2.2.2.2.2.2.2.2.2.2.2.2.2.2.2.2.2.2.2.2.2.2.2.2.2.2.2.2.2.2.2.2.2.2.2.2.2.2.2.2.2.2.2.2.2.2.2.2.2.2.2.2.2.2.2.2.2.2.2.2.2.2.2.1 (by have z0 := p2 c1; have z1 := p3 c1; omega) (by have z0 := p2 c1; have z1 := p3 c1; omega)).trans ?_
              refine (rn_iload_n (pc := 94) (dd bX13_pairs dX13_pairs_94) rfl).trans ?_
              refine (rn_iconst (pc := 95) (dd bX13_pairs dX13_pairs_95) (by decide)).trans ?_
              refine (rg_isub (pc := 96) (dd bX13_pairs dX13_pairs_96) (p6 c1 c2 c3 c4 c5 c6) (p7 c1 c2 c3 c4 c5 c6)).trans ?_
              refine (rn_istore (pc := 97) (dd bX13_pairs dX13_pairs_97) (Nat.le_of_ble_eq_true rfl) rfl).trans ?_
              rfl
            · refine (rg_iinc (pc := 168) (dd bX13_pairs dX13_pairs_168) rfl (Nat.le_of_ble_eq_true rfl) (by have z0 := p2 c1; have z1 := p3 c1; omega) (by have z0 := p2 c1; have z1 := p3 c1; omega) rfl).trans ?_
              refine (rn_goto (t := 4) (pc := 171) (dd bX13_pairs dX13_pairs_171) rfl).trans ?_
              rfl
        · refine (rg_iinc (pc := 168) (dd bX13_pairs dX13_pairs_168) rfl (Nat.le_of_ble_eq_true rfl) (by have z0 := p2 c1; have z1 := p3 c1; omega) (by have z0 := p2 c1; have z1 := p3 c1; omega) rfl).trans ?_
          refine (rn_goto (t := 4) (pc := 171) (dd bX13_pairs dX13_pairs_171) rfl).trans ?_
          rfl
      · refine (rn_aload_n (pc := 35) (dd bX13_pairs dX13_pairs_35) rfl).trans ?_
        refine (rg_gf (pc := 36) (dd bX13_pairs dX13_pairs_36) (ci := 14) (j := 45) rfl rfl (key := 1545) rfl (kc := 34) rfl s1.1 s1.2.2.2.2.2.2.2.2.2.2.2.2.2.2.2.2.2.2.2.2.2.2.2.2.2.2.2.2.2.2.2.2.2.2.2.2.2.2.2.2.2.2.2.2.2.2.2.2.2.2.2.2.2.2.2.2.2.2.2.2.2.2.2.2.2.2.2.2.2.2.2.2.2.2.2.2.2.2.2.2.2.2.2.2.2.2.2.2.2.2.2.2.2.2.2.2.2.2.2.2.2.2.2.2.2.2.2.2.2.2.2.2.2.2.2.2.2.2.2.2.2.1).trans ?_
        refine (rn_iload_n (pc := 39) (dd bX13_pairs dX13_pairs_39) rfl).trans ?_
        refine (rn_iconst (pc := 40) (dd bX13_pairs dX13_pairs_40) (by decide)).trans ?_
        refine (rg_iastore (pc := 41) (dd bX13_pairs dX13_pairs_41) s1.2.2.2.2.2.2.2.2.2.2.2.2.2.2.2.2.2.2.2.2.2.2.2.2.2.2.2.2.2.2.2.2.2.2.2.2.2.2.2.2.2.2.2.2.2.2.2.2.2.2.2.2.2.2.2.2.2.2.2.2.2.2.2.2.2.2.2.2.2.2.2.2.2.2.2.2.2.2.2.2.2.2.2.2.2.2.2.2.2.2.2.2.2.2.2.2.2.2.2.2.2.2.2.2.2.2.2.2.2.2.2.2.2.2.2.2.2.2.2.2.2.2.1 s1.2.2.2.2.2.2.2.2.2.2.2.2.2.2.2.2.2.2.2.2.2.2.2.2.2.2.2.2.2.2.2.2.2.2.2.2.2.2.2.2.2.2.2.2.2.2.2.2.2.2.2.2.2.2.2.2.2.2.2.2.2.2.2.2.2.2.2.2.2.2.2.2.2.2.2.2.2.2.2.2.2.2.2.2.2.2.2.2.2.2.2.2.2.2.2.2.2.2.2.2.2.2.2.2.2.2.2.2.2.2.2.2.2.2.2.2.2.2.2.2.2.2.2.1 (by have z0 := p2 c1; have z1 := p3 c1; omega) (by have z0 := p2 c1; have z1 := p3 c1; omega)).trans ?_
        refine (rn_aload_n (pc := 42) (dd bX13_pairs dX13_pairs_42) rfl).trans ?_
        refine (rg_gf (pc := 43) (dd bX13_pairs dX13_pairs_43) (ci := 14) (j := 47) rfl rfl (key := 1547) rfl (kc := 34) rfl ((vup_k (by decide)).trans s1.1) ((vup_k (by decide)).trans s1.2.2.2.2.2.2.2.2.2.2.2.2.2.2.2.2.2.2.2.2.2.2.2.2.2.2.2.2.2.2.2.2.2.2.2.2.2.2.2.2.2.2.2.2.2.2.2.2.2.2.2.2.2.2.2.2.2.2.2.2.2.2.2.2.2.2.2.2.2.2.2.2.2.2.2.2.2.2.2.2.2.2.2.2.2.2.2.2.2.2.2.2.2.2.2.2.2.2.2.2.2.2.2.2.2.2.2.2.2.2.2.2.2.2.2.2.2.2.2.2.2.2.2.2.2.2.2.1)).trans ?_
        refine (rn_iload_n (pc := 46) (dd bX13_pairs dX13_pairs_46) rfl).trans ?_
        refine (rn_iload_n (pc := 47) (dd bX13_pairs dX13_pairs_47) rfl).trans ?_
        refine (rg_iastore (pc := 48) (dd bX13_pairs dX13_pairs_48) ((vup_k (by decide)).trans s1.2.2.2.2.2.2.2.2.2.2.2.2.2.2.2.2.2.2.2.2.2.2.2.2.2.2.2.2.2.2.2.2.2.2.2.2.2.2.2.2.2.2.2.2.2.2.2.2.2.2.2.2.2.2.2.2.2.2.2.2.2.2.2.2.2.2.2.2.2.2.2.2.2.2.2.2.2.2.2.2.2.2.2.2.2.2.2.2.2.2.2.2.2.2.2.2.2.2.2.2.2.2.2.2.2.2.2.2.2.2.2.2.2.2.2.2.2.2.2.2.2.2.2.2.2.2.2.2.1) ((vup_k (by decide)).trans s1.2.2.2.2.2.2.2.2.2.2.2.2.2.2.2.2.2.2.2.2.2.2.2.2.2.2.2.2.2.2.2.2.2.2.2.2.2.2.2.2.2.2.2.2.2.2.2.2.2.2.2.2.2.2.2.2.2.2.2.2.2.2.2.2.2.2.2.2.2.2.2.2.2.2.2.2.2.2.2.2.2.2.2.2.2.2.2.2.2.2.2.2.2.2.2.2.2.2.2.2.2.2.2.2.2.2.2.2.2.2.2.2.2.2.2.2.2.2.2.2.2.2.2.2.2.2.2.2.2.1) (p8 c1 c2 c3) (p9 c1 c2 c3)).trans ?_
        refine (rg_iinc (pc := 49) (dd bX13_pairs dX13_pairs_49) rfl (Nat.le_of_ble_eq_true rfl) (by have z0 := p8 c1 c2 c3; have z1 := p9 c1 c2 c3; omega) (by have z0 := p8 c1 c2 c3; have z1 := p9 c1 c2 c3; omega) rfl).trans ?_
        refine (rn_goto (t := 168) (pc := 52) (dd bX13_pairs dX13_pairs_52) rfl).trans ?_
        refine (rg_iinc (pc := 168) (dd bX13_pairs dX13_pairs_168) rfl (Nat.le_of_ble_eq_true rfl) (by have z0 := p2 c1; have z1 := p3 c1; omega) (by have z0 := p2 c1; have z1 := p3 c1; omega) rfl).trans ?_
        refine (rn_goto (t := 4) (pc := 171) (dd bX13_pairs dX13_pairs_171) rfl).trans ?_
        rfl
    · refine (rn_aload_n (pc := 55) (dd bX13_pairs dX13_pairs_55) rfl).trans ?_
      refine (rg_gf (pc := 56) (dd bX13_pairs dX13_pairs_56) (ci := 14) (j := 44) rfl rfl (key := 1544) rfl (kc := 34) rfl s1.1 s1.2.2.2.2.2.2.2.2.2.2.2.2.2.2.2.2.2.2.2.2.2.2.2.2.2.2.2.2.2.2.2.2.2.2.2.2.2.2.2.2.2.2.2.2.2.2.2.2.2.2.2.2.2.2.2.2.2.2.2.2.2.2.2.2.2.2.2.2.2.2.2.2.2.2.2.2.2.2.2.2.2.2.2.2.2.2.2.2.2.2.2.2.2.2.2.2.2.2.2.2.2.2.2.2.2.2.2.2.2.2.2.2.2.2.2.2.2.2.1).trans ?_
      refine (rn_iload_n (pc := 59) (dd bX13_pairs dX13_pairs_59) rfl).trans ?_
      refine (rg_iaload (pc := 60) (dd bX13_pairs dX13_pairs_60) s1.2.2.2.2.2.2.2.2.2.2.2.2.2.2.2.2.2.2.2.2.2.2.2.2.2.2.2.2.2.2.2.2.2.2.2.2.2.2.2.2.2.2.2.2.2.2.2.2.2.2.2.2.2.2.2.2.2.2.2.2.2.2.2.2.2.2.2.2.2.2.2.2.2.2.2.2.2.2.2.2.2.2.2.2.2.2.2.2.2.2.2.2.2.2.2.2.2.2.2.2.2.2.2.2.2.2.2.2.2.2.2.2.2.2.2.2.2.2.2.1 s1.2.2.2.2.2.2.2.2.2.2.2.2.2.2.2.2.2.2.2.2.2.2.2.2.2.2.2.2.2.2.2.2.2.2.2.2.2.2.2.2.2.2.2.2.2.2.2.2.2.2.2.2.2.2.2.2.2.2.2.2.2.2.2.2.2.2.2.2.2.2.2.2.2.2.2.2.2.2.2.2.2.2.2.2.2.2.2.2.2.2.2.2.2.2.2.2.2.2.2.2.2.2.2.2.2.2.2.2.2.2.2.2.2.2.2.2.2.2.2.2.1 (by have z0 := p2 c1; have z1 := p3 c1; omega) (by have z0 := p2 c1; have z1 := p3 c1; omega) rfl).trans ?_
      refine (rn_iload_n (pc := 61) (dd bX13_pairs dX13_pairs_61) rfl).trans ?_
      refine (rg_icmp_ne (t := 168) (pc := 62) (dd bX13_pairs dX13_pairs_62) rfl).trans (itec (fun c7 => ?_) (fun c7 => ?_))
      · refine (rn_aload_n (pc := 65) (dd bX13_pairs dX13_pairs_65) rfl).trans ?_
        refine (rg_gf (pc := 66) (dd bX13_pairs dX13_pairs_66) (ci := 14) (j := 30) rfl rfl (key := 1530) rfl (kc := 34) rfl s1.1 s1.2.2.2.2.2.2.2.2.2.2.2.2.2.2.2.2.2.2.2.2.2.2.2.2.2.2.2.2.2.2.2.2.2.2.2.2.2.2.2.2.2.2.2.2.2.2.2.2.2.2.2.2.2.2.2.2.2.2.2.2.2.2.2.2.2.2.2.2.2.2.2.2.2.2.2.2.2.2.2.2.2.2.2.2.2.1).trans ?_
        refine (rn_iload_n (pc := 69) (dd bX13_pairs dX13_pairs_69) rfl).trans ?_
        refine (rg_iaload (pc := 70) (dd bX13_pairs dX13_pairs_70) s1.2.2.2.2.2.2.2.2.2.2.2.2.2.2.2.2.2.2.2.2.2.2.2.2.2.2.2.2.2.2.2.2.2.2.2.2.2.2.2.2.2.2.2.2.2.2.2.2.2.2.2.2.2.2.2.2.2.2.2.2.2.2.2.2.2.2.2.2.2.2.2.2.2.2.2.2.2.2.2.2.2.2.2.2.2.2.1 s1.2.2.2.2.2.2.2.2.2.2.2.2.2.2.2.2.2.2.2.2.2.2.2.2.2.2.2.2.2.2.2.2.2.2.2.2.2.2.2.2.2.2.2.2.2.2.2.2.2.2.2.2.2.2.2.2.2.2.2.2.2.2.2.2.2.2.2.2.2.2.2.2.2.2.2.2.2.2.2.2.2.2.2.2.2.2.2.1 (by have z0 := p2 c1; have z1 := p3 c1; omega) (by have z0 := p2 c1; have z1 := p3 c1; omega) rfl).trans ?_
        refine (rn_bipush (pc := 71) (dd bX13_pairs dX13_pairs_71) (by decide)).trans ?_
        refine (rn_icmp_eq (t := 87) (pc := 73) (dd bX13_pairs dX13_pairs_73) rfl).trans (itec (fun c8 => ?_) (fun c8 => ?_))
        · refine (rn_aload_n (pc := 87) (dd bX13_pairs dX13_pairs_87) rfl).trans ?_
          refine (rg_gf (pc := 88) (dd bX13_pairs dX13_pairs_88) (ci := 14) (j := 45) rfl rfl (key := 1545) rfl (kc := 34) rfl s1.1 s1.2.2.2.2.2.2.2.2.2.2.2.2.2.2.2.2.2.2.2.2.2.2.2.2.2.2.2.2.2.2.2.2.2.2.2.2.2.2.2.2.2.2.2.2.2.2.2.2.2.2.2.2.2.2.2.2.2.2.2.2.2.2.2.2.2.2.2.2.2.2.2.2.2.2.2.2.2.2.2.2.2.2.2.2.2.2.2.2.2.2.2.2.2.2.2.2.2.2.2.2.2.2.2.2.2.2.2.2.2.2.2.2.2.2.2.2.2.2.2.2.2.1).trans ?_
          refine (rn_iload_n (pc := 91) (dd bX13_pairs dX13_pairs_91) rfl).trans ?_
          refine (rn_iconst (pc := 92) (dd bX13_pairs dX13_pairs_92) (by decide)).trans ?_
          refine (rg_iastore (pc := 93) (dd bX13_pairs dX13_pairs_93) s1.2.2.2.2.2.2.2.2.2.2.2.2.2.2.2.2.2.2.2.2.2.2.2.2.2.2.2.2.2.2.2.2.2.2.2.2.2.2.2.2.2.2.2.2.2.2.2.2.2.2.2.2.2.2.2.2.2.2.2.2.2.2.2.2.2.2.2.2.2.2.2.2.2.2.2.2.2.2.2.2.2.2.2.2.2.2.2.2.2.2.2.2.2.2.2.2.2.2.2.2.2.2.2.2.2.2.2.2.2.2.2.2.2.2.2.2.2.2.2.2.2.2.1 s1.2.2.2.2.2.2.2.2.2.2.2.2.2.2.2.2.2.2.2.2.2.2.2.2.2.2.2.2.2.2.2.2.2.2.2.2.2.2.2.2.2.2.2.2.2.2.2.2.2.2.2.2.2.2.2.2.2.2.2.2.2.2.2.2.2.2.2.2.2.2.2.2.2.2.2.2.2.2.2.2.2.2.2.2.2.2.2.2.2.2.2.2.2.2.2.2.2.2.2.2.2.2.2.2.2.2.2.2.2.2.2.2.2.2.2.2.2.2.2.2.2.2.2.1 (by have z0 := p2 c1; have z1 := p3 c1; omega) (by have z0 := p2 c1; have z1 := p3 c1; omega)).trans ?_
          refine (rn_iload_n (pc := 94) (dd bX13_pairs dX13_pairs_94) rfl).trans ?_
          refine (rn_iconst (pc := 95) (dd bX13_pairs dX13_pairs_95) (by decide)).trans ?_
          refine (rg_isub (pc := 96) (dd bX13_pairs dX13_pairs_96) (p10 c1 c2 c7 c8) (p11 c1 c2 c7 c8)).trans ?_
          refine (rn_istore (pc := 97) (dd bX13_pairs dX13_pairs_97) (Nat.le_of_ble_eq_true rfl) rfl).trans ?_
          rfl
        · refine (rn_aload_n (pc := 76) (dd bX13_pairs dX13_pairs_76) rfl).trans ?_
          refine (rg_gf (pc := 77) (dd bX13_pairs dX13_pairs_77) (ci := 14) (j := 30) rfl rfl (key := 1530) rfl (kc := 34) rfl s1.1 s1.2.2.2.2.2.2.2.2.2.2.2.2.2.2.2.2.2.2.2.2.2.2.2.2.2.2.2.2.2.2.2.2.2.2.2.2.2.2.2.2.2.2.2.2.2.2.2.2.2.2.2.2.2.2.2.2.2.2.2.2.2.2.2.2.2.2.2.2.2.2.2.2.2.2.2.2.2.2.2.2.2.2.2.2.2.1).trans ?_
          refine (rn_iload_n (pc := 80) (dd bX13_pairs dX13_pairs_80) rfl).trans ?_
          refine (rg_iaload (pc := 81) (dd bX13_pairs dX13_pairs_81) s1.2.2.2.2.2.2.2.2.2.2.2.2.2.2.2.2.2.2.2.2.2.2.2.2.2.2.2.2.2.2.2.2.2.2.2.2.2.2.2.2.2.2.2.2.2.2.2.2.2.2.2.2.2.2.2.2.2.2.2.2.2.2.2.2.2.2.2.2.2.2.2.2.2.2.2.2.2.2.2.2.2.2.2.2.2.2.1 s1.2.2.2.2.2.2.2.2.2.2.2.2.2.2.2.2.2.2.2.2.2.2.2.2.2.2.2.2.2.2.2.2.2.2.2.2.2.2.2.2.2.2.2.2.2.2.2.2.2.2.2.2.2.2.2.2.2.2.2.2.2.2.2.2.2.2.2.2.2.2.2.2.2.2.2.2.2.2.2.2.2.2.2.2.2.2.2.1 (by have z0 := p2 c1; have z1 := p3 c1; omega) (by have z0 := p2 c1; have z1 := p3 c1; omega) rfl).trans ?_
          refine (rn_bipush (pc := 82) (dd bX13_pairs dX13_pairs_82) (by decide)).trans ?_
          refine (rg_icmp_ne (t := 168) (pc := 84) (dd bX13_pairs dX13_pairs_84) rfl).trans (itec (fun c9 => ?_) (fun c9 => ?_))
          · refine (rn_aload_n (pc := 87) (dd bX13_pairs dX13_pairs_87) rfl).trans ?_
            refine (rg_gf (pc := 88) (dd bX13_pairs dX13_pairs_88) (ci := 14) (j := 45) rfl rfl (key := 1545) rfl (kc := 34) rfl s1.1 s1.2.2.2.2.2.2.2.2.2.2.2.2.2.2.2.2.2.2.2.2.2.2.2.2.2.2.2.2.2.2.2.2.2.2.2.2.2.2.2.2.2.2.2.2.2.2.2.2.2.2.2.2.2.2.2.2.2.2.2.2.2.2.2.2.2.2.2.2.2.2.2.2.2.2.2.2.2.2.2.2.2.2.2.2.2.2.2.2.2.2.2.2.2.2.2.2.2.2.2.2.2.2.2.2.2.2.2.2.2.2.2.2.2.2.2.2.2.2.2.2.2.1).trans ?_
            refine (rn_iload_n (pc := 91) (dd bX13_pairs dX13_pairs_91) rfl).trans ?_
            refine (rn_iconst (pc := 92) (dd bX13_pairs dX13_pairs_92) (by decide)).trans ?_
            refine (rg_iastore (pc := 93) (dd bX13_pairs dX13_pairs_93) s1.2.2.2.2.2.2.2.2.2.2.2.2.2.2.2.2.2.2.2.2.2.2.2.2.2.2.2.2.2.2.2.2.2.2.2.2.2.2.2.2.2.2.2.2.2.2.2.2.2.2.2.2.2.2.2.2.2.2.2.2.2.2.2.2.2.2.2.2.2.2.2.2.2.2.2.2.2.2.2.2.2.2.2.2.2.2.2.2.2.2.2.2.2.2.2.2.2.2.2.2.2.2.2.2.2.2.2.2.2.2.2.2.2.2.2.2.2.2.2.2.2.2.1 s1.2.2.2.2.2.2.2.2.2.2.2.2.2.2.2.2.2.2.2.2.2.2.2.2.2.2.2.2.2.2.2.2.2.2.2.2.2.2.2.2.2.2.2.2.2.2.2.2.2.2.2.2.2.2.2.2.2.2.2.2.2.2.2.2.2.2.2.2.2.2.2.2.2.2.2.2.2.2.2.2.2.2.2.2.2.2.2.2.2.2.2.2.2.2.2.2.2.2.2.2.2.2.2.2.2.2.2.2.2.2.2.2.2.2.2.2.2.2.2.2.2.2.2.1 (by have z0 := p2 c1; have z1 := p3 c1; omega) (by have z0 := p2 c1; have z1 := p3 c1; omega)).trans ?_
            refine (rn_iload_n (pc := 94) (dd bX13_pairs dX13_pairs_94) rfl).trans ?_
            refine (rn_iconst (pc := 95) (dd bX13_pairs dX13_pairs_95) (by decide)).trans ?_
            refine (rg_isub (pc := 96) (dd bX13_pairs dX13_pairs_96) (p12 c1 c2 c7 c8 c9) (p13 c1 c2 c7 c8 c9)).trans ?_
            refine (rn_istore (pc := 97) (dd bX13_pairs dX13_pairs_97) (Nat.le_of_ble_eq_true rfl) rfl).trans ?_
            rfl
          · refine (rg_iinc (pc := 168) (dd bX13_pairs dX13_pairs_168) rfl (Nat.le_of_ble_eq_true rfl) (by have z0 := p2 c1; have z1 := p3 c1; omega) (by have z0 := p2 c1; have z1 := p3 c1; omega) rfl).trans ?_
            refine (rn_goto (t := 4) (pc := 171) (dd bX13_pairs dX13_pairs_171) rfl).trans ?_
            rfl
      · refine (rg_iinc (pc := 168) (dd bX13_pairs dX13_pairs_168) rfl (Nat.le_of_ble_eq_true rfl) (by have z0 := p2 c1; have z1 := p3 c1; omega) (by have z0 := p2 c1; have z1 := p3 c1; omega) rfl).trans ?_
        refine (rn_goto (t := 4) (pc := 171) (dd bX13_pairs dX13_pairs_171) rfl).trans ?_
        rfl
theorem rX13_pairs_99 {x1 : Int} {x2 : Int} {x3 : Int} {x4 : Int} {h : vH} (s1 : shModel h) (p2 : x4 < 0 → ¬ (x4 < 0) → 0 ≤ x3) (p3 : x4 < 0 → ¬ (x4 < 0) → x3 < 140) (p4 : x4 < 0 → ¬ (x4 < 0) → 0 ≤ h 2 325 x4) (p5 : x4 < 0 → ¬ (x4 < 0) → h 2 325 x4 < 140) (p6 : x4 < 0 → (-2147483648) ≤ x3 + 1) (p7 : x4 < 0 → x3 + 1 < 2147483648) (p8 : ¬ (x4 < 0) → x4 < 140) (p9 : ¬ (x4 < 0) → 0 ≤ h 2 325 x4) (p10 : ¬ (x4 < 0) → h 2 325 x4 < 140) (p11 : ¬ (x4 < 0) → 0 ≤ x3) (p12 : ¬ (x4 < 0) → x3 < 140) : vrun mX13_pairs 99 [(1, 282), (0, x1), (0, x2), (0, x3), (0, x4)] [] h = if x4 < 0 then vrun mX13_pairs 4 [(1, 282), (0, x1), (0, (if x4 < 0 then x2 else x4)), (0, x3 + 1), (0, x4)] [] (if x4 < 0 then h else vup (vup h 2 323 x3 (h 2 325 x4)) 2 323 (h 2 325 x4) x3) else if fX13_closing h (h 2 311 (h 2 325 x4)) = h 2 311 x3 then vrun mX13_pairs 4 [(1, 282), (0, x1), (0, (if x4 < 0 then x2 else x4)), (0, x3 + 1), (0, x4)] [] (if x4 < 0 then h else vup (vup h 2 323 x3 (h 2 325 x4)) 2 323 (h 2 325 x4) x3) else vrun mX13_pairs 99 [(1, 282), (0, x1), (0, x2), (0, x3), (0, x4 + (-1))] [] h := by
  refine (rn_iload (pc := 99) (dd bX13_pairs dX13_pairs_99) rfl).trans ?_
  refine (rn_if_lt (t := 134) (pc := 101) (dd bX13_pairs dX13_pairs_101) rfl).trans (itec (fun c1 => ?_) (fun c1 => ?_))
  · refine (rn_iload (pc := 134) (dd bX13_pairs dX13_pairs_134) rfl).trans ?_
    have e1 : vrun mX13_pairs 136 [(1, 282), (0, x1), (0, x2), (0, x3), (0, x4)] [(0, x4)] h = vrun mX13_pairs 168 [(1, 282), (0, x1), (0, (if x4 < 0 then x2 else x4)), (0, x3), (0, x4)] [] (if x4 < 0 then h else vup (vup h 2 323 x3 (h 2 325 x4)) 2 323 (h 2 325 x4) x3) := by
      refine (rn_if_lt (t := 168) (pc := 136) (dd bX13_pairs dX13_pairs_136) rfl).trans ?_
      by_cases c2 : x4 < 0
      · refine (if_pos c2).trans ?_
        refine Eq.trans (b := vrun mX13_pairs 168 [(1, 282), (0, x1), (0, x2), (0, x3), (0, x4)] [] h) rfl ?_
        simp only [if_pos c2]
      · refine (if_neg c2).trans ?_
        refine (rn_aload_n (pc := 139) (dd bX13_pairs dX13_pairs_139) rfl).trans ?_
        refine (rg_gf (pc := 140) (dd bX13_pairs dX13_pairs_140) (ci := 14) (j := 45) rfl rfl (key := 1545) rfl (kc := 34) rfl s1.1 s1.2.2.2.2.2.2.2.2.2.2.2.2.2.2.2.2.2.2.2.2.2.2.2.2.2.2.2.2.2.2.2.2.2.2.2.2.2.2.2.2.2.2.2.2.2.2.2.2.2.2.2.2.2.2.2.2.2.2.2.2.2.2.2.2.2.2.2.2.2.2.2.2.2.2.2.2.2.2.2.2.2.2.2.2.2.2.2.2.2.2.2.2.2.2.2.2.2.2.2.2.2.2.2.2.2.2.2.2.2.2.2.2.2.2.2.2.2.2.2.2.2.1).trans ?_
        refine (rn_iload_n (pc := 143) (dd bX13_pairs dX13_pairs_143) rfl).trans ?_
        refine (rn_aload_n (pc := 144) (dd bX13_pairs dX13_pairs_144) rfl).trans ?_
        refine (rg_gf (pc := 145) (dd bX13_pairs dX13_pairs_145) (ci := 14) (j := 47) rfl rfl (key := 1547) rfl (kc := 34) rfl s1.1 s1.2.2.2.2.2.2.2.2.2.2.2.2.2.2.2.2.2.2.2.2.2.2.2.2.2.2.2.2.2.2.2.2.2.2.2.2.2.2.2.2.2.2.2.2.2.2.2.2.2.2.2.2.2.2.2.2.2.2.2.2.2.2.2.2.2.2.2.2.2.2.2.2.2.2.2.2.2.2.2.2.2.2.2.2.2.2.2.2.2.2.2.2.2.2.2.2.2.2.2.2.2.2.2.2.2.2.2.2.2.2.2.2.2.2.2.2.2.2.2.2.2.2.2.2.2.2.2.1).trans ?_
        refine (rn_iload (pc := 148) (dd bX13_pairs dX13_pairs_148) rfl).trans ?_
        refine (rg_iaload (pc := 150) (dd bX13_pairs dX13_pairs_150) s1.2.2.2.2.2.2.2.2.2.2.2.2.2.2.2.2.2.2.2.2.2.2.2.2.2.2.2.2.2.2.2.2.2.2.2.2.2.2.2.2.2.2.2.2.2.2.2.2.2.2.2.2.2.2.2.2.2.2.2.2.2.2.2.2.2.2.2.2.2.2.2.2.2.2.2.2.2.2.2.2.2.2.2.2.2.2.2.2.2.2.2.2.2.2.2.2.2.2.2.2.2.2.2.2.2.2.2.2.2.2.2.2.2.2.2.2.2.2.2.2.2.2.2.2.2.2.2.2.1 s1.2.2.2.2.2.2.2.2.2.2.2.2.2.2.2.2.2.2.2.2.2.2.2.2.2.2.2.2.2.2.2.2.2.2.2.2.2.2.2.2.2.2.2.2.2.2.2.2.2.2.2.2.2.2.2.2.2.2.2.2.2.2.2.2.2.2.2.2.2.2.2.2.2.2.2.2.2.2.2.2.2.2.2.2.2.2.2.2.2.2.2.2.2.2.2.2.2.2.2.2.2.2.2.2.2.2.2.2.2.2.2.2.2.2.2.2.2.2.2.2.2.2.2.2.2.2.2.2.2.1 (Int.not_lt.mp c2) (by omega) rfl).trans ?_
        refine (rg_iastore (pc := 151) (dd bX13_pairs dX13_pairs_151) s1.2.2.2.2.2.2.2.2.2.2.2.2.2.2.2.2.2.2.2.2.2.2.2.2.2.2.2.2.2.2.2.2.2.2.2.2.2.2.2.2.2.2.2.2.2.2.2.2.2.2.2.2.2.2.2.2.2.2.2.2.2.2.2.2.2.2.2.2.2.2.2.2.2.2.2.2.2.2.2.2.2.2.2.2.2.2.2.2.2.2.2.2.2.2.2.2.2.2.2.2.2.2.2.2.2.2.2.2.2.2.2.2.2.2.2.2.2.2.2.2.2.2.1 s1.2.2.2.2.2.2.2.2.2.2.2.2.2.2.2.2.2.2.2.2.2.2.2.2.2.2.2.2.2.2.2.2.2.2.2.2.2.2.2.2.2.2.2.2.2.2.2.2.2.2.2.2.2.2.2.2.2.2.2.2.2.2.2.2.2.2.2.2.2.2.2.2.2.2.2.2.2.2.2.2.2.2.2.2.2.2.2.2.2.2.2.2.2.2.2.2.2.2.2.2.2.2.2.2.2.2.2.2.2.2.2.2.2.2.2.2.2.2.2.2.2.2.2.1 (p2 c1 c2) (p3 c1 c2)).trans ?_
        refine (rn_aload_n (pc := 152) (dd bX13_pairs dX13_pairs_152) rfl).trans ?_
        refine (rg_gf (pc := 153) (dd bX13_pairs dX13_pairs_153) (ci := 14) (j := 45) rfl rfl (key := 1545) rfl (kc := 34) rfl ((vup_k (by decide)).trans s1.1) ((vup_k (by decide)).trans s1.2.2.2.2.2.2.2.2.2.2.2.2.2.2.2.2.2.2.2.2.2.2.2.2.2.2.2.2.2.2.2.2.2.2.2.2.2.2.2.2.2.2.2.2.2.2.2.2.2.2.2.2.2.2.2.2.2.2.2.2.2.2.2.2.2.2.2.2.2.2.2.2.2.2.2.2.2.2.2.2.2.2.2.2.2.2.2.2.2.2.2.2.2.2.2.2.2.2.2.2.2.2.2.2.2.2.2.2.2.2.2.2.2.2.2.2.2.2.2.2.2.1)).trans ?_
        refine (rn_aload_n (pc := 156) (dd bX13_pairs dX13_pairs_156) rfl).trans ?_
        refine (rg_gf (pc := 157) (dd bX13_pairs dX13_pairs_157) (ci := 14) (j := 47) rfl rfl (key := 1547) rfl (kc := 34) rfl ((vup_k (by decide)).trans s1.1) ((vup_k (by decide)).trans s1.2.2.2.2.2.2.2.2.2.2.2.2.2.2.2.2.2.2.2.2.2.2.2.2.2.2.2.2.2.2.2.2.2.2.2.2.2.2.2.2.2.2.2.2.2.2.2.2.2.2.2.2.2.2.2.2.2.2.2.2.2.2.2.2.2.2.2.2.2.2.2.2.2.2.2.2.2.2.2.2.2.2.2.2.2.2.2.2.2.2.2.2.2.2.2.2.2.2.2.2.2.2.2.2.2.2.2.2.2.2.2.2.2.2.2.2.2.2.2.2.2.2.2.2.2.2.2.1)).trans ?_
        refine (rn_iload (pc := 160) (dd bX13_pairs dX13_pairs_160) rfl).trans ?_
        refine (rg_iaload (pc := 162) (dd bX13_pairs dX13_pairs_162) ((vup_k (by decide)).trans s1.2.2.2.2.2.2.2.2.2.2.2.2.2.2.2.2.2.2.2.2.2.2.2.2.2.2.2.2.2.2.2.2.2.2.2.2.2.2.2.2.2.2.2.2.2.2.2.2.2.2.2.2.2.2.2.2.2.2.2.2.2.2.2.2.2.2.2.2.2.2.2.2.2.2.2.2.2.2.2.2.2.2.2.2.2.2.2.2.2.2.2.2.2.2.2.2.2.2.2.2.2.2.2.2.2.2.2.2.2.2.2.2.2.2.2.2.2.2.2.2.2.2.2.2.2.2.2.2.1) ((vup_k (by decide)).trans s1.2.2.2.2.2.2.2.2.2.2.2.2.2.2.2.2.2.2.2.2.2.2.2.2.2.2.2.2.2.2.2.2.2.2.2.2.2.2.2.2.2.2.2.2.2.2.2.2.2.2.2.2.2.2.2.2.2.2.2.2.2.2.2.2.2.2.2.2.2.2.2.2.2.2.2.2.2.2.2.2.2.2.2.2.2.2.2.2.2.2.2.2.2.2.2.2.2.2.2.2.2.2.2.2.2.2.2.2.2.2.2.2.2.2.2.2.2.2.2.2.2.2.2.2.2.2.2.2.2.1) (Int.not_lt.mp c2) (by omega) ((vup_r (by omega)).trans rfl)).trans ?_
        refine (rn_iload_n (pc := 163) (dd bX13_pairs dX13_pairs_163) rfl).trans ?_
        refine (rg_iastore (pc := 164) (dd bX13_pairs dX13_pairs_164) ((vup_k (by decide)).trans s1.2.2.2.2.2.2.2.2.2.2.2.2.2.2.2.2.2.2.2.2.2.2.2.2.2.2.2.2.2.2.2.2.2.2.2.2.2.2.2.2.2.2.2.2.2.2.2.2.2.2.2.2.2.2.2.2.2.2.2.2.2.2.2.2.2.2.2.2.2.2.2.2.2.2.2.2.2.2.2.2.2.2.2.2.2.2.2.2.2.2.2.2.2.2.2.2.2.2.2.2.2.2.2.2.2.2.2.2.2.2.2.2.2.2.2.2.2.2.2.2.2.2.1) ((vup_k (by decide)).trans s1.2.2.2.2.2.2.2.2.2.2.2.2.2.2.2.2.2.2.2.2.2.2.2.2.2.2.2.2.2.2.2.2.2.2.2.2.2.2.2.2.2.2.2.2.2.2.2.2.2.2.2.2.2.2.2.2.2.2.2.2.2.2.2.2.2.2.2.2.2.2.2.2.2.2.2.2.2.2.2.2.2.2.2.2.2.2.2.2.2.2.2.2.2.2.2.2.2.2.2.2.2.2.2.2.2.2.2.2.2.2.2.2.2.2.2.2.2.2.2.2.2.2.2.1) (p4 c1 c2) (p5 c1 c2)).trans ?_
        refine (rn_iload (pc := 165) (dd bX13_pairs dX13_pairs_165) rfl).trans ?_
        refine (rn_istore_n (pc := 167) (dd bX13_pairs dX13_pairs_167) (Nat.le_of_ble_eq_true rfl) rfl).trans ?_
        refine Eq.trans (b := vrun mX13_pairs 168 [(1, 282), (0, x1), (0, x4), (0, x3), (0, x4)] [] (vup (vup h 2 323 x3 (h 2 325 x4)) 2 323 (h 2 325 x4) x3)) rfl ?_
        simp only [if_neg c2]
    refine e1.trans ?_
    refine (rg_iinc (pc := 168) (dd bX13_pairs dX13_pairs_168) rfl (Nat.le_of_ble_eq_true rfl) (p6 c1) (p7 c1) rfl).trans ?_
    refine (rn_goto (t := 4) (pc := 171) (dd bX13_pairs dX13_pairs_171) rfl).trans ?_
    rfl
  · refine (rn_aload_n (pc := 104) (dd bX13_pairs dX13_pairs_104) rfl).trans ?_
    refine (rg_gf (pc := 105) (dd bX13_pairs dX13_pairs_105) (ci := 14) (j := 30) rfl rfl (key := 1530) rfl (kc := 34) rfl s1.1 s1.2.2.2.2.2.2.2.2.2.2.2.2.2.2.2.2.2.2.2.2.2.2.2.2.2.2.2.2.2.2.2.2.2.2.2.2.2.2.2.2.2.2.2.2.2.2.2.2.2.2.2.2.2.2.2.2.2.2.2.2.2.2.2.2.2.2.2.2.2.2.2.2.2.2.2.2.2.2.2.2.2.2.2.2.2.1).trans ?_
    refine (rn_aload_n (pc := 108) (dd bX13_pairs dX13_pairs_108) rfl).trans ?_
    refine (rg_gf (pc := 109) (dd bX13_pairs dX13_pairs_109) (ci := 14) (j := 47) rfl rfl (key := 1547) rfl (kc := 34) rfl s1.1 s1.2.2.2.2.2.2.2.2.2.2.2.2.2.2.2.2.2.2.2.2.2.2.2.2.2.2.2.2.2.2.2.2.2.2.2.2.2.2.2.2.2.2.2.2.2.2.2.2.2.2.2.2.2.2.2.2.2.2.2.2.2.2.2.2.2.2.2.2.2.2.2.2.2.2.2.2.2.2.2.2.2.2.2.2.2.2.2.2.2.2.2.2.2.2.2.2.2.2.2.2.2.2.2.2.2.2.2.2.2.2.2.2.2.2.2.2.2.2.2.2.2.2.2.2.2.2.2.1).trans ?_
    refine (rn_iload (pc := 112) (dd bX13_pairs dX13_pairs_112) rfl).trans ?_
    refine (rg_iaload (pc := 114) (dd bX13_pairs dX13_pairs_114) s1.2.2.2.2.2.2.2.2.2.2.2.2.2.2.2.2.2.2.2.2.2.2.2.2.2.2.2.2.2.2.2.2.2.2.2.2.2.2.2.2.2.2.2.2.2.2.2.2.2.2.2.2.2.2.2.2.2.2.2.2.2.2.2.2.2.2.2.2.2.2.2.2.2.2.2.2.2.2.2.2.2.2.2.2.2.2.2.2.2.2.2.2.2.2.2.2.2.2.2.2.2.2.2.2.2.2.2.2.2.2.2.2.2.2.2.2.2.2.2.2.2.2.2.2.2.2.2.2.1 s1.2.2.2.2.2.2.2.2.2.2.2.2.2.2.2.2.2.2.2.2.2.2.2.2.2.2.2.2.2.2.2.2.2.2.2.2.2.2.2.2.2.2.2.2.2.2.2.2.2.2.2.2.2.2.2.2.2.2.2.2.2.2.2.2.2.2.2.2.2.2.2.2.2.2.2.2.2.2.2.2.2.2.2.2.2.2.2.2.2.2.2.2.2.2.2.2.2.2.2.2.2.2.2.2.2.2.2.2.2.2.2.2.2.2.2.2.2.2.2.2.2.2.2.2.2.2.2.2.2.1 (Int.not_lt.mp c1) (p8 c1) rfl).trans ?_
    refine (rg_iaload (pc := 115) (dd bX13_pairs dX13_pairs_115) s1.2.2.2.2.2.2.2.2.2.2.2.2.2.2.2.2.2.2.2.2.2.2.2.2.2.2.2.2.2.2.2.2.2.2.2.2.2.2.2.2.2.2.2.2.2.2.2.2.2.2.2.2.2.2.2.2.2.2.2.2.2.2.2.2.2.2.2.2.2.2.2.2.2.2.2.2.2.2.2.2.2.2.2.2.2.2.1 s1.2.2.2.2.2.2.2.2.2.2.2.2.2.2.2.2.2.2.2.2.2.2.2.2.2.2.2.2.2.2.2.2.2.2.2.2.2.2.2.2.2.2.2.2.2.2.2.2.2.2.2.2.2.2.2.2.2.2.2.2.2.2.2.2.2.2.2.2.2.2.2.2.2.2.2.2.2.2.2.2.2.2.2.2.2.2.2.1 (p9 c1) (p10 c1) rfl).trans ?_
    refine (rg_static (pc := 116) (dd bX13_pairs dX13_pairs_116) rfl (by decide) (Nat.le_of_ble_eq_true rfl) (as := [(0, h 2 311 (h 2 325 x4))]) rfl rfl ⟨Nat.le_of_ble_eq_true rfl, Nat.le_of_ble_eq_true rfl, Nat.le_of_ble_eq_true rfl, Nat.le_of_ble_eq_true rfl⟩).trans ?_
    refine (vret_v spX13_closing).trans ?_
    refine (rn_aload_n (pc := 119) (dd bX13_pairs dX13_pairs_119) rfl).trans ?_
    refine (rg_gf (pc := 120) (dd bX13_pairs dX13_pairs_120) (ci := 14) (j := 30) rfl rfl (key := 1530) rfl (kc := 34) rfl s1.1 s1.2.2.2.2.2.2.2.2.2.2.2.2.2.2.2.2.2.2.2.2.2.2.2.2.2.2.2.2.2.2.2.2.2.2.2.2.2.2.2.2.2.2.2.2.2.2.2.2.2.2.2.2.2.2.2.2.2.2.2.2.2.2.2.2.2.2.2.2.2.2.2.2.2.2.2.2.2.2.2.2.2.2.2.2.2.1).trans ?_
    refine (rn_iload_n (pc := 123) (dd bX13_pairs dX13_pairs_123) rfl).trans ?_
    refine (rg_iaload (pc := 124) (dd bX13_pairs dX13_pairs_124) s1.2.2.2.2.2.2.2.2.2.2.2.2.2.2.2.2.2.2.2.2.2.2.2.2.2.2.2.2.2.2.2.2.2.2.2.2.2.2.2.2.2.2.2.2.2.2.2.2.2.2.2.2.2.2.2.2.2.2.2.2.2.2.2.2.2.2.2.2.2.2.2.2.2.2.2.2.2.2.2.2.2.2.2.2.2.2.1 s1.2.2.2.2.2.2.2.2.2.2.2.2.2.2.2.2.2.2.2.2.2.2.2.2.2.2.2.2.2.2.2.2.2.2.2.2.2.2.2.2.2.2.2.2.2.2.2.2.2.2.2.2.2.2.2.2.2.2.2.2.2.2.2.2.2.2.2.2.2.2.2.2.2.2.2.2.2.2.2.2.2.2.2.2.2.2.2.1 (p11 c1) (p12 c1) rfl).trans ?_
    refine (rn_icmp_eq (t := 134) (pc := 125) (dd bX13_pairs dX13_pairs_125) rfl).trans (itec (fun c3 => ?_) (fun c3 => ?_))
    · refine (rn_iload (pc := 134) (dd bX13_pairs dX13_pairs_134) rfl).trans ?_
      have e2 : vrun mX13_pairs 136 [(1, 282), (0, x1), (0, x2), (0, x3), (0, x4)] [(0, x4)] h = vrun mX13_pairs 168 [(1, 282), (0, x1), (0, (if x4 < 0 then x2 else x4)), (0, x3), (0, x4)] [] (if x4 < 0 then h else vup (vup h 2 323 x3 (h 2 325 x4)) 2 323 (h 2 325 x4) x3) := by
        refine (rn_if_lt (t := 168) (pc := 136) (dd bX13_pairs dX13_pairs_136) rfl).trans ?_
        by_cases c4 : x4 < 0
        · refine (if_pos c4).trans ?_
          refine Eq.trans (b := vrun mX13_pairs 168 [(1, 282), (0, x1), (0, x2), (0, x3), (0, x4)] [] h) rfl ?_
          simp only [if_pos c4]
        · refine (if_neg c4).trans ?_
          refine (rn_aload_n (pc := 139) (dd bX13_pairs dX13_pairs_139) rfl).trans ?_
          refine (rg_gf (pc := 140) (dd bX13_pairs dX13_pairs_140) (ci := 14) (j := 45) rfl rfl (key := 1545) rfl (kc := 34) rfl s1.1 s1.2.2.2.2.2.2.2.2.2.2.2.2.2.2.2.2.2.2.2.2.2.2.2.2.2.2.2.2.2.2.2.2.2.2.2.2.2.2.2.2.2.2.2.2.2.2.2.2.2.2.2.2.2.2.2.2.2.2.2.2.2.2.2.2.2.2.2.2.2.2.2.2.2.2.2.2.2.2.2.2.2.2.2.2.2.2.2.2.2.2.2.2.2.2.2.2.2.2.2.2.2.2.2.2.2.2.2.2.2.2.2.2.2.2.2.2.2.2.2.2.2.1).trans ?_
          refine (rn_iload_n (pc := 143) (dd bX13_pairs dX13_pairs_143) rfl).trans ?_
          refine (rn_aload_n (pc := 144) (dd bX13_pairs dX13_pairs_144) rfl).trans ?_
          refine (rg_gf (pc := 145) (dd bX13_pairs dX13_pairs_145) (ci := 14) (j := 47) rfl rfl (key := 1547) rfl (kc := 34) rfl s1.1 s1.2.2.2.2.2.2.2.2.2.2.2.2.2.2.2.2.2.2.2.2.2.2.2.2.2.2.2.2.2.2.2.2.2.2.2.2.2.2.2.2.2.2.2.2.2.2.2.2.2.2.2.2.2.2.2.2.2.2.2.2.2.2.2.2.2.2.2.2.2.2.2.2.2.2.2.2.2.2.2.2.2.2.2.2.2.2.2.2.2.2.2.2.2.2.2.2.2.2.2.2.2.2.2.2.2.2.2.2.2.2.2.2.2.2.2.2.2.2.2.2.2.2.2.2.2.2.2.1).trans ?_
          refine (rn_iload (pc := 148) (dd bX13_pairs dX13_pairs_148) rfl).trans ?_
          refine (rg_iaload (pc := 150) (dd bX13_pairs dX13_pairs_150) s1.2.2.2.2.2.2.2.2.2.2.2.2.2.2.2.2.2.2.2.2.2.2.2.2.2.2.2.2.2.2.2.2.2.2.2.2.2.2.2.2.2.2.2.2.2.2.2.2.2.2.2.2.2.2.2.2.2.2.2.2.2.2.2.2.2.2.2.2.2.2.2.2.2.2.2.2.2.2.2.2.2.2.2.2.2.2.2.2.2.2.2.2.2.2.2.2.2.2.2.2.2.2.2.2.2.2.2.2.2.2.2.2.2.2.2.2.2.2.2.2.2.2.2.2.2.2.2.2.1 s1.2.2.2.2.2.2.2.2.2.2.2.2.2.2.2.2.2.2.2.2.2.2.2.2.2.2.2.2.2.2.2.2.2.2.2.2.2.2.2.2.2.2.2.2.2.2.2.2.2.2.2.2.2.2.2.2.2.2.2.2.2.2.2.2.2.2.2.2.2.2.2.2.2.2.2.2.2.2.2.2.2.2.2.2.2.2.2.2.2.2.2.2.2.2.2.2.2.2.2.2.2.2.2.2.2.2.2.2.2.2.2.2.2.2.2.2.2.2.2.2.2.2.2.2.2.2.2.2.2.1 (Int.not_lt.mp c1) (by have z0 := p8 c1; omega) rfl).trans ?_
          refine (rg_iastore (pc := 151) (dd bX13_pairs dX13_pairs_151) s1.2.2.2.2.2.2.2.2.2.2.2.2.2.2.2.2.2.2.2.2.2.2.2.2.2.2.2.2.2.2.2.2.2.2.2.2.2.2.2.2.2.2.2.2.2.2.2.2.2.2.2.2.2.2.2.2.2.2.2.2.2.2.2.2.2.2.2.2.2.2.2.2.2.2.2.2.2.2.2.2.2.2.2.2.2.2.2.2.2.2.2.2.2.2.2.2.2.2.2.2.2.2.2.2.2.2.2.2.2.2.2.2.2.2.2.2.2.2.2.2.2.2.1 s1.2.2.2.2.2.2.2.2.2.2.2.2.2.2.2.2.2.2.2.2.2.2.2.2.2.2.2.2.2.2.2.2.2.2.2.2.2.2.2.2.2.2.2.2.2.2.2.2.2.2.2.2.2.2.2.2.2.2.2.2.2.2.2.2.2.2.2.2.2.2.2.2.2.2.2.2.2.2.2.2.2.2.2.2.2.2.2.2.2.2.2.2.2.2.2.2.2.2.2.2.2.2.2.2.2.2.2.2.2.2.2.2.2.2.2.2.2.2.2.2.2.2.2.1 (by have z0 := p11 c1; have z1 := p12 c1; omega) (by have z0 := p11 c1; have z1 := p12 c1; omega)).trans ?_
          refine (rn_aload_n (pc := 152) (dd bX13_pairs dX13_pairs_152) rfl).trans ?_
          refine (rg_gf (pc := 153) (dd bX13_pairs dX13_pairs_153) (ci := 14) (j := 45) rfl rfl (key := 1545) rfl (kc := 34) rfl ((vup_k (by decide)).trans s1.1) ((vup_k (by decide)).trans s1.2.2.2.2.2.2.2.2.2.2.2.2.2.2.2.2.2.2.2.2.2.2.2.2.2.2.2.2.2.2.2.2.2.2.2.2.2.2.2.2.2.2.2.2.2.2.2.2.2.2.2.2.2.2.2.2.2.2.2.2.2.2.2.2.2.2.2.2.2.2.2.2.2.2.2.2.2.2.2.2.2.2.2.2.2.2.2.2.2.2.2.2.2.2.2.2.2.2.2.2.2.2.2.2.2.2.2.2.2.2.2.2.2.2.2.2.2.2.2.2.2.1)).trans ?_
          refine (rn_aload_n (pc := 156) (dd bX13_pairs dX13_pairs_156) rfl).trans ?_
          refine (rg_gf (pc := 157) (dd bX13_pairs dX13_pairs_157) (ci := 14) (j := 47) rfl rfl (key := 1547) rfl (kc := 34) rfl ((vup_k (by decide)).trans s1.1) ((vup_k (by decide)).trans s1.2.2.2.2.2.2.2.2.2.2.2.2.2.2.2.2.2.2.2.2.2.2.2.2.2.2.2.2.2.2.2.2.2.2.2.2.2.2.2.2.2.2.2.2.2.2.2.2.2.2.2.2.2.2.2.2.2.2.2.2.2.2.2.2.2.2.2.2.2.2.2.2.2.2.2.2.2.2.2.2.2.2.2.2.2.2.2.2.2.2.2.2.2.2.2.2.2.2.2.2.2.2.2.2.2.2.2.2.2.2.2.2.2.2.2.2.2.2.2.2.2.2.2.2.2.2.2.1)).trans ?_
          refine (rn_iload (pc := 160) (dd bX13_pairs dX13_pairs_160) rfl).trans ?_
          refine (rg_iaload (pc := 162) (dd bX13_pairs dX13_pairs_162) ((vup_k (by decide)).trans s1.2.2.2.2.2.2.2.2.2.2.2.2.2.2.2.2.2.2.2.2.2.2.2.2.2.2.2.2.2.2.2.2.2.2.2.2.2.2.2.2.2.2.2.2.2.2.2.2.2.2.2.2.2.2.2.2.2.2.2.2.2.2.2.2.2.2.2.2.2.2.2.2.2.2.2.2.2.2.2.2.2.2.2.2.2.2.2.2.2.2.2.2.2.2.2.2.2.2.2.2.2.2.2.2.2.2.2.2.2.2.2.2.2.2.2.2.2.2.2.2.2.2.2.2.2.2.2.2.1) ((vup_k (by decide)).trans s1.2.2.2.2.2.2.2.2.2.2.2.2.2.2.2.2.2.2.2.2.2.2.2.2.2.2.2.2.2.2.2.2.2.2.2.2.2.2.2.2.2.2.2.2.2.2.2.2.2.2.2.2.2.2.2.2.2.2.2.2.2.2.2.2.2.2.2.2.2.2.2.2.2.2.2.2.2.2.2.2.2.2.2.2.2.2.2.2.2.2.2.2.2.2.2.2.2.2.2.2.2.2.2.2.2.2.2.2.2.2.2.2.2.2.2.2.2.2.2.2.2.2.2.2.2.2.2.2.2.1) (Int.not_lt.mp c1) (by have z0 := p8 c1; omega) ((vup_r (by omega)).trans rfl)).trans ?_
          refine (rn_iload_n (pc := 163) (dd bX13_pairs dX13_pairs_163) rfl).trans ?_
          refine (rg_iastore (pc := 164) (dd bX13_pairs dX13_pairs_164) ((vup_k (by decide)).trans s1.2.2.2.2.2.2.2.2.2.2.2.2.2.2.2.2.2.2.2.2.2.2.2.2.2.2.2.2.2.2.2.2.2.2.2.2.2.2.2.2.2.2.2.2.2.2.2.2.2.2.2.2.2.2.2.2.2.2.2.2.2.2.2.2.2.2.2.2.2.2.2.2.2.2.2.2.2.2.2.2.2.2.2.2.2.2.2.2.2.2.2.2.2.2.2.2.2.2.2.2.2.2.2.2.2.2.2.2.2.2.2.2.2.2.2.2.2.2.2.2.2.2.1) ((vup_k (by decide)).trans s1.2.2.2.2.2.2.2.2.2.2.2.2.2.2.2.2.2.2.2.2.2.2.2.2.2.2.2.2.2.2.2.2.2.2.2.2.2.2.2.2.2.2.2.2.2.2.2.2.2.2.2.2.2.2.2.2.2.2.2.2.2.2.2.2.2.2.2.2.2.2.2.2.2.2.2.2.2.2.2.2.2.2.2.2.2.2.2.2.2.2.2.2.2.2.2.2.2.2.2.2.2.2.2.2.2.2.2.2.2.2.2.2.2.2.2.2.2.2.2.2.2.2.2.1) (by have z0 := p9 c1; have z1 := p10 c1; omega) (by have z0 := p9 c1; have z1 := p10 c1; omega)).trans ?_
          refine (rn_iload (pc := 165) (dd bX13_pairs dX13_pairs_165) rfl).trans ?_
          refine (rn_istore_n (pc := 167) (dd bX13_pairs dX13_pairs_167) (Nat.le_of_ble_eq_true rfl) rfl).trans ?_
          refine Eq.trans (b := vrun mX13_pairs 168 [(1, 282), (0, x1), (0, x4), (0, x3), (0, x4)] [] (vup (vup h 2 323 x3 (h 2 325 x4)) 2 323 (h 2 325 x4) x3)) rfl ?_
          simp only [if_neg c4]
      refine e2.trans ?_
      refine (rg_iinc (pc := 168) (dd bX13_pairs dX13_pairs_168) rfl (Nat.le_of_ble_eq_true rfl) (by have z0 := p11 c1; have z1 := p12 c1; omega) (by have z0 := p11 c1; have z1 := p12 c1; omega) rfl).trans ?_
      refine (rn_goto (t := 4) (pc := 171) (dd bX13_pairs dX13_pairs_171) rfl).trans ?_
      rfl
    · refine (rg_iinc (pc := 128) (dd bX13_pairs dX13_pairs_128) rfl (Nat.le_of_ble_eq_true rfl) (by have z0 := p8 c1; omega) (by have z0 := p8 c1; omega) rfl).trans ?_
      refine (rn_goto (t := 99) (pc := 131) (dd bX13_pairs dX13_pairs_131) rfl).trans ?_
      rfl
theorem bX13_isFigure : vmB mX13_isFigure = cX13_isFigure := rfl
theorem rX13_isFigure_0 {x0 : Int} {h : vH} : vrun mX13_isFigure 0 [(0, x0)] [] h = some (.inl (some (0, (if ¬ (x0 < 48) ∧ ¬ (57 < x0) then 1 else 0))), h) := by
  refine (rn_iload_n (pc := 0) (dd bX13_isFigure dX13_isFigure_0) rfl).trans ?_
  refine (rn_bipush (pc := 1) (dd bX13_isFigure dX13_isFigure_1) (by decide)).trans ?_
  refine (rn_bipush (pc := 3) (dd bX13_isFigure dX13_isFigure_3) (by decide)).trans ?_
  refine (rg_static (pc := 5) (dd bX13_isFigure dX13_isFigure_5) rfl (by decide) (Nat.le_of_ble_eq_true rfl) (as := [(0, x0), (0, 48), (0, 57)]) rfl rfl ⟨Nat.le_of_ble_eq_true rfl, Nat.le_of_ble_eq_true rfl, Nat.le_of_ble_eq_true rfl, Nat.le_of_ble_eq_true rfl⟩).trans ?_
  refine (vret_v spX13_isIn).trans ?_
  exact rn_ireturn (pc := 8) (dd bX13_isFigure dX13_isFigure_8) (Or.inr ⟨rfl, b01⟩)
theorem spX13_isFigure {x0 : Int} {h : vH} : vcl mX13_isFigure [(0, x0)] h = some (.inl (some (0, (if ¬ (x0 < 48) ∧ ¬ (57 < x0) then 1 else 0))), h) := by
  refine (show _ = _ from rX13_isFigure_0).trans ?_
  rfl
theorem bX13_strong : vmB mX13_strong = cX13_strong := rfl
theorem rX13_strong_0 {x1 : Int} {x2 : Int} {h : vH} : vrun mX13_strong 0 [(1, 282), (0, x1), (0, x2), (9, 0), (9, 0), (9, 0)] [] h = vrun mX13_strong 5 [(1, 282), (0, x1), (0, x2), (0, x2), (0, 0), (9, 0)] [] h := by
  refine (rn_iload_n (pc := 0) (dd bX13_strong dX13_strong_0) rfl).trans ?_
  refine (rn_istore_n (pc := 1) (dd bX13_strong dX13_strong_1) (Nat.le_of_ble_eq_true rfl) rfl).trans ?_
  refine (rn_iconst (pc := 2) (dd bX13_strong dX13_strong_2) (by decide)).trans ?_
  refine (rn_istore (pc := 3) (dd bX13_strong dX13_strong_3) (Nat.le_of_ble_eq_true rfl) rfl).trans ?_
  rfl
theorem rX13_strong_5 {x1 : Int} {x2 : Int} {x3 : Int} {x4 : Int} {v5 : vv} {h : vH} (s1 : shModel h) (p2 : ¬ (h 1540 282 0 ≤ x4) → 0 ≤ x4) (p3 : ¬ (h 1540 282 0 ≤ x4) → x4 < 140) : vrun mX13_strong 5 [(1, 282), (0, x1), (0, x2), (0, x3), (0, x4), v5] [] h = if h 1540 282 0 ≤ x4 then some (.inl none, h) else vrun mX13_strong 5 [(1, 282), (0, x1), (0, x2), (0, (if h 2 322 x4 = x1 then (if ¬ (fX13_isLeft h (h 2 311 x4) = 0) ∨ ¬ (fX13_isRight h (h 2 311 x4) = 0) then (if ¬ (fX13_isRight h (h 2 311 x4) = 0) then 1 else 0) else x3) else x3)), (0, x4 + 1), (if h 2 322 x4 = x1 then (0, (if ¬ (fX13_isLeft h (h 2 311 x4) = 0) ∨ ¬ (fX13_isRight h (h 2 311 x4) = 0) then 1 else 0)) else v5)] [] (if h 2 322 x4 = x1 then vup h 2 321 x4 (if ¬ (fX13_isLeft h (h 2 311 x4) = 0) ∨ ¬ (fX13_isRight h (h 2 311 x4) = 0) then (if ¬ (fX13_isLeft h (h 2 311 x4) = 0) ∨ ¬ (fX13_isRight h (h 2 311 x4) = 0) then (if ¬ (fX13_isRight h (h 2 311 x4) = 0) then 1 else 0) else x3) else (if ¬ (h 2 311 x4 < 48) ∧ ¬ (57 < h 2 311 x4) then (if ¬ (fX13_isLeft h (h 2 311 x4) = 0) ∨ ¬ (fX13_isRight h (h 2 311 x4) = 0) then (if ¬ (fX13_isRight h (h 2 311 x4) = 0) then 1 else 0) else x3) else (-1))) else h) := by
  refine (rn_iload (pc := 5) (dd bX13_strong dX13_strong_5) rfl).trans ?_
  refine (rn_aload_n (pc := 7) (dd bX13_strong dX13_strong_7) rfl).trans ?_
  refine (rg_gf (pc := 8) (dd bX13_strong dX13_strong_8) (ci := 14) (j := 40) rfl rfl (key := 1540) rfl (kc := 34) rfl s1.1 rfl).trans ?_
  refine (rn_icmp_ge (t := 122) (pc := 11) (dd bX13_strong dX13_strong_11) rfl).trans (itec (fun c1 => ?_) (fun c1 => ?_))
  · exact rn_return (pc := 122) (dd bX13_strong dX13_strong_122) rfl
  · refine (rn_aload_n (pc := 14) (dd bX13_strong dX13_strong_14) rfl).trans ?_
    refine (rg_gf (pc := 15) (dd bX13_strong dX13_strong_15) (ci := 14) (j := 44) rfl rfl (key := 1544) rfl (kc := 34) rfl s1.1 s1.2.2.2.2.2.2.2.2.2.2.2.2.2.2.2.2.2.2.2.2.2.2.2.2.2.2.2.2.2.2.2.2.2.2.2.2.2.2.2.2.2.2.2.2.2.2.2.2.2.2.2.2.2.2.2.2.2.2.2.2.2.2.2.2.2.2.2.2.2.2.2.2.2.2.2.2.2.2.2.2.2.2.2.2.2.2.2.2.2.2.2.2.2.2.2.2.2.2.2.2.2.2.2.2.2.2.2.2.2.2.2.2.2.2.2.2.2.2.1).trans ?_
    refine (rn_iload (pc := 18) (dd bX13_strong dX13_strong_18) rfl).trans ?_
    refine (rg_iaload (pc := 20) (dd bX13_strong dX13_strong_20) s1.2.2.2.2.2.2.2.2.2.2.2.2.2.2.2.2.2.2.2.2.2.2.2.2.2.2.2.2.2.2.2.2.2.2.2.2.2.2.2.2.2.2.2.2.2.2.2.2.2.2.2.2.2.2.2.2.2.2.2.2.2.2.2.2.2.2.2.2.2.2.2.2.2.2.2.2.2.2.2.2.2.2.2.2.2.2.2.2.2.2.2.2.2.2.2.2.2.2.2.2.2.2.2.2.2.2.2.2.2.2.2.2.2.2.2.2.2.2.2.1 s1.2.2.2.2.2.2.2.2.2.2.2.2.2.2.2.2.2.2.2.2.2.2.2.2.2.2.2.2.2.2.2.2.2.2.2.2.2.2.2.2.2.2.2.2.2.2.2.2.2.2.2.2.2.2.2.2.2.2.2.2.2.2.2.2.2.2.2.2.2.2.2.2.2.2.2.2.2.2.2.2.2.2.2.2.2.2.2.2.2.2.2.2.2.2.2.2.2.2.2.2.2.2.2.2.2.2.2.2.2.2.2.2.2.2.2.2.2.2.2.2.1 (p2 c1) (p3 c1) rfl).trans ?_
    refine (rn_iload_n (pc := 21) (dd bX13_strong dX13_strong_21) rfl).trans ?_
    have e7 : vrun mX13_strong 22 [(1, 282), (0, x1), (0, x2), (0, x3), (0, x4), v5] [(0, x1), (0, h 2 322 x4)] h = vrun mX13_strong 116 [(1, 282), (0, x1), (0, x2), (0, (if h 2 322 x4 = x1 then (if ¬ (fX13_isLeft h (h 2 311 x4) = 0) ∨ ¬ (fX13_isRight h (h 2 311 x4) = 0) then (if ¬ (fX13_isRight h (h 2 311 x4) = 0) then 1 else 0) else x3) else x3)), (0, x4), (if h 2 322 x4 = x1 then (0, (if ¬ (fX13_isLeft h (h 2 311 x4) = 0) ∨ ¬ (fX13_isRight h (h 2 311 x4) = 0) then 1 else 0)) else v5)] [] (if h 2 322 x4 = x1 then vup h 2 321 x4 (if ¬ (fX13_isLeft h (h 2 311 x4) = 0) ∨ ¬ (fX13_isRight h (h 2 311 x4) = 0) then (if ¬ (fX13_isLeft h (h 2 311 x4) = 0) ∨ ¬ (fX13_isRight h (h 2 311 x4) = 0) then (if ¬ (fX13_isRight h (h 2 311 x4) = 0) then 1 else 0) else x3) else (if ¬ (h 2 311 x4 < 48) ∧ ¬ (57 < h 2 311 x4) then (if ¬ (fX13_isLeft h (h 2 311 x4) = 0) ∨ ¬ (fX13_isRight h (h 2 311 x4) = 0) then (if ¬ (fX13_isRight h (h 2 311 x4) = 0) then 1 else 0) else x3) else (-1))) else h) := by
      refine (rg_icmp_ne (t := 116) (pc := 22) (dd bX13_strong dX13_strong_22) rfl).trans ?_
      by_cases c2 : h 2 322 x4 = x1
      · refine (if_pos c2).trans ?_
        refine (rn_aload_n (pc := 25) (dd bX13_strong dX13_strong_25) rfl).trans ?_
        refine (rg_gf (pc := 26) (dd bX13_strong dX13_strong_26) (ci := 14) (j := 30) rfl rfl (key := 1530) rfl (kc := 34) rfl s1.1 s1.2.2.2.2.2.2.2.2.2.2.2.2.2.2.2.2.2.2.2.2.2.2.2.2.2.2.2.2.2.2.2.2.2.2.2.2.2.2.2.2.2.2.2.2.2.2.2.2.2.2.2.2.2.2.2.2.2.2.2.2.2.2.2.2.2.2.2.2.2.2.2.2.2.2.2.2.2.2.2.2.2.2.2.2.2.1).trans ?_
        refine (rn_iload (pc := 29) (dd bX13_strong dX13_strong_29) rfl).trans ?_
        refine (rg_iaload (pc := 31) (dd bX13_strong dX13_strong_31) s1.2.2.2.2.2.2.2.2.2.2.2.2.2.2.2.2.2.2.2.2.2.2.2.2.2.2.2.2.2.2.2.2.2.2.2.2.2.2.2.2.2.2.2.2.2.2.2.2.2.2.2.2.2.2.2.2.2.2.2.2.2.2.2.2.2.2.2.2.2.2.2.2.2.2.2.2.2.2.2.2.2.2.2.2.2.2.1 s1.2.2.2.2.2.2.2.2.2.2.2.2.2.2.2.2.2.2.2.2.2.2.2.2.2.2.2.2.2.2.2.2.2.2.2.2.2.2.2.2.2.2.2.2.2.2.2.2.2.2.2.2.2.2.2.2.2.2.2.2.2.2.2.2.2.2.2.2.2.2.2.2.2.2.2.2.2.2.2.2.2.2.2.2.2.2.2.1 (by have z0 := p2 c1; have z1 := p3 c1; omega) (by have z0 := p2 c1; have z1 := p3 c1; omega) rfl).trans ?_
        refine (rg_static (pc := 32) (dd bX13_strong dX13_strong_32) rfl (by decide) (Nat.le_of_ble_eq_true rfl) (as := [(0, h 2 311 x4)]) rfl rfl ⟨Nat.le_of_ble_eq_true rfl, Nat.le_of_ble_eq_true rfl, Nat.le_of_ble_eq_true rfl, Nat.le_of_ble_eq_true rfl⟩).trans ?_
        refine (vret_v spX13_isLeft).trans ?_
        have e2 : vrun mX13_strong 35 [(1, 282), (0, x1), (0, x2), (0, x3), (0, x4), v5] [(0, fX13_isLeft h (h 2 311 x4))] h = vrun mX13_strong 56 [(1, 282), (0, x1), (0, x2), (0, x3), (0, x4), v5] [(0, (if ¬ (fX13_isLeft h (h 2 311 x4) = 0) ∨ ¬ (fX13_isRight h (h 2 311 x4) = 0) then 1 else 0))] h := by
          refine (rg_if_ne (t := 51) (pc := 35) (dd bX13_strong dX13_strong_35) rfl).trans ?_
          by_cases c3 : fX13_isLeft h (h 2 311 x4) = 0
          · refine (if_pos c3).trans ?_
            refine (rn_aload_n (pc := 38) (dd bX13_strong dX13_strong_38) rfl).trans ?_
            refine (rg_gf (pc := 39) (dd bX13_strong dX13_strong_39) (ci := 14) (j := 30) rfl rfl (key := 1530) rfl (kc := 34) rfl s1.1 s1.2.2.2.2.2.2.2.2.2.2.2.2.2.2.2.2.2.2.2.2.2.2.2.2.2.2.2.2.2.2.2.2.2.2.2.2.2.2.2.2.2.2.2.2.2.2.2.2.2.2.2.2.2.2.2.2.2.2.2.2.2.2.2.2.2.2.2.2.2.2.2.2.2.2.2.2.2.2.2.2.2.2.2.2.2.1).trans ?_
            refine (rn_iload (pc := 42) (dd bX13_strong dX13_strong_42) rfl).trans ?_
            refine (rg_iaload (pc := 44) (dd bX13_strong dX13_strong_44) s1.2.2.2.2.2.2.2.2.2.2.2.2.2.2.2.2.2.2.2.2.2.2.2.2.2.2.2.2.2.2.2.2.2.2.2.2.2.2.2.2.2.2.2.2.2.2.2.2.2.2.2.2.2.2.2.2.2.2.2.2.2.2.2.2.2.2.2.2.2.2.2.2.2.2.2.2.2.2.2.2.2.2.2.2.2.2.1 s1.2.2.2.2.2.2.2.2.2.2.2.2.2.2.2.2.2.2.2.2.2.2.2.2.2.2.2.2.2.2.2.2.2.2.2.2.2.2.2.2.2.2.2.2.2.2.2.2.2.2.2.2.2.2.2.2.2.2.2.2.2.2.2.2.2.2.2.2.2.2.2.2.2.2.2.2.2.2.2.2.2.2.2.2.2.2.2.1 (by have z0 := p2 c1; have z1 := p3 c1; omega) (by have z0 := p2 c1; have z1 := p3 c1; omega) rfl).trans ?_
            refine (rg_static (pc := 45) (dd bX13_strong dX13_strong_45) rfl (by decide) (Nat.le_of_ble_eq_true rfl) (as := [(0, h 2 311 x4)]) rfl rfl ⟨Nat.le_of_ble_eq_true rfl, Nat.le_of_ble_eq_true rfl, Nat.le_of_ble_eq_true rfl, Nat.le_of_ble_eq_true rfl⟩).trans ?_
            refine (vret_v spX13_isRight).trans ?_
            have e1 : vrun mX13_strong 48 [(1, 282), (0, x1), (0, x2), (0, x3), (0, x4), v5] [(0, fX13_isRight h (h 2 311 x4))] h = vrun mX13_strong 56 [(1, 282), (0, x1), (0, x2), (0, x3), (0, x4), v5] [(0, (if ¬ (fX13_isRight h (h 2 311 x4) = 0) then 1 else 0))] h := by
              refine (rn_if_eq (t := 55) (pc := 48) (dd bX13_strong dX13_strong_48) rfl).trans ?_
              by_cases c4 : fX13_isRight h (h 2 311 x4) = 0
              · refine (if_pos c4).trans ?_
                refine (rn_iconst (pc := 55) (dd bX13_strong dX13_strong_55) (by decide)).trans ?_
                refine Eq.trans (b := vrun mX13_strong 56 [(1, 282), (0, x1), (0, x2), (0, x3), (0, x4), v5] [(0, 0)] h) rfl ?_
                simp only [c4, true_or, false_or, or_true, or_false, true_and, false_and, and_true, and_false, not_true_eq_false, not_false_eq_true, ne_eq, if_true, if_false, ↓reduceIte]
              · refine (if_neg c4).trans ?_
                refine (rn_iconst (pc := 51) (dd bX13_strong dX13_strong_51) (by decide)).trans ?_
                refine (rn_goto (t := 56) (pc := 52) (dd bX13_strong dX13_strong_52) rfl).trans ?_
                refine Eq.trans (b := vrun mX13_strong 56 [(1, 282), (0, x1), (0, x2), (0, x3), (0, x4), v5] [(0, 1)] h) rfl ?_
                simp only [c4, true_or, false_or, or_true, or_false, true_and, false_and, and_true, and_false, not_true_eq_false, not_false_eq_true, ne_eq, if_true, if_false, ↓reduceIte]
            refine e1.trans ?_
            refine Eq.trans (b := vrun mX13_strong 56 [(1, 282), (0, x1), (0, x2), (0, x3), (0, x4), v5] [(0, (if ¬ (fX13_isRight h (h 2 311 x4) = 0) then 1 else 0))] h) rfl ?_
            simp only [c3, true_or, false_or, or_true, or_false, true_and, false_and, and_true, and_false, not_true_eq_false, not_false_eq_true, ne_eq, if_true, if_false, ↓reduceIte]
          · refine (if_neg c3).trans ?_
            refine (rn_iconst (pc := 51) (dd bX13_strong dX13_strong_51) (by decide)).trans ?_
            refine (rn_goto (t := 56) (pc := 52) (dd bX13_strong dX13_strong_52) rfl).trans ?_
            refine Eq.trans (b := vrun mX13_strong 56 [(1, 282), (0, x1), (0, x2), (0, x3), (0, x4), v5] [(0, 1)] h) rfl ?_
            simp only [c3, true_or, false_or, or_true, or_false, true_and, false_and, and_true, and_false, not_true_eq_false, not_false_eq_true, ne_eq, if_true, if_false, ↓reduceIte]
        refine e2.trans ?_
        refine (rn_istore (pc := 56) (dd bX13_strong dX13_strong_56) (Nat.le_of_ble_eq_true rfl) rfl).trans ?_
        refine (rn_iload (pc := 58) (dd bX13_strong dX13_strong_58) rfl).trans ?_
        have e4 : vrun mX13_strong 60 [(1, 282), (0, x1), (0, x2), (0, x3), (0, x4), (0, (if ¬ (fX13_isLeft h (h 2 311 x4) = 0) ∨ ¬ (fX13_isRight h (h 2 311 x4) = 0) then 1 else 0))] [(0, (if ¬ (fX13_isLeft h (h 2 311 x4) = 0) ∨ ¬ (fX13_isRight h (h 2 311 x4) = 0) then 1 else 0))] h = vrun mX13_strong 85 [(1, 282), (0, x1), (0, x2), (0, x3), (0, x4), (0, (if ¬ (fX13_isLeft h (h 2 311 x4) = 0) ∨ ¬ (fX13_isRight h (h 2 311 x4) = 0) then 1 else 0))] [(0, (if ¬ (fX13_isLeft h (h 2 311 x4) = 0) ∨ ¬ (fX13_isRight h (h 2 311 x4) = 0) then (if ¬ (fX13_isRight h (h 2 311 x4) = 0) then 1 else 0) else x3))] h := by
          refine (rg_beq (t := 84) (pc := 60) (dd bX13_strong dX13_strong_60) rfl).trans ?_
          by_cases c5 : ¬ (fX13_isLeft h (h 2 311 x4) = 0) ∨ ¬ (fX13_isRight h (h 2 311 x4) = 0)
          · refine (if_pos c5).trans ?_
            refine (rn_aload_n (pc := 63) (dd bX13_strong dX13_strong_63) rfl).trans ?_
            refine (rg_gf (pc := 64) (dd bX13_strong dX13_strong_64) (ci := 14) (j := 30) rfl rfl (key := 1530) rfl (kc := 34) rfl s1.1 s1.2.2.2.2.2.2.2.2.2.2.2.2.2.2.2.2.2.2.2.2.2.2.2.2.2.2.2.2.2.2.2.2.2.2.2.2.2.2.2.2.2.2.2.2.2.2.2.2.2.2.2.2.2.2.2.2.2.2.2.2.2.2.2.2.2.2.2.2.2.2.2.2.2.2.2.2.2.2.2.2.2.2.2.2.2.1).trans ?_
            refine (rn_iload (pc := 67) (dd bX13_strong dX13_strong_67) rfl).trans ?_
            refine (rg_iaload (pc := 69) (dd bX13_strong dX13_strong_69) s1.2.2.2.2.2.2.2.2.2.2.2.2.2.2.2.2.2.2.2.2.2.2.2.2.2.2.2.2.2.2.2.2.2.2.2.2.2.2.2.2.2.2.2.2.2.2.2.2.2.2.2.2.2.2.2.2.2.2.2.2.2.2.2.2.2.2.2.2.2.2.2.2.2.2.2.2.2.2.2.2.2.2.2.2.2.2.1 s1.2.2.2.2.2.2.2.2.2.2.2.2.2.2.2.2.2.2.2.2.2.2.2.2.2.2.2.2.2.2.2.2.2.2.2.2.2.2.2.2.2.2.2.2.2.2.2.2.2.2.2.2.2.2.2.2.2.2.2.2.2.2.2.2.2.2.2.2.2.2.2.2.2.2.2.2.2.2.2.2.2.2.2.2.2.2.2.1 (by have z0 := p2 c1; have z1 := p3 c1; omega) (by have z0 := p2 c1; have z1 := p3 c1; omega) rfl).trans ?_
            refine (rg_static (pc := 70) (dd bX13_strong dX13_strong_70) rfl (by decide) (Nat.le_of_ble_eq_true rfl) (as := [(0, h 2 311 x4)]) rfl rfl ⟨Nat.le_of_ble_eq_true rfl, Nat.le_of_ble_eq_true rfl, Nat.le_of_ble_eq_true rfl, Nat.le_of_ble_eq_true rfl⟩).trans ?_
            refine (vret_v spX13_isRight).trans ?_
            have e3 : vrun mX13_strong 73 [(1, 282), (0, x1), (0, x2), (0, x3), (0, x4), (0, (if ¬ (fX13_isLeft h (h 2 311 x4) = 0) ∨ ¬ (fX13_isRight h (h 2 311 x4) = 0) then 1 else 0))] [(0, fX13_isRight h (h 2 311 x4))] h = vrun mX13_strong 85 [(1, 282), (0, x1), (0, x2), (0, x3), (0, x4), (0, (if ¬ (fX13_isLeft h (h 2 311 x4) = 0) ∨ ¬ (fX13_isRight h (h 2 311 x4) = 0) then 1 else 0))] [(0, (if ¬ (fX13_isRight h (h 2 311 x4) = 0) then 1 else 0))] h := by
              refine (rn_if_eq (t := 80) (pc := 73) (dd bX13_strong dX13_strong_73) rfl).trans ?_
              by_cases c6 : fX13_isRight h (h 2 311 x4) = 0
              · refine (if_pos c6).trans ?_
                refine (rn_iconst (pc := 80) (dd bX13_strong dX13_strong_80) (by decide)).trans ?_
                refine (rn_goto (t := 85) (pc := 81) (dd bX13_strong dX13_strong_81) rfl).trans ?_
                refine Eq.trans (b := vrun mX13_strong 85 [(1, 282), (0, x1), (0, x2), (0, x3), (0, x4), (0, (if ¬ (fX13_isLeft h (h 2 311 x4) = 0) ∨ ¬ (fX13_isRight h (h 2 311 x4) = 0) then 1 else 0))] [(0, 0)] h) rfl ?_
                simp only [c6, true_or, false_or, or_true, or_false, true_and, false_and, and_true, and_false, not_true_eq_false, not_false_eq_true, ne_eq, if_true, if_false, ↓reduceIte]
              · refine (if_neg c6).trans ?_
                refine (rn_iconst (pc := 76) (dd bX13_strong dX13_strong_76) (by decide)).trans ?_
                refine (rn_goto (t := 85) (pc := 77) (dd bX13_strong dX13_strong_77) rfl).trans ?_
                refine Eq.trans (b := vrun mX13_strong 85 [(1, 282), (0, x1), (0, x2), (0, x3), (0, x4), (0, (if ¬ (fX13_isLeft h (h 2 311 x4) = 0) ∨ ¬ (fX13_isRight h (h 2 311 x4) = 0) then 1 else 0))] [(0, 1)] h) rfl ?_
                simp only [c6, true_or, false_or, or_true, or_false, true_and, false_and, and_true, and_false, not_true_eq_false, not_false_eq_true, ne_eq, if_true, if_false, ↓reduceIte]
            refine e3.trans ?_
            refine Eq.trans (b := vrun mX13_strong 85 [(1, 282), (0, x1), (0, x2), (0, x3), (0, x4), (0, (if ¬ (fX13_isLeft h (h 2 311 x4) = 0) ∨ ¬ (fX13_isRight h (h 2 311 x4) = 0) then 1 else 0))] [(0, (if ¬ (fX13_isRight h (h 2 311 x4) = 0) then 1 else 0))] h) rfl ?_
            simp only [if_pos c5]
          · refine (if_neg c5).trans ?_
            refine (rn_iload_n (pc := 84) (dd bX13_strong dX13_strong_84) rfl).trans ?_
            refine Eq.trans (b := vrun mX13_strong 85 [(1, 282), (0, x1), (0, x2), (0, x3), (0, x4), (0, (if ¬ (fX13_isLeft h (h 2 311 x4) = 0) ∨ ¬ (fX13_isRight h (h 2 311 x4) = 0) then 1 else 0))] [(0, x3)] h) rfl ?_
            simp only [if_neg c5]
        refine e4.trans ?_
        refine (rn_istore_n (pc := 85) (dd bX13_strong dX13_strong_85) (Nat.le_of_ble_eq_true rfl) rfl).trans ?_
        refine (rn_aload_n (pc := 86) (dd bX13_strong dX13_strong_86) rfl).trans ?_
        refine (rg_gf (pc := 87) (dd bX13_strong dX13_strong_87) (ci := 14) (j := 43) rfl rfl (key := 1543) rfl (kc := 34) rfl s1.1 s1.2.2.2.2.2.2.2.2.2.2.2.2.2.2.2.2.2.2.2.2.2.2.2.2.2.2.2.2.2.2.2.2.2.2.2.2.2.2.2.2.2.2.2.2.2.2.2.2.2.2.2.2.2.2.2.2.2.2.2.2.2.2.2.2.2.2.2.2.2.2.2.2.2.2.2.2.2.2.2.2.2.2.2.2.2.2.2.2.2.2.2.2.2.2.2.2.2.2.2.2.2.2.2.2.2.2.2.2.2.2.2.2.2.2.2.1).trans ?_
        refine (rn_iload (pc := 90) (dd bX13_strong dX13_strong_90) rfl).trans ?_
        refine (rn_iload (pc := 92) (dd bX13_strong dX13_strong_92) rfl).trans ?_
        have e6 : vrun mX13_strong 94 [(1, 282), (0, x1), (0, x2), (0, (if ¬ (fX13_isLeft h (h 2 311 x4) = 0) ∨ ¬ (fX13_isRight h (h 2 311 x4) = 0) then (if ¬ (fX13_isRight h (h 2 311 x4) = 0) then 1 else 0) else x3)), (0, x4), (0, (if ¬ (fX13_isLeft h (h 2 311 x4) = 0) ∨ ¬ (fX13_isRight h (h 2 311 x4) = 0) then 1 else 0))] [(0, (if ¬ (fX13_isLeft h (h 2 311 x4) = 0) ∨ ¬ (fX13_isRight h (h 2 311 x4) = 0) then 1 else 0)), (0, x4), (1, 321)] h = vrun mX13_strong 115 [(1, 282), (0, x1), (0, x2), (0, (if ¬ (fX13_isLeft h (h 2 311 x4) = 0) ∨ ¬ (fX13_isRight h (h 2 311 x4) = 0) then (if ¬ (fX13_isRight h (h 2 311 x4) = 0) then 1 else 0) else x3)), (0, x4), (0, (if ¬ (fX13_isLeft h (h 2 311 x4) = 0) ∨ ¬ (fX13_isRight h (h 2 311 x4) = 0) then 1 else 0))] [(0, (if ¬ (fX13_isLeft h (h 2 311 x4) = 0) ∨ ¬ (fX13_isRight h (h 2 311 x4) = 0) then (if ¬ (fX13_isLeft h (h 2 311 x4) = 0) ∨ ¬ (fX13_isRight h (h 2 311 x4) = 0) then (if ¬ (fX13_isRight h (h 2 311 x4) = 0) then 1 else 0) else x3) else (if ¬ (h 2 311 x4 < 48) ∧ ¬ (57 < h 2 311 x4) then (if ¬ (fX13_isLeft h (h 2 311 x4) = 0) ∨ ¬ (fX13_isRight h (h 2 311 x4) = 0) then (if ¬ (fX13_isRight h (h 2 311 x4) = 0) then 1 else 0) else x3) else (-1)))), (0, x4), (1, 321)] h := by
          refine (rg_bne (t := 110) (pc := 94) (dd bX13_strong dX13_strong_94) rfl).trans ?_
          by_cases c7 : ¬ (fX13_isLeft h (h 2 311 x4) = 0) ∨ ¬ (fX13_isRight h (h 2 311 x4) = 0)
          · refine (if_pos c7).trans ?_
            refine (rn_iload_n (pc := 110) (dd bX13_strong dX13_strong_110) rfl).trans ?_
            refine (rn_goto (t := 115) (pc := 111) (dd bX13_strong dX13_strong_111) rfl).trans ?_
            refine Eq.trans (b := vrun mX13_strong 115 [(1, 282), (0, x1), (0, x2), (0, (if ¬ (fX13_isLeft h (h 2 311 x4) = 0) ∨ ¬ (fX13_isRight h (h 2 311 x4) = 0) then (if ¬ (fX13_isRight h (h 2 311 x4) = 0) then 1 else 0) else x3)), (0, x4), (0, (if ¬ (fX13_isLeft h (h 2 311 x4) = 0) ∨ ¬ (fX13_isRight h (h 2 311 x4) = 0) then 1 else 0))] [(0, (if ¬ (fX13_isLeft h (h 2 311 x4) = 0) ∨ ¬ (fX13_isRight h (h 2 311 x4) = 0) then (if ¬ (fX13_isRight h (h 2 311 x4) = 0) then 1 else 0) else x3)), (0, x4), (1, 321)] h) rfl ?_
            simp only [if_pos c7]
          · refine (if_neg c7).trans ?_
            refine (rn_aload_n (pc := 97) (dd bX13_strong dX13_strong_97) rfl).trans ?_
            refine (rg_gf (pc := 98) (dd bX13_strong dX13_strong_98) (ci := 14) (j := 30) rfl rfl (key := 1530) rfl (kc := 34) rfl s1.1 s1.2.2.2.2.2.2.2.2.2.2.2.2.2.2.2.2.2.2.2.2.2.2.2.2.2.2.2.2.2.2.2.2.2.2.2.2.2.2.2.2.2.2.2.2.2.2.2.2.2.2.2.2.2.2.2.2.2.2.2.2.2.2.2.2.2.2.2.2.2.2.2.2.2.2.2.2.2.2.2.2.2.2.2.2.2.1).trans ?_
            refine (rn_iload (pc := 101) (dd bX13_strong dX13_strong_101) rfl).trans ?_
            refine (rg_iaload (pc := 103) (dd bX13_strong dX13_strong_103) s1.2.2.2.2.2.2.2.2.2.2.2.2.2.2.2.2.2.2.2.2.2.2.2.2.2.2.2.2.2.2.2.2.2.2.2.2.2.2.2.2.2.2.2.2.2.2.2.2.2.2.2.2.2.2.2.2.2.2.2.2.2.2.2.2.2.2.2.2.2.2.2.2.2.2.2.2.2.2.2.2.2.2.2.2.2.2.1 s1.2.2.2.2.2.2.2.2.2.2.2.2.2.2.2.2.2.2.2.2.2.2.2.2.2.2.2.2.2.2.2.2.2.2.2.2.2.2.2.2.2.2.2.2.2.2.2.2.2.2.2.2.2.2.2.2.2.2.2.2.2.2.2.2.2.2.2.2.2.2.2.2.2.2.2.2.2.2.2.2.2.2.2.2.2.2.2.1 (by have z0 := p2 c1; have z1 := p3 c1; omega) (by have z0 := p2 c1; have z1 := p3 c1; omega) rfl).trans ?_
            refine (rg_static (pc := 104) (dd bX13_strong dX13_strong_104) rfl (by decide) (Nat.le_of_ble_eq_true rfl) (as := [(0, h 2 311 x4)]) rfl rfl ⟨Nat.le_of_ble_eq_true rfl, Nat.le_of_ble_eq_true rfl, Nat.le_of_ble_eq_true rfl, Nat.le_of_ble_eq_true rfl⟩).trans ?_
            refine (vret_v spX13_isFigure).trans ?_
            have e5 : vrun mX13_strong 107 [(1, 282), (0, x1), (0, x2), (0, (if ¬ (fX13_isLeft h (h 2 311 x4) = 0) ∨ ¬ (fX13_isRight h (h 2 311 x4) = 0) then (if ¬ (fX13_isRight h (h 2 311 x4) = 0) then 1 else 0) else x3)), (0, x4), (0, (if ¬ (fX13_isLeft h (h 2 311 x4) = 0) ∨ ¬ (fX13_isRight h (h 2 311 x4) = 0) then 1 else 0))] [(0, (if ¬ (h 2 311 x4 < 48) ∧ ¬ (57 < h 2 311 x4) then 1 else 0)), (0, x4), (1, 321)] h = vrun mX13_strong 115 [(1, 282), (0, x1), (0, x2), (0, (if ¬ (fX13_isLeft h (h 2 311 x4) = 0) ∨ ¬ (fX13_isRight h (h 2 311 x4) = 0) then (if ¬ (fX13_isRight h (h 2 311 x4) = 0) then 1 else 0) else x3)), (0, x4), (0, (if ¬ (fX13_isLeft h (h 2 311 x4) = 0) ∨ ¬ (fX13_isRight h (h 2 311 x4) = 0) then 1 else 0))] [(0, (if ¬ (h 2 311 x4 < 48) ∧ ¬ (57 < h 2 311 x4) then (if ¬ (fX13_isLeft h (h 2 311 x4) = 0) ∨ ¬ (fX13_isRight h (h 2 311 x4) = 0) then (if ¬ (fX13_isRight h (h 2 311 x4) = 0) then 1 else 0) else x3) else (-1))), (0, x4), (1, 321)] h := by
              refine (rg_beq (t := 114) (pc := 107) (dd bX13_strong dX13_strong_107) rfl).trans ?_
              by_cases c8 : ¬ (h 2 311 x4 < 48) ∧ ¬ (57 < h 2 311 x4)
              · refine (if_pos c8).trans ?_
                refine (rn_iload_n (pc := 110) (dd bX13_strong dX13_strong_110) rfl).trans ?_
                refine (rn_goto (t := 115) (pc := 111) (dd bX13_strong dX13_strong_111) rfl).trans ?_
                refine Eq.trans (b := vrun mX13_strong 115 [(1, 282), (0, x1), (0, x2), (0, (if ¬ (fX13_isLeft h (h 2 311 x4) = 0) ∨ ¬ (fX13_isRight h (h 2 311 x4) = 0) then (if ¬ (fX13_isRight h (h 2 311 x4) = 0) then 1 else 0) else x3)), (0, x4), (0, (if ¬ (fX13_isLeft h (h 2 311 x4) = 0) ∨ ¬ (fX13_isRight h (h 2 311 x4) = 0) then 1 else 0))] [(0, (if ¬ (fX13_isLeft h (h 2 311 x4) = 0) ∨ ¬ (fX13_isRight h (h 2 311 x4) = 0) then (if ¬ (fX13_isRight h (h 2 311 x4) = 0) then 1 else 0) else x3)), (0, x4), (1, 321)] h) rfl ?_
                simp only [if_pos c8]
              · refine (if_neg c8).trans ?_
                refine (rn_iconst (pc := 114) (dd bX13_strong dX13_strong_114) (by decide)).trans ?_
                refine Eq.trans (b := vrun mX13_strong 115 [(1, 282), (0, x1), (0, x2), (0, (if ¬ (fX13_isLeft h (h 2 311 x4) = 0) ∨ ¬ (fX13_isRight h (h 2 311 x4) = 0) then (if ¬ (fX13_isRight h (h 2 311 x4) = 0) then 1 else 0) else x3)), (0, x4), (0, (if ¬ (fX13_isLeft h (h 2 311 x4) = 0) ∨ ¬ (fX13_isRight h (h 2 311 x4) = 0) then 1 else 0))] [(0, (-1)), (0, x4), (1, 321)] h) rfl ?_
                simp only [if_neg c8]
            refine e5.trans ?_
            refine Eq.trans (b := vrun mX13_strong 115 [(1, 282), (0, x1), (0, x2), (0, (if ¬ (fX13_isLeft h (h 2 311 x4) = 0) ∨ ¬ (fX13_isRight h (h 2 311 x4) = 0) then (if ¬ (fX13_isRight h (h 2 311 x4) = 0) then 1 else 0) else x3)), (0, x4), (0, (if ¬ (fX13_isLeft h (h 2 311 x4) = 0) ∨ ¬ (fX13_isRight h (h 2 311 x4) = 0) then 1 else 0))] [(0, (if ¬ (h 2 311 x4 < 48) ∧ ¬ (57 < h 2 311 x4) then (if ¬ (fX13_isLeft h (h 2 311 x4) = 0) ∨ ¬ (fX13_isRight h (h 2 311 x4) = 0) then (if ¬ (fX13_isRight h (h 2 311 x4) = 0) then 1 else 0) else x3) else (-1))), (0, x4), (1, 321)] h) rfl ?_
            simp only [if_neg c7]
        refine e6.trans ?_
        refine (rg_iastore (pc := 115) (dd bX13_strong dX13_strong_115) s1.2.2.2.2.2.2.2.2.2.2.2.2.2.2.2.2.2.2.2.2.2.2.2.2.2.2.2.2.2.2.2.2.2.2.2.2.2.2.2.2.2.2.2.2.2.2.2.2.2.2.2.2.2.2.2.2.2.2.2.2.2.2.2.2.2.2.2.2.2.2.2.2.2.2.2.2.2.2.2.2.2.2.2.2.2.2.2.2.2.2.2.2.2.2.2.2.2.2.2.2.2.2.2.2.2.2.2.2.2.2.2.2.2.2.2.2.1 s1.2.2.2.2.2.2.2.2.2.2.2.2.2.2.2.2.2.2.2.2.2.2.2.2.2.2.2.2.2.2.2.2.2.2.2.2.2.2.2.2.2.2.2.2.2.2.2.2.2.2.2.2.2.2.2.2.2.2.2.2.2.2.2.2.2.2.2.2.2.2.2.2.2.2.2.2.2.2.2.2.2.2.2.2.2.2.2.2.2.2.2.2.2.2.2.2.2.2.2.2.2.2.2.2.2.2.2.2.2.2.2.2.2.2.2.2.2.1 (by have z0 := p2 c1; have z1 := p3 c1; omega) (by have z0 := p2 c1; have z1 := p3 c1; omega)).trans ?_
        refine Eq.trans (b := vrun mX13_strong 116 [(1, 282), (0, x1), (0, x2), (0, (if ¬ (fX13_isLeft h (h 2 311 x4) = 0) ∨ ¬ (fX13_isRight h (h 2 311 x4) = 0) then (if ¬ (fX13_isRight h (h 2 311 x4) = 0) then 1 else 0) else x3)), (0, x4), (0, (if ¬ (fX13_isLeft h (h 2 311 x4) = 0) ∨ ¬ (fX13_isRight h (h 2 311 x4) = 0) then 1 else 0))] [] (vup h 2 321 x4 (if ¬ (fX13_isLeft h (h 2 311 x4) = 0) ∨ ¬ (fX13_isRight h (h 2 311 x4) = 0) then (if ¬ (fX13_isLeft h (h 2 311 x4) = 0) ∨ ¬ (fX13_isRight h (h 2 311 x4) = 0) then (if ¬ (fX13_isRight h (h 2 311 x4) = 0) then 1 else 0) else x3) else (if ¬ (h 2 311 x4 < 48) ∧ ¬ (57 < h 2 311 x4) then (if ¬ (fX13_isLeft h (h 2 311 x4) = 0) ∨ ¬ (fX13_isRight h (h 2 311 x4) = 0) then (if ¬ (fX13_isRight h (h 2 311 x4) = 0) then 1 else 0) else x3) else (-1))))) rfl ?_
        simp only [if_pos c2]
      · refine (if_neg c2).trans ?_
        refine Eq.trans (b := vrun mX13_strong 116 [(1, 282), (0, x1), (0, x2), (0, x3), (0, x4), v5] [] h) rfl ?_
        simp only [if_neg c2]
    refine e7.trans ?_
    refine (rg_iinc (pc := 116) (dd bX13_strong dX13_strong_116) rfl (Nat.le_of_ble_eq_true rfl) (by have z0 := p2 c1; have z1 := p3 c1; omega) (by have z0 := p2 c1; have z1 := p3 c1; omega) rfl).trans ?_
    refine (rn_goto (t := 5) (pc := 119) (dd bX13_strong dX13_strong_119) rfl).trans ?_
    rfl
theorem bX13_ofPair : vmB mX13_ofPair = cX13_ofPair := rfl
theorem rX13_ofPair_0 {x1 : Int} {x2 : Int} {x3 : Int} {h : vH} (p1 : (-2147483648) ≤ x2 + 1) (p2 : x2 + 1 < 2147483648) : vrun mX13_ofPair 0 [(1, 282), (0, x1), (0, x2), (0, x3), (9, 0), (9, 0), (9, 0), (9, 0)] [] h = vrun mX13_ofPair 11 [(1, 282), (0, x1), (0, x2), (0, x3), (0, 0), (0, 0), (0, x2 + 1), (9, 0)] [] h := by
  refine (rn_iconst (pc := 0) (dd bX13_ofPair dX13_ofPair_0) (by decide)).trans ?_
  refine (rn_istore (pc := 1) (dd bX13_ofPair dX13_ofPair_1) (Nat.le_of_ble_eq_true rfl) rfl).trans ?_
  refine (rn_iconst (pc := 3) (dd bX13_ofPair dX13_ofPair_3) (by decide)).trans ?_
  refine (rn_istore (pc := 4) (dd bX13_ofPair dX13_ofPair_4) (Nat.le_of_ble_eq_true rfl) rfl).trans ?_
  refine (rn_iload_n (pc := 6) (dd bX13_ofPair dX13_ofPair_6) rfl).trans ?_
  refine (rn_iconst (pc := 7) (dd bX13_ofPair dX13_ofPair_7) (by decide)).trans ?_
  refine (rg_iadd (pc := 8) (dd bX13_ofPair dX13_ofPair_8) p1 p2).trans ?_
  refine (rn_istore (pc := 9) (dd bX13_ofPair dX13_ofPair_9) (Nat.le_of_ble_eq_true rfl) rfl).trans ?_
  rfl
theorem rX13_ofPair_11 {x1 : Int} {x2 : Int} {x3 : Int} {x4 : Int} {x5 : Int} {x6 : Int} {h : vH} (s1 : shModel h) (p2 : 0 ≤ x2) (p3 : x2 < 140) (p4 : ¬ (h 2 323 x2 ≤ x6) → x4 = 0 → 0 ≤ x6) (p5 : ¬ (h 2 323 x2 ≤ x6) → x4 = 0 → x6 < 140) (p6 : ¬ (h 2 323 x2 ≤ x6) → x5 = 0 → 0 ≤ x6) (p7 : ¬ (h 2 323 x2 ≤ x6) → x5 = 0 → x6 < 140) (p8 : ¬ (h 2 323 x2 ≤ x6) → x5 = 0 → h 2 322 x6 = x1 → (-2147483648) ≤ 1 - x3) (p9 : ¬ (h 2 323 x2 ≤ x6) → x5 = 0 → h 2 322 x6 = x1 → 1 - x3 < 2147483648) (p10 : ¬ (h 2 323 x2 ≤ x6) → (-2147483648) ≤ x6 + 1) (p11 : ¬ (h 2 323 x2 ≤ x6) → x6 + 1 < 2147483648) : vrun mX13_ofPair 11 [(1, 282), (0, x1), (0, x2), (0, x3), (0, x4), (0, x5), (0, x6), (9, 0)] [] h = if h 2 323 x2 ≤ x6 then vrun mX13_ofPair 104 [(1, 282), (0, x1), (0, x2), (0, x3), (0, x4), (0, x5), (0, x3), (0, 0)] [] h else vrun mX13_ofPair 11 [(1, 282), (0, x1), (0, x2), (0, x3), (0, (if ¬ (x4 = 0) ∨ h 2 322 x6 = x1 ∧ h 2 321 x6 = x3 then 1 else 0)), (0, (if ¬ (x5 = 0) ∨ h 2 322 x6 = x1 ∧ h 2 321 x6 = 1 - x3 then 1 else 0)), (0, x6 + 1), (9, 0)] [] h := by
  refine (rn_iload (pc := 11) (dd bX13_ofPair dX13_ofPair_11) rfl).trans ?_
  refine (rn_aload_n (pc := 13) (dd bX13_ofPair dX13_ofPair_13) rfl).trans ?_
  refine (rg_gf (pc := 14) (dd bX13_ofPair dX13_ofPair_14) (ci := 14) (j := 45) rfl rfl (key := 1545) rfl (kc := 34) rfl s1.1 s1.2.2.2.2.2.2.2.2.2.2.2.2.2.2.2.2.2.2.2.2.2.2.2.2.2.2.2.2.2.2.2.2.2.2.2.2.2.2.2.2.2.2.2.2.2.2.2.2.2.2.2.2.2.2.2.2.2.2.2.2.2.2.2.2.2.2.2.2.2.2.2.2.2.2.2.2.2.2.2.2.2.2.2.2.2.2.2.2.2.2.2.2.2.2.2.2.2.2.2.2.2.2.2.2.2.2.2.2.2.2.2.2.2.2.2.2.2.2.2.2.2.1).trans ?_
  refine (rn_iload_n (pc := 17) (dd bX13_ofPair dX13_ofPair_17) rfl).trans ?_
  refine (rg_iaload (pc := 18) (dd bX13_ofPair dX13_ofPair_18) s1.2.2.2.2.2.2.2.2.2.2.2.2.2.2.2.2.2.2.2.2.2.2.2.2.2.2.2.2.2.2.2.2.2.2.2.2.2.2.2.2.2.2.2.2.2.2.2.2.2.2.2.2.2.2.2.2.2.2.2.2.2.2.2.2.2.2.2.2.2.2.2.2.2.2.2.2.2.2.2.2.2.2.2.2.2.2.2.2.2.2.2.2.2.2.2.2.2.2.2.2.2.2.2.2.2.2.2.2.2.2.2.2.2.2.2.2.2.2.2.2.2.2.1 s1.2.2.2.2.2.2.2.2.2.2.2.2.2.2.2.2.2.2.2.2.2.2.2.2.2.2.2.2.2.2.2.2.2.2.2.2.2.2.2.2.2.2.2.2.2.2.2.2.2.2.2.2.2.2.2.2.2.2.2.2.2.2.2.2.2.2.2.2.2.2.2.2.2.2.2.2.2.2.2.2.2.2.2.2.2.2.2.2.2.2.2.2.2.2.2.2.2.2.2.2.2.2.2.2.2.2.2.2.2.2.2.2.2.2.2.2.2.2.2.2.2.2.2.1 p2 p3 rfl).trans ?_
  refine (rn_icmp_ge (t := 98) (pc := 19) (dd bX13_ofPair dX13_ofPair_19) rfl).trans (itec (fun c1 => ?_) (fun c1 => ?_))
  · refine (rn_iload_n (pc := 98) (dd bX13_ofPair dX13_ofPair_98) rfl).trans ?_
    refine (rn_istore (pc := 99) (dd bX13_ofPair dX13_ofPair_99) (Nat.le_of_ble_eq_true rfl) rfl).trans ?_
    refine (rn_iconst (pc := 101) (dd bX13_ofPair dX13_ofPair_101) (by decide)).trans ?_
    refine (rn_istore (pc := 102) (dd bX13_ofPair dX13_ofPair_102) (Nat.le_of_ble_eq_true rfl) rfl).trans ?_
    rfl
  · refine (rn_iload (pc := 22) (dd bX13_ofPair dX13_ofPair_22) rfl).trans ?_
    have e3 : vrun mX13_ofPair 24 [(1, 282), (0, x1), (0, x2), (0, x3), (0, x4), (0, x5), (0, x6), (9, 0)] [(0, x4)] h = vrun mX13_ofPair 54 [(1, 282), (0, x1), (0, x2), (0, x3), (0, x4), (0, x5), (0, x6), (9, 0)] [(0, (if ¬ (x4 = 0) ∨ h 2 322 x6 = x1 ∧ h 2 321 x6 = x3 then 1 else 0))] h := by
      refine (rg_if_ne (t := 49) (pc := 24) (dd bX13_ofPair dX13_ofPair_24) rfl).trans ?_
      by_cases c2 : x4 = 0
      · refine (if_pos c2).trans ?_
        refine (rn_aload_n (pc := 27) (dd bX13_ofPair dX13_ofPair_27) rfl).trans ?_
        refine (rg_gf (pc := 28) (dd bX13_ofPair dX13_ofPair_28) (ci := 14) (j := 44) rfl rfl (key := 1544) rfl (kc := 34) rfl s1.1 s1.2.2.2.2.2.2.2.2.2.2.2.2.2.2.2.2.2.2.2.2.2.2.2.2.2.2.2.2.2.2.2.2.2.2.2.2.2.2.2.2.2.2.2.2.2.2.2.2.2.2.2.2.2.2.2.2.2.2.2.2.2.2.2.2.2.2.2.2.2.2.2.2.2.2.2.2.2.2.2.2.2.2.2.2.2.2.2.2.2.2.2.2.2.2.2.2.2.2.2.2.2.2.2.2.2.2.2.2.2.2.2.2.2.2.2.2.2.2.1).trans ?_
        refine (rn_iload (pc := 31) (dd bX13_ofPair dX13_ofPair_31) rfl).trans ?_
        refine (rg_iaload (pc := 33) (dd bX13_ofPair dX13_ofPair_33) s1.2.2.2.2.2.2.2.2.2.2.2.2.2.2.2.2.2.2.2.2.2.2.2.2.2.2.2.2.2.2.2.2.2.2.2.2.2.2.2.2.2.2.2.2.2.2.2.2.2.2.2.2.2.2.2.2.2.2.2.2.2.2.2.2.2.2.2.2.2.2.2.2.2.2.2.2.2.2.2.2.2.2.2.2.2.2.2.2.2.2.2.2.2.2.2.2.2.2.2.2.2.2.2.2.2.2.2.2.2.2.2.2.2.2.2.2.2.2.2.1 s1.2.2.2.2.2.2.2.2.2.2.2.2.2.2.2.2.2.2.2.2.2.2.2.2.2.2.2.2.2.2.2.2.2.2.2.2.2.2.2.2.2.2.2.2.2.2.2.2.2.2.2.2.2.2.2.2.2.2.2.2.2.2.2.2.2.2.2.2.2.2.2.2.2.2.2.2.2.2.2.2.2.2.2.2.2.2.2.2.2.2.2.2.2.2.2.2.2.2.2.2.2.2.2.2.2.2.2.2.2.2.2.2.2.2.2.2.2.2.2.2.1 (p4 c1 c2) (p5 c1 c2) rfl).trans ?_
        refine (rn_iload_n (pc := 34) (dd bX13_ofPair dX13_ofPair_34) rfl).trans ?_
        have e2 : vrun mX13_ofPair 35 [(1, 282), (0, x1), (0, x2), (0, x3), (0, x4), (0, x5), (0, x6), (9, 0)] [(0, x1), (0, h 2 322 x6)] h = vrun mX13_ofPair 54 [(1, 282), (0, x1), (0, x2), (0, x3), (0, x4), (0, x5), (0, x6), (9, 0)] [(0, (if h 2 322 x6 = x1 ∧ h 2 321 x6 = x3 then 1 else 0))] h := by
          refine (rg_icmp_ne (t := 53) (pc := 35) (dd bX13_ofPair dX13_ofPair_35) rfl).trans ?_
          by_cases c3 : h 2 322 x6 = x1
          · refine (if_pos c3).trans ?_
            refine (rn_aload_n (pc := 38) (dd bX13_ofPair dX13_ofPair_38) rfl).trans ?_
            refine (rg_gf (pc := 39) (dd bX13_ofPair dX13_ofPair_39) (ci := 14) (j := 43) rfl rfl (key := 1543) rfl (kc := 34) rfl s1.1 s1.2.2.2.2.2.2.2.2.2.2.2.2.2.2.2.2.2.2.2.2.2.2.2.2.2.2.2.2.2.2.2.2.2.2.2.2.2.2.2.2.2.2.2.2.2.2.2.2.2.2.2.2.2.2.2.2.2.2.2.2.2.2.2.2.2.2.2.2.2.2.2.2.2.2.2.2.2.2.2.2.2.2.2.2.2.2.2.2.2.2.2.2.2.2.2.2.2.2.2.2.2.2.2.2.2.2.2.2.2.2.2.2.2.2.2.1).trans ?_
            refine (rn_iload (pc := 42) (dd bX13_ofPair dX13_ofPair_42) rfl).trans ?_
            refine (rg_iaload (pc := 44) (dd bX13_ofPair dX13_ofPair_44) s1.2.2.2.2.2.2.2.2.2.2.2.2.2.2.2.2.2.2.2.2.2.2.2.2.2.2.2.2.2.2.2.2.2.2.2.2.2.2.2.2.2.2.2.2.2.2.2.2.2.2.2.2.2.2.2.2.2.2.2.2.2.2.2.2.2.2.2.2.2.2.2.2.2.2.2.2.2.2.2.2.2.2.2.2.2.2.2.2.2.2.2.2.2.2.2.2.2.2.2.2.2.2.2.2.2.2.2.2.2.2.2.2.2.2.2.2.1 s1.2.2.2.2.2.2.2.2.2.2.2.2.2.2.2.2.2.2.2.2.2.2.2.2.2.2.2.2.2.2.2.2.2.2.2.2.2.2.2.2.2.2.2.2.2.2.2.2.2.2.2.2.2.2.2.2.2.2.2.2.2.2.2.2.2.2.2.2.2.2.2.2.2.2.2.2.2.2.2.2.2.2.2.2.2.2.2.2.2.2.2.2.2.2.2.2.2.2.2.2.2.2.2.2.2.2.2.2.2.2.2.2.2.2.2.2.2.1 (by have z0 := p4 c1 c2; have z1 := p5 c1 c2; omega) (by have z0 := p4 c1 c2; have z1 := p5 c1 c2; omega) rfl).trans ?_
            refine (rn_iload_n (pc := 45) (dd bX13_ofPair dX13_ofPair_45) rfl).trans ?_
            have e1 : vrun mX13_ofPair 46 [(1, 282), (0, x1), (0, x2), (0, x3), (0, x4), (0, x5), (0, x6), (9, 0)] [(0, x3), (0, h 2 321 x6)] h = vrun mX13_ofPair 54 [(1, 282), (0, x1), (0, x2), (0, x3), (0, x4), (0, x5), (0, x6), (9, 0)] [(0, (if h 2 321 x6 = x3 then 1 else 0))] h := by
              refine (rg_icmp_ne (t := 53) (pc := 46) (dd bX13_ofPair dX13_ofPair_46) rfl).trans ?_
              by_cases c4 : h 2 321 x6 = x3
              · refine (if_pos c4).trans ?_
                refine (rn_iconst (pc := 49) (dd bX13_ofPair dX13_ofPair_49) (by decide)).trans ?_
                refine (rn_goto (t := 54) (pc := 50) (dd bX13_ofPair dX13_ofPair_50) rfl).trans ?_
                refine Eq.trans (b := vrun mX13_ofPair 54 [(1, 282), (0, x1), (0, x2), (0, x3), (0, x4), (0, x5), (0, x6), (9, 0)] [(0, 1)] h) rfl ?_
                simp only [c4, true_or, false_or, or_true, or_false, true_and, false_and, and_true, and_false, not_true_eq_false, not_false_eq_true, ne_eq, if_true, if_false, ↓reduceIte]
              · refine (if_neg c4).trans ?_
                refine (rn_iconst (pc := 53) (dd bX13_ofPair dX13_ofPair_53) (by decide)).trans ?_
                refine Eq.trans (b := vrun mX13_ofPair 54 [(1, 282), (0, x1), (0, x2), (0, x3), (0, x4), (0, x5), (0, x6), (9, 0)] [(0, 0)] h) rfl ?_
                simp only [c4, true_or, false_or, or_true, or_false, true_and, false_and, and_true, and_false, not_true_eq_false, not_false_eq_true, ne_eq, if_true, if_false, ↓reduceIte]
            refine e1.trans ?_
            refine Eq.trans (b := vrun mX13_ofPair 54 [(1, 282), (0, x1), (0, x2), (0, x3), (0, x4), (0, x5), (0, x6), (9, 0)] [(0, (if h 2 321 x6 = x3 then 1 else 0))] h) rfl ?_
            simp only [c3, true_or, false_or, or_true, or_false, true_and, false_and, and_true, and_false, not_true_eq_false, not_false_eq_true, ne_eq, if_true, if_false, ↓reduceIte]
          · refine (if_neg c3).trans ?_
            refine (rn_iconst (pc := 53) (dd bX13_ofPair dX13_ofPair_53) (by decide)).trans ?_
            refine Eq.trans (b := vrun mX13_ofPair 54 [(1, 282), (0, x1), (0, x2), (0, x3), (0, x4), (0, x5), (0, x6), (9, 0)] [(0, 0)] h) rfl ?_
            simp only [c3, true_or, false_or, or_true, or_false, true_and, false_and, and_true, and_false, not_true_eq_false, not_false_eq_true, ne_eq, if_true, if_false, ↓reduceIte]
        refine e2.trans ?_
        refine Eq.trans (b := vrun mX13_ofPair 54 [(1, 282), (0, x1), (0, x2), (0, x3), (0, x4), (0, x5), (0, x6), (9, 0)] [(0, (if h 2 322 x6 = x1 ∧ h 2 321 x6 = x3 then 1 else 0))] h) rfl ?_
        simp only [c2, true_or, false_or, or_true, or_false, true_and, false_and, and_true, and_false, not_true_eq_false, not_false_eq_true, ne_eq, if_true, if_false, ↓reduceIte]
      · refine (if_neg c2).trans ?_
        refine (rn_iconst (pc := 49) (dd bX13_ofPair dX13_ofPair_49) (by decide)).trans ?_
        refine (rn_goto (t := 54) (pc := 50) (dd bX13_ofPair dX13_ofPair_50) rfl).trans ?_
        refine Eq.trans (b := vrun mX13_ofPair 54 [(1, 282), (0, x1), (0, x2), (0, x3), (0, x4), (0, x5), (0, x6), (9, 0)] [(0, 1)] h) rfl ?_
        simp only [c2, true_or, false_or, or_true, or_false, true_and, false_and, and_true, and_false, not_true_eq_false, not_false_eq_true, ne_eq, if_true, if_false, ↓reduceIte]
    refine e3.trans ?_
    refine (rn_istore (pc := 54) (dd bX13_ofPair dX13_ofPair_54) (Nat.le_of_ble_eq_true rfl) rfl).trans ?_
    refine (rn_iload (pc := 56) (dd bX13_ofPair dX13_ofPair_56) rfl).trans ?_
    have e6 : vrun mX13_ofPair 58 [(1, 282), (0, x1), (0, x2), (0, x3), (0, (if ¬ (x4 = 0) ∨ h 2 322 x6 = x1 ∧ h 2 321 x6 = x3 then 1 else 0)), (0, x5), (0, x6), (9, 0)] [(0, x5)] h = vrun mX13_ofPair 90 [(1, 282), (0, x1), (0, x2), (0, x3), (0, (if ¬ (x4 = 0) ∨ h 2 322 x6 = x1 ∧ h 2 321 x6 = x3 then 1 else 0)), (0, x5), (0, x6), (9, 0)] [(0, (if ¬ (x5 = 0) ∨ h 2 322 x6 = x1 ∧ h 2 321 x6 = 1 - x3 then 1 else 0))] h := by
      refine (rg_if_ne (t := 85) (pc := 58) (dd bX13_ofPair dX13_ofPair_58) rfl).trans ?_
      by_cases c5 : x5 = 0
      · refine (if_pos c5).trans ?_
        refine (rn_aload_n (pc := 61) (dd bX13_ofPair dX13_ofPair_61) rfl).trans ?_
        refine (rg_gf (pc := 62) (dd bX13_ofPair dX13_ofPair_62) (ci := 14) (j := 44) rfl rfl (key := 1544) rfl (kc := 34) rfl s1.1 s1.2.2.2.2.2.2.2.2.2.2.2.2.2.2.2.2.2.2.2.2.2.2.2.2.2.2.2.2.2.2.2.2.2.2.2.2.2.2.2.2.2.2.2.2.2.2.2.2.2.2.2.2.2.2.2.2.2.2.2.2.2.2.2.2.2.2.2.2.2.2.2.2.2.2.2.2.2.2.2.2.2.2.2.2.2.2.2.2.2.2.2.2.2.2.2.2.2.2.2.2.2.2.2.2.2.2.2.2.2.2.2.2.2.2.2.2.2.2.1).trans ?_
        refine (rn_iload (pc := 65) (dd bX13_ofPair dX13_ofPair_65) rfl).trans ?_
        refine (rg_iaload (pc := 67) (dd bX13_ofPair dX13_ofPair_67) s1.2.2.2.2.2.2.2.2.2.2.2.2.2.2.2.2.2.2.2.2.2.2.2.2.2.2.2.2.2.2.2.2.2.2.2.2.2.2.2.2.2.2.2.2.2.2.2.2.2.2.2.2.2.2.2.2.2.2.2.2.2.2.2.2.2.2.2.2.2.2.2.2.2.2.2.2.2.2.2.2.2.2.2.2.2.2.2.2.2.2.2.2.2.2.2.2.2.2.2.2.2.2.2.2.2.2.2.2.2.2.2.2.2.2.2.2.2.2.2.1 s1.2.2.2.2.2.2.2.2.2.2.2.2.2.2.2.2.2.2.2.2.2.2.2.2.2.2.2.2.2.2.2.2.2.2.2.2.2.2.2.2.2.2.2.2.2.2.2.2.2.2.2.2.2.2.2.2.2.2.2.2.2.2.2.2.2.2.2.2.2.2.2.2.2.2.2.2.2.2.2.2.2.2.2.2.2.2.2.2.2.2.2.2.2.2.2.2.2.2.2.2.2.2.2.2.2.2.2.2.2.2.2.2.2.2.2.2.2.2.2.2.1 (p6 c1 c5) (p7 c1 c5) rfl).trans ?_
        refine (rn_iload_n (pc := 68) (dd bX13_ofPair dX13_ofPair_68) rfl).trans ?_
        have e5 : vrun mX13_ofPair 69 [(1, 282), (0, x1), (0, x2), (0, x3), (0, (if ¬ (x4 = 0) ∨ h 2 322 x6 = x1 ∧ h 2 321 x6 = x3 then 1 else 0)), (0, x5), (0, x6), (9, 0)] [(0, x1), (0, h 2 322 x6)] h = vrun mX13_ofPair 90 [(1, 282), (0, x1), (0, x2), (0, x3), (0, (if ¬ (x4 = 0) ∨ h 2 322 x6 = x1 ∧ h 2 321 x6 = x3 then 1 else 0)), (0, x5), (0, x6), (9, 0)] [(0, (if h 2 322 x6 = x1 ∧ h 2 321 x6 = 1 - x3 then 1 else 0))] h := by
          refine (rg_icmp_ne (t := 89) (pc := 69) (dd bX13_ofPair dX13_ofPair_69) rfl).trans ?_
          by_cases c6 : h 2 322 x6 = x1
          · refine (if_pos c6).trans ?_
            refine (rn_aload_n (pc := 72) (dd bX13_ofPair dX13_ofPair_72) rfl).trans ?_
            refine (rg_gf (pc := 73) (dd bX13_ofPair dX13_ofPair_73) (ci := 14) (j := 43) rfl rfl (key := 1543) rfl (kc := 34) rfl s1.1 s1.2.2.2.2.2.2.2.2.2.2.2.2.2.2.2.2.2.2.2.2.2.2.2.2.2.2.2.2.2.2.2.2.2.2.2.2.2.2.2.2.2.2.2.2.2.2.2.2.2.2.2.2.2.2.2.2.2.2.2.2.2.2.2.2.2.2.2.2.2.2.2.2.2.2.2.2.2.2.2.2.2.2.2.2.2.2.2.2.2.2.2.2.2.2.2.2.2.2.2.2.2.2.2.2.2.2.2.2.2.2.2.2.2.2.2.1).trans ?_
            refine (rn_iload (pc := 76) (dd bX13_ofPair dX13_ofPair_76) rfl).trans ?_
            refine (rg_iaload (pc := 78) (dd bX13_ofPair dX13_ofPair_78) s1.2.2.2.2.2.2.2.2.2.2.2.2.2.2.2.2.2.2.2.2.2.2.2.2.2.2.2.2.2.2.2.2.2.2.2.2.2.2.2.2.2.2.2.2.2.2.2.2.2.2.2.2.2.2.2.2.2.2.2.2.2.2.2.2.2.2.2.2.2.2.2.2.2.2.2.2.2.2.2.2.2.2.2.2.2.2.2.2.2.2.2.2.2.2.2.2.2.2.2.2.2.2.2.2.2.2.2.2.2.2.2.2.2.2.2.2.1 s1.2.2.2.2.2.2.2.2.2.2.2.2.2.2.2.2.2.2.2.2.2.2.2.2.2.2.2.2.2.2.2.2.2.2.2.2.2.2.2.2.2.2.2.2.2.2.2.2.2.2.2.2.2.2.2.2.2.2.2.2.2.2.2.2.2.2.2.2.2.2.2.2.2.2.2.2.2.2.2.2.2.2.2.2.2.2.2.2.2.2.2.2.2.2.2.2.2.2.2.2.2.2.2.2.2.2.2.2.2.2.2.2.2.2.2.2.2.1 (by have z0 := p6 c1 c5; have z1 := p7 c1 c5; omega) (by have z0 := p6 c1 c5; have z1 := p7 c1 c5; omega) rfl).trans ?_
            refine (rn_iconst (pc := 79) (dd bX13_ofPair dX13_ofPair_79) (by decide)).trans ?_
            refine (rn_iload_n (pc := 80) (dd bX13_ofPair dX13_ofPair_80) rfl).trans ?_
            refine (rg_isub (pc := 81) (dd bX13_ofPair dX13_ofPair_81) (p8 c1 c5 c6) (p9 c1 c5 c6)).trans ?_
            have e4 : vrun mX13_ofPair 82 [(1, 282), (0, x1), (0, x2), (0, x3), (0, (if ¬ (x4 = 0) ∨ h 2 322 x6 = x1 ∧ h 2 321 x6 = x3 then 1 else 0)), (0, x5), (0, x6), (9, 0)] [(0, 1 - x3), (0, h 2 321 x6)] h = vrun mX13_ofPair 90 [(1, 282), (0, x1), (0, x2), (0, x3), (0, (if ¬ (x4 = 0) ∨ h 2 322 x6 = x1 ∧ h 2 321 x6 = x3 then 1 else 0)), (0, x5), (0, x6), (9, 0)] [(0, (if h 2 321 x6 = 1 - x3 then 1 else 0))] h := by
              refine (rg_icmp_ne (t := 89) (pc := 82) (dd bX13_ofPair dX13_ofPair_82) rfl).trans ?_
              by_cases c7 : h 2 321 x6 = 1 - x3
              · refine (if_pos c7).trans ?_
                refine (rn_iconst (pc := 85) (dd bX13_ofPair dX13_ofPair_85) (by decide)).trans ?_
                refine (rn_goto (t := 90) (pc := 86) (dd bX13_ofPair dX13_ofPair_86) rfl).trans ?_
                refine Eq.trans (b := vrun mX13_ofPair 90 [(1, 282), (0, x1), (0, x2), (0, x3), (0, (if ¬ (x4 = 0) ∨ h 2 322 x6 = x1 ∧ h 2 321 x6 = x3 then 1 else 0)), (0, x5), (0, x6), (9, 0)] [(0, 1)] h) rfl ?_
                simp only [c7, true_or, false_or, or_true, or_false, true_and, false_and, and_true, and_false, not_true_eq_false, not_false_eq_true, ne_eq, if_true, if_false, ↓reduceIte]
              · refine (if_neg c7).trans ?_
                refine (rn_iconst (pc := 89) (dd bX13_ofPair dX13_ofPair_89) (by decide)).trans ?_
                refine Eq.trans (b := vrun mX13_ofPair 90 [(1, 282), (0, x1), (0, x2), (0, x3), (0, (if ¬ (x4 = 0) ∨ h 2 322 x6 = x1 ∧ h 2 321 x6 = x3 then 1 else 0)), (0, x5), (0, x6), (9, 0)] [(0, 0)] h) rfl ?_
                simp only [c7, true_or, false_or, or_true, or_false, true_and, false_and, and_true, and_false, not_true_eq_false, not_false_eq_true, ne_eq, if_true, if_false, ↓reduceIte]
            refine e4.trans ?_
            refine Eq.trans (b := vrun mX13_ofPair 90 [(1, 282), (0, x1), (0, x2), (0, x3), (0, (if ¬ (x4 = 0) ∨ h 2 322 x6 = x1 ∧ h 2 321 x6 = x3 then 1 else 0)), (0, x5), (0, x6), (9, 0)] [(0, (if h 2 321 x6 = 1 - x3 then 1 else 0))] h) rfl ?_
            simp only [c6, true_or, false_or, or_true, or_false, true_and, false_and, and_true, and_false, not_true_eq_false, not_false_eq_true, ne_eq, if_true, if_false, ↓reduceIte]
          · refine (if_neg c6).trans ?_
            refine (rn_iconst (pc := 89) (dd bX13_ofPair dX13_ofPair_89) (by decide)).trans ?_
            refine Eq.trans (b := vrun mX13_ofPair 90 [(1, 282), (0, x1), (0, x2), (0, x3), (0, (if ¬ (x4 = 0) ∨ h 2 322 x6 = x1 ∧ h 2 321 x6 = x3 then 1 else 0)), (0, x5), (0, x6), (9, 0)] [(0, 0)] h) rfl ?_
            simp only [c6, true_or, false_or, or_true, or_false, true_and, false_and, and_true, and_false, not_true_eq_false, not_false_eq_true, ne_eq, if_true, if_false, ↓reduceIte]
        refine e5.trans ?_
        refine Eq.trans (b := vrun mX13_ofPair 90 [(1, 282), (0, x1), (0, x2), (0, x3), (0, (if ¬ (x4 = 0) ∨ h 2 322 x6 = x1 ∧ h 2 321 x6 = x3 then 1 else 0)), (0, x5), (0, x6), (9, 0)] [(0, (if h 2 322 x6 = x1 ∧ h 2 321 x6 = 1 - x3 then 1 else 0))] h) rfl ?_
        simp only [c5, true_or, false_or, or_true, or_false, true_and, false_and, and_true, and_false, not_true_eq_false, not_false_eq_true, ne_eq, if_true, if_false, ↓reduceIte]
      · refine (if_neg c5).trans ?_
        refine (rn_iconst (pc := 85) (dd bX13_ofPair dX13_ofPair_85) (by decide)).trans ?_
        refine (rn_goto (t := 90) (pc := 86) (dd bX13_ofPair dX13_ofPair_86) rfl).trans ?_
        refine Eq.trans (b := vrun mX13_ofPair 90 [(1, 282), (0, x1), (0, x2), (0, x3), (0, (if ¬ (x4 = 0) ∨ h 2 322 x6 = x1 ∧ h 2 321 x6 = x3 then 1 else 0)), (0, x5), (0, x6), (9, 0)] [(0, 1)] h) rfl ?_
        simp only [c5, true_or, false_or, or_true, or_false, true_and, false_and, and_true, and_false, not_true_eq_false, not_false_eq_true, ne_eq, if_true, if_false, ↓reduceIte]
    refine e6.trans ?_
    refine (rn_istore (pc := 90) (dd bX13_ofPair dX13_ofPair_90) (Nat.le_of_ble_eq_true rfl) rfl).trans ?_
    refine (rg_iinc (pc := 92) (dd bX13_ofPair dX13_ofPair_92) rfl (Nat.le_of_ble_eq_true rfl) (p10 c1) (p11 c1) rfl).trans ?_
    refine (rn_goto (t := 11) (pc := 95) (dd bX13_ofPair dX13_ofPair_95) rfl).trans ?_
    rfl
theorem rX13_ofPair_104 {x1 : Int} {x2 : Int} {x3 : Int} {x4 : Int} {x5 : Int} {x6 : Int} {x7 : Int} {h : vH} (s1 : shModel h) (p2 : ¬ (x2 ≤ x7) → 0 ≤ x7) (p3 : ¬ (x2 ≤ x7) → x7 < 140) : vrun mX13_ofPair 104 [(1, 282), (0, x1), (0, x2), (0, x3), (0, x4), (0, x5), (0, x6), (0, x7)] [] h = if x2 ≤ x7 then some (.inl (some (0, (if x4 = 0 then (if x5 = 0 then (-1) else x6) else x3))), h) else vrun mX13_ofPair 104 [(1, 282), (0, x1), (0, x2), (0, x3), (0, x4), (0, x5), (0, (if h 2 322 x7 = x1 then (if h 2 321 x7 = (-1) then x6 else h 2 321 x7) else x6)), (0, x7 + 1)] [] h := by
  refine (rn_iload (pc := 104) (dd bX13_ofPair dX13_ofPair_104) rfl).trans ?_
  refine (rn_iload_n (pc := 106) (dd bX13_ofPair dX13_ofPair_106) rfl).trans ?_
  refine (rn_icmp_ge (t := 152) (pc := 107) (dd bX13_ofPair dX13_ofPair_107) rfl).trans (itec (fun c1 => ?_) (fun c1 => ?_))
  · refine (rn_iload (pc := 152) (dd bX13_ofPair dX13_ofPair_152) rfl).trans ?_
    have e2 : vrun mX13_ofPair 154 [(1, 282), (0, x1), (0, x2), (0, x3), (0, x4), (0, x5), (0, x6), (0, x7)] [(0, x4)] h = vrun mX13_ofPair 172 [(1, 282), (0, x1), (0, x2), (0, x3), (0, x4), (0, x5), (0, x6), (0, x7)] [(0, (if x4 = 0 then (if x5 = 0 then (-1) else x6) else x3))] h := by
      refine (rn_if_eq (t := 161) (pc := 154) (dd bX13_ofPair dX13_ofPair_154) rfl).trans ?_
      by_cases c2 : x4 = 0
      · refine (if_pos c2).trans ?_
        refine (rn_iload (pc := 161) (dd bX13_ofPair dX13_ofPair_161) rfl).trans ?_
        have e1 : vrun mX13_ofPair 163 [(1, 282), (0, x1), (0, x2), (0, x3), (0, x4), (0, x5), (0, x6), (0, x7)] [(0, x5)] h = vrun mX13_ofPair 172 [(1, 282), (0, x1), (0, x2), (0, x3), (0, x4), (0, x5), (0, x6), (0, x7)] [(0, (if x5 = 0 then (-1) else x6))] h := by
          refine (rn_if_eq (t := 171) (pc := 163) (dd bX13_ofPair dX13_ofPair_163) rfl).trans ?_
          by_cases c3 : x5 = 0
          · refine (if_pos c3).trans ?_
            refine (rn_iconst (pc := 171) (dd bX13_ofPair dX13_ofPair_171) (by decide)).trans ?_
            refine Eq.trans (b := vrun mX13_ofPair 172 [(1, 282), (0, x1), (0, x2), (0, x3), (0, x4), (0, x5), (0, x6), (0, x7)] [(0, (-1))] h) rfl ?_
            simp only [if_pos c3]
          · refine (if_neg c3).trans ?_
            refine (rn_iload (pc := 166) (dd bX13_ofPair dX13_ofPair_166) rfl).trans ?_
            refine (rn_goto (t := 172) (pc := 168) (dd bX13_ofPair dX13_ofPair_168) rfl).trans ?_
            refine Eq.trans (b := vrun mX13_ofPair 172 [(1, 282), (0, x1), (0, x2), (0, x3), (0, x4), (0, x5), (0, x6), (0, x7)] [(0, x6)] h) rfl ?_
            simp only [if_neg c3]
        refine e1.trans ?_
        refine Eq.trans (b := vrun mX13_ofPair 172 [(1, 282), (0, x1), (0, x2), (0, x3), (0, x4), (0, x5), (0, x6), (0, x7)] [(0, (if x5 = 0 then (-1) else x6))] h) rfl ?_
        simp only [if_pos c2]
      · refine (if_neg c2).trans ?_
        refine (rn_iload_n (pc := 157) (dd bX13_ofPair dX13_ofPair_157) rfl).trans ?_
        refine (rn_goto (t := 172) (pc := 158) (dd bX13_ofPair dX13_ofPair_158) rfl).trans ?_
        refine Eq.trans (b := vrun mX13_ofPair 172 [(1, 282), (0, x1), (0, x2), (0, x3), (0, x4), (0, x5), (0, x6), (0, x7)] [(0, x3)] h) rfl ?_
        simp only [if_neg c2]
    refine e2.trans ?_
    exact rn_ireturn (pc := 172) (dd bX13_ofPair dX13_ofPair_172) (Or.inl rfl)
  · refine (rn_aload_n (pc := 110) (dd bX13_ofPair dX13_ofPair_110) rfl).trans ?_
    refine (rg_gf (pc := 111) (dd bX13_ofPair dX13_ofPair_111) (ci := 14) (j := 44) rfl rfl (key := 1544) rfl (kc := 34) rfl s1.1 s1.2.2.2.2.2.2.2.2.2.2.2.2.2.2.2.2.2.2.2.2.2.2.2.2.2.2.2.2.2.2.2.2.2.2.2.2.2.2.2.2.2.2.2.2.2.2.2.2.2.2.2.2.2.2.2.2.2.2.2.2.2.2.2.2.2.2.2.2.2.2.2.2.2.2.2.2.2.2.2.2.2.2.2.2.2.2.2.2.2.2.2.2.2.2.2.2.2.2.2.2.2.2.2.2.2.2.2.2.2.2.2.2.2.2.2.2.2.2.1).trans ?_
    refine (rn_iload (pc := 114) (dd bX13_ofPair dX13_ofPair_114) rfl).trans ?_
    refine (rg_iaload (pc := 116) (dd bX13_ofPair dX13_ofPair_116) s1.2.2.2.2.2.2.2.2.2.2.2.2.2.2.2.2.2.2.2.2.2.2.2.2.2.2.2.2.2.2.2.2.2.2.2.2.2.2.2.2.2.2.2.2.2.2.2.2.2.2.2.2.2.2.2.2.2.2.2.2.2.2.2.2.2.2.2.2.2.2.2.2.2.2.2.2.2.2.2.2.2.2.2.2.2.2.2.2.2.2.2.2.2.2.2.2.2.2.2.2.2.2.2.2.2.2.2.2.2.2.2.2.2.2.2.2.2.2.2.1 s1.2.2.2.2.2.2.2.2.2.2.2.2.2.2.2.2.2.2.2.2.2.2.2.2.2.2.2.2.2.2.2.2.2.2.2.2.2.2.2.2.2.2.2.2.2.2.2.2.2.2.2.2.2.2.2.2.2.2.2.2.2.2.2.2.2.2.2.2.2.2.2.2.2.2.2.2.2.2.2.2.2.2.2.2.2.2.2.2.2.2.2.2.2.2.2.2.2.2.2.2.2.2.2.2.2.2.2.2.2.2.2.2.2.2.2.2.2.2.2.2.1 (p2 c1) (p3 c1) rfl).trans ?_
    refine (rn_iload_n (pc := 117) (dd bX13_ofPair dX13_ofPair_117) rfl).trans ?_
    have e4 : vrun mX13_ofPair 118 [(1, 282), (0, x1), (0, x2), (0, x3), (0, x4), (0, x5), (0, x6), (0, x7)] [(0, x1), (0, h 2 322 x7)] h = vrun mX13_ofPair 144 [(1, 282), (0, x1), (0, x2), (0, x3), (0, x4), (0, x5), (0, x6), (0, x7)] [(0, (if h 2 322 x7 = x1 then (if h 2 321 x7 = (-1) then x6 else h 2 321 x7) else x6))] h := by
      refine (rg_icmp_ne (t := 142) (pc := 118) (dd bX13_ofPair dX13_ofPair_118) rfl).trans ?_
      by_cases c4 : h 2 322 x7 = x1
      · refine (if_pos c4).trans ?_
        refine (rn_aload_n (pc := 121) (dd bX13_ofPair dX13_ofPair_121) rfl).trans ?_
        refine (rg_gf (pc := 122) (dd bX13_ofPair dX13_ofPair_122) (ci := 14) (j := 43) rfl rfl (key := 1543) rfl (kc := 34) rfl s1.1 s1.2.2.2.2.2.2.2.2.2.2.2.2.2.2.2.2.2.2.2.2.2.2.2.2.2.2.2.2.2.2.2.2.2.2.2.2.2.2.2.2.2.2.2.2.2.2.2.2.2.2.2.2.2.2.2.2.2.2.2.2.2.2.2.2.2.2.2.2.2.2.2.2.2.2.2.2.2.2.2.2.2.2.2.2.2.2.2.2.2.2.2.2.2.2.2.2.2.2.2.2.2.2.2.2.2.2.2.2.2.2.2.2.2.2.2.1).trans ?_
        refine (rn_iload (pc := 125) (dd bX13_ofPair dX13_ofPair_125) rfl).trans ?_
        refine (rg_iaload (pc := 127) (dd bX13_ofPair dX13_ofPair_127) s1.2.2.2.2.2.2.2.2.2.2.2.2.2.2.2.2.2.2.2.2.2.2.2.2.2.2.2.2.2.2.2.2.2.2.2.2.2.2.2.2.2.2.2.2.2.2.2.2.2.2.2.2.2.2.2.2.2.2.2.2.2.2.2.2.2.2.2.2.2.2.2.2.2.2.2.2.2.2.2.2.2.2.2.2.2.2.2.2.2.2.2.2.2.2.2.2.2.2.2.2.2.2.2.2.2.2.2.2.2.2.2.2.2.2.2.2.1 s1.2.2.2.2.2.2.2.2.2.2.2.2.2.2.2.2.2.2.2.2.2.2.2.2.2.2.2.2.2.2.2.2.2.2.2.2.2.2.2.2.2.2.2.2.2.2.2.2.2.2.2.2.2.2.2.2.2.2.2.2.2.2.2.2.2.2.2.2.2.2.2.2.2.2.2.2.2.2.2.2.2.2.2.2.2.2.2.2.2.2.2.2.2.2.2.2.2.2.2.2.2.2.2.2.2.2.2.2.2.2.2.2.2.2.2.2.2.1 (by have z0 := p2 c1; have z1 := p3 c1; omega) (by have z0 := p2 c1; have z1 := p3 c1; omega) rfl).trans ?_
        refine (rn_iconst (pc := 128) (dd bX13_ofPair dX13_ofPair_128) (by decide)).trans ?_
        have e3 : vrun mX13_ofPair 129 [(1, 282), (0, x1), (0, x2), (0, x3), (0, x4), (0, x5), (0, x6), (0, x7)] [(0, (-1)), (0, h 2 321 x7)] h = vrun mX13_ofPair 144 [(1, 282), (0, x1), (0, x2), (0, x3), (0, x4), (0, x5), (0, x6), (0, x7)] [(0, (if h 2 321 x7 = (-1) then x6 else h 2 321 x7))] h := by
          refine (rn_icmp_eq (t := 142) (pc := 129) (dd bX13_ofPair dX13_ofPair_129) rfl).trans ?_
          by_cases c5 : h 2 321 x7 = (-1)
          · refine (if_pos c5).trans ?_
            refine (rn_iload (pc := 142) (dd bX13_ofPair dX13_ofPair_142) rfl).trans ?_
            refine Eq.trans (b := vrun mX13_ofPair 144 [(1, 282), (0, x1), (0, x2), (0, x3), (0, x4), (0, x5), (0, x6), (0, x7)] [(0, x6)] h) rfl ?_
            simp only [if_pos c5]
          · refine (if_neg c5).trans ?_
            refine (rn_aload_n (pc := 132) (dd bX13_ofPair dX13_ofPair_132) rfl).trans ?_
            refine (rg_gf (pc := 133) (dd bX13_ofPair dX13_ofPair_133) (ci := 14) (j := 43) rfl rfl (key := 1543) rfl (kc := 34) rfl s1.1 s1.2.2.2.2.2.2.2.2.2.2.2.2.2.2.2.2.2.2.2.2.2.2.2.2.2.2.2.2.2.2.2.2.2.2.2.2.2.2.2.2.2.2.2.2.2.2.2.2.2.2.2.2.2.2.2.2.2.2.2.2.2.2.2.2.2.2.2.2.2.2.2.2.2.2.2.2.2.2.2.2.2.2.2.2.2.2.2.2.2.2.2.2.2.2.2.2.2.2.2.2.2.2.2.2.2.2.2.2.2.2.2.2.2.2.2.1).trans ?_
            refine (rn_iload (pc := 136) (dd bX13_ofPair dX13_ofPair_136) rfl).trans ?_
            refine (rg_iaload (pc := 138) (dd bX13_ofPair dX13_ofPair_138) s1.2.2.2.2.2.2.2.2.2.2.2.2.2.2.2.2.2.2.2.2.2.2.2.2.2.2.2.2.2.2.2.2.2.2.2.2.2.2.2.2.2.2.2.2.2.2.2.2.2.2.2.2.2.2.2.2.2.2.2.2.2.2.2.2.2.2.2.2.2.2.2.2.2.2.2.2.2.2.2.2.2.2.2.2.2.2.2.2.2.2.2.2.2.2.2.2.2.2.2.2.2.2.2.2.2.2.2.2.2.2.2.2.2.2.2.2.1 s1.2.2.2.2.2.2.2.2.2.2.2.2.2.2.2.2.2.2.2.2.2.2.2.2.2.2.2.2.2.2.2.2.2.2.2.2.2.2.2.2.2.2.2.2.2.2.2.2.2.2.2.2.2.2.2.2.2.2.2.2.2.2.2.2.2.2.2.2.2.2.2.2.2.2.2.2.2.2.2.2.2.2.2.2.2.2.2.2.2.2.2.2.2.2.2.2.2.2.2.2.2.2.2.2.2.2.2.2.2.2.2.2.2.2.2.2.2.1 (by have z0 := p2 c1; have z1 := p3 c1; omega) (by have z0 := p2 c1; have z1 := p3 c1; omega) rfl).trans ?_
            refine (rn_goto (t := 144) (pc := 139) (dd bX13_ofPair dX13_ofPair_139) rfl).trans ?_
            refine Eq.trans (b := vrun mX13_ofPair 144 [(1, 282), (0, x1), (0, x2), (0, x3), (0, x4), (0, x5), (0, x6), (0, x7)] [(0, h 2 321 x7)] h) rfl ?_
            simp only [if_neg c5]
        refine e3.trans ?_
        refine Eq.trans (b := vrun mX13_ofPair 144 [(1, 282), (0, x1), (0, x2), (0, x3), (0, x4), (0, x5), (0, x6), (0, x7)] [(0, (if h 2 321 x7 = (-1) then x6 else h 2 321 x7))] h) rfl ?_
        simp only [if_pos c4]
      · refine (if_neg c4).trans ?_
        refine (rn_iload (pc := 142) (dd bX13_ofPair dX13_ofPair_142) rfl).trans ?_
        refine Eq.trans (b := vrun mX13_ofPair 144 [(1, 282), (0, x1), (0, x2), (0, x3), (0, x4), (0, x5), (0, x6), (0, x7)] [(0, x6)] h) rfl ?_
        simp only [if_neg c4]
    refine e4.trans ?_
    refine (rn_istore (pc := 144) (dd bX13_ofPair dX13_ofPair_144) (Nat.le_of_ble_eq_true rfl) rfl).trans ?_
    refine (rg_iinc (pc := 146) (dd bX13_ofPair dX13_ofPair_146) rfl (Nat.le_of_ble_eq_true rfl) (by have z0 := p2 c1; have z1 := p3 c1; omega) (by have z0 := p2 c1; have z1 := p3 c1; omega) rfl).trans ?_
    refine (rn_goto (t := 104) (pc := 149) (dd bX13_ofPair dX13_ofPair_149) rfl).trans ?_
    rfl
theorem bX13_brackets : vmB mX13_brackets = cX13_brackets := rfl
theorem rX13_brackets_0 {x1 : Int} {x2 : Int} {h : vH} : vrun mX13_brackets 0 [(1, 282), (0, x1), (0, x2), (9, 0), (9, 0)] [] h = vrun mX13_brackets 2 [(1, 282), (0, x1), (0, x2), (0, 0), (9, 0)] [] h := by
  refine (rn_iconst (pc := 0) (dd bX13_brackets dX13_brackets_0) (by decide)).trans ?_
  refine (rn_istore_n (pc := 1) (dd bX13_brackets dX13_brackets_1) (Nat.le_of_ble_eq_true rfl) rfl).trans ?_
  rfl
theorem rX13_brackets_2 {x1 : Int} {x2 : Int} {x3 : Int} {v4 : vv} {h : vH} (s1 : shModel h) (p2 : ¬ (h 1540 282 0 ≤ x3) → 0 ≤ x3) (p3 : ¬ (h 1540 282 0 ≤ x3) → x3 < 140) : vrun mX13_brackets 2 [(1, 282), (0, x1), (0, x2), (0, x3), v4] [] h = if h 1540 282 0 ≤ x3 then some (.inl none, h) else if h 2 322 x3 = x1 then if fX13_closing h (h 2 311 x3) = (-1) then vrun mX13_brackets 2 [(1, 282), (0, x1), (0, x2), (0, x3 + 1), v4] [] h else if h 2 323 x3 = (-1) then vrun mX13_brackets 2 [(1, 282), (0, x1), (0, x2), (0, x3 + 1), v4] [] h else vret vrun mX13_brackets 47 [(1, 282), (0, x1), (0, x2), (0, x3), v4] [] (vcl mX13_ofPair [(1, 282), (0, x1), (0, x3), (0, x2)] h) else vrun mX13_brackets 2 [(1, 282), (0, x1), (0, x2), (0, x3 + 1), v4] [] h := by
  refine (rn_iload_n (pc := 2) (dd bX13_brackets dX13_brackets_2) rfl).trans ?_
  refine (rn_aload_n (pc := 3) (dd bX13_brackets dX13_brackets_3) rfl).trans ?_
  refine (rg_gf (pc := 4) (dd bX13_brackets dX13_brackets_4) (ci := 14) (j := 40) rfl rfl (key := 1540) rfl (kc := 34) rfl s1.1 rfl).trans ?_
  refine (rn_icmp_ge (t := 79) (pc := 7) (dd bX13_brackets dX13_brackets_7) rfl).trans (itec (fun c1 => ?_) (fun c1 => ?_))
  · exact rn_return (pc := 79) (dd bX13_brackets dX13_brackets_79) rfl
  · refine (rn_aload_n (pc := 10) (dd bX13_brackets dX13_brackets_10) rfl).trans ?_
    refine (rg_gf (pc := 11) (dd bX13_brackets dX13_brackets_11) (ci := 14) (j := 44) rfl rfl (key := 1544) rfl (kc := 34) rfl s1.1 s1.2.2.2.2.2.2.2.2.2.2.2.2.2.2.2.2.2.2.2.2.2.2.2.2.2.2.2.2.2.2.2.2.2.2.2.2.2.2.2.2.2.2.2.2.2.2.2.2.2.2.2.2.2.2.2.2.2.2.2.2.2.2.2.2.2.2.2.2.2.2.2.2.2.2.2.2.2.2.2.2.2.2.2.2.2.2.2.2.2.2.2.2.2.2.2.2.2.2.2.2.2.2.2.2.2.2.2.2.2.2.2.2.2.2.2.2.2.2.1).trans ?_
    refine (rn_iload_n (pc := 14) (dd bX13_brackets dX13_brackets_14) rfl).trans ?_
    refine (rg_iaload (pc := 15) (dd bX13_brackets dX13_brackets_15) s1.2.2.2.2.2.2.2.2.2.2.2.2.2.2.2.2.2.2.2.2.2.2.2.2.2.2.2.2.2.2.2.2.2.2.2.2.2.2.2.2.2.2.2.2.2.2.2.2.2.2.2.2.2.2.2.2.2.2.2.2.2.2.2.2.2.2.2.2.2.2.2.2.2.2.2.2.2.2.2.2.2.2.2.2.2.2.2.2.2.2.2.2.2.2.2.2.2.2.2.2.2.2.2.2.2.2.2.2.2.2.2.2.2.2.2.2.2.2.2.1 s1.2.2.2.2.2.2.2.2.2.2.2.2.2.2.2.2.2.2.2.2.2.2.2.2.2.2.2.2.2.2.2.2.2.2.2.2.2.2.2.2.2.2.2.2.2.2.2.2.2.2.2.2.2.2.2.2.2.2.2.2.2.2.2.2.2.2.2.2.2.2.2.2.2.2.2.2.2.2.2.2.2.2.2.2.2.2.2.2.2.2.2.2.2.2.2.2.2.2.2.2.2.2.2.2.2.2.2.2.2.2.2.2.2.2.2.2.2.2.2.2.1 (p2 c1) (p3 c1) rfl).trans ?_
    refine (rn_iload_n (pc := 16) (dd bX13_brackets dX13_brackets_16) rfl).trans ?_
    refine (rg_icmp_ne (t := 73) (pc := 17) (dd bX13_brackets dX13_brackets_17) rfl).trans (itec (fun c2 => ?_) (fun c2 => ?_))
    · refine (rn_aload_n (pc := 20) (dd bX13_brackets dX13_brackets_20) rfl).trans ?_
      refine (rg_gf (pc := 21) (dd bX13_brackets dX13_brackets_21) (ci := 14) (j := 30) rfl rfl (key := 1530) rfl (kc := 34) rfl s1.1 s1.2.2.2.2.2.2.2.2.2.2.2.2.2.2.2.2.2.2.2.2.2.2.2.2.2.2.2.2.2.2.2.2.2.2.2.2.2.2.2.2.2.2.2.2.2.2.2.2.2.2.2.2.2.2.2.2.2.2.2.2.2.2.2.2.2.2.2.2.2.2.2.2.2.2.2.2.2.2.2.2.2.2.2.2.2.1).trans ?_
      refine (rn_iload_n (pc := 24) (dd bX13_brackets dX13_brackets_24) rfl).trans ?_
      refine (rg_iaload (pc := 25) (dd bX13_brackets dX13_brackets_25) s1.2.2.2.2.2.2.2.2.2.2.2.2.2.2.2.2.2.2.2.2.2.2.2.2.2.2.2.2.2.2.2.2.2.2.2.2.2.2.2.2.2.2.2.2.2.2.2.2.2.2.2.2.2.2.2.2.2.2.2.2.2.2.2.2.2.2.2.2.2.2.2.2.2.2.2.2.2.2.2.2.2.2.2.2.2.2.1 s1.2.2.2.2.2.2.2.2.2.2.2.2.2.2.2.2.2.2.2.2.2.2.2.2.2.2.2.2.2.2.2.2.2.2.2.2.2.2.2.2.2.2.2.2.2.2.2.2.2.2.2.2.2.2.2.2.2.2.2.2.2.2.2.2.2.2.2.2.2.2.2.2.2.2.2.2.2.2.2.2.2.2.2.2.2.2.2.1 (by have z0 := p2 c1; have z1 := p3 c1; omega) (by have z0 := p2 c1; have z1 := p3 c1; omega) rfl).trans ?_
      refine (rg_static (pc := 26) (dd bX13_brackets dX13_brackets_26) rfl (by decide) (Nat.le_of_ble_eq_true rfl) (as := [(0, h 2 311 x3)]) rfl rfl ⟨Nat.le_of_ble_eq_true rfl, Nat.le_of_ble_eq_true rfl, Nat.le_of_ble_eq_true rfl, Nat.le_of_ble_eq_true rfl⟩).trans ?_
      refine (vret_v spX13_closing).trans ?_
      refine (rn_iconst (pc := 29) (dd bX13_brackets dX13_brackets_29) (by decide)).trans ?_
      refine (rn_icmp_eq (t := 73) (pc := 30) (dd bX13_brackets dX13_brackets_30) rfl).trans (itec (fun c3 => ?_) (fun c3 => ?_))
      · refine (rg_iinc (pc := 73) (dd bX13_brackets dX13_brackets_73) rfl (Nat.le_of_ble_eq_true rfl) (by have z0 := p2 c1; have z1 := p3 c1; omega) (by have z0 := p2 c1; have z1 := p3 c1; omega) rfl).trans ?_
        refine (rn_goto (t := 2) (pc := 76) (dd bX13_brackets dX13_brackets_76) rfl).trans ?_
        rfl
      · refine (rn_aload_n (pc := 33) (dd bX13_brackets dX13_brackets_33) rfl).trans ?_
        refine (rg_gf (pc := 34) (dd bX13_brackets dX13_brackets_34) (ci := 14) (j := 45) rfl rfl (key := 1545) rfl (kc := 34) rfl s1.1 s1.2.2.2.2.2.2.2.2.2.2.2.2.2.2.2.2.2.2.2.2.2.2.2.2.2.2.2.2.2.2.2.2.2.2.2.2.2.2.2.2.2.2.2.2.2.2.2.2.2.2.2.2.2.2.2.2.2.2.2.2.2.2.2.2.2.2.2.2.2.2.2.2.2.2.2.2.2.2.2.2.2.2.2.2.2.2.2.2.2.2.2.2.2.2.2.2.2.2.2.2.2.2.2.2.2.2.2.2.2.2.2.2.2.2.2.2.2.2.2.2.2.1).trans ?_
        refine (rn_iload_n (pc := 37) (dd bX13_brackets dX13_brackets_37) rfl).trans ?_
        refine (rg_iaload (pc := 38) (dd bX13_brackets dX13_brackets_38) s1.2.2.2.2.2.2.2.2.2.2.2.2.2.2.2.2.2.2.2.2.2.2.2.2.2.2.2.2.2.2.2.2.2.2.2.2.2.2.2.2.2.2.2.2.2.2.2.2.2.2.2.2.2.2.2.2.2.2.2.2.2.2.2.2.2.2.2.2.2.2.2.2.2.2.2.2.2.2.2.2.2.2.2.2.2.2.2.2.2.2.2.2.2.2.2.2.2.2.2.2.2.2.2.2.2.2.2.2.2.2.2.2.2.2.2.2.2.2.2.2.2.2.1 s1.2.2.2.2.2.2.2.2.2.2.2.2.2.2.2.2.2.2.2.2.2.2.2.2.2.2.2.2.2.2.2.2.2.2.2.2.2.2.2.2.2.2.2.2.2.2.2.2.2.2.2.2.2.2.2.2.2.2.2.2.2.2.2.2.2.2.2.2.2.2.2.2.2.2.2.2.2.2.2.2.2.2.2.2.2.2.2.2.2.2.2.2.2.2.2.2.2.2.2.2.2.2.2.2.2.2.2.2.2.2.2.2.2.2.2.2.2.2.2.2.2.2.2.1 (by have z0 := p2 c1; have z1 := p3 c1; omega) (by have z0 := p2 c1; have z1 := p3 c1; omega) rfl).trans ?_
        refine (rn_iconst (pc := 39) (dd bX13_brackets dX13_brackets_39) (by decide)).trans ?_
        refine (rn_icmp_eq (t := 73) (pc := 40) (dd bX13_brackets dX13_brackets_40) rfl).trans (itec (fun c4 => ?_) (fun c4 => ?_))
        · refine (rg_iinc (pc := 73) (dd bX13_brackets dX13_brackets_73) rfl (Nat.le_of_ble_eq_true rfl) (by have z0 := p2 c1; have z1 := p3 c1; omega) (by have z0 := p2 c1; have z1 := p3 c1; omega) rfl).trans ?_
          refine (rn_goto (t := 2) (pc := 76) (dd bX13_brackets dX13_brackets_76) rfl).trans ?_
          rfl
        · refine (rn_aload_n (pc := 43) (dd bX13_brackets dX13_brackets_43) rfl).trans ?_
          refine (rn_iload_n (pc := 44) (dd bX13_brackets dX13_brackets_44) rfl).trans ?_
          refine (rn_iload_n (pc := 45) (dd bX13_brackets dX13_brackets_45) rfl).trans ?_
          refine (rn_iload_n (pc := 46) (dd bX13_brackets dX13_brackets_46) rfl).trans ?_
          exact rg_virtual (pc := 47) (dd bX13_brackets dX13_brackets_47) rfl rfl (by decide) (kc := 34) rfl s1.1 (as := [(1, 282), (0, x1), (0, x3), (0, x2)]) rfl ⟨Nat.le_of_ble_eq_true rfl, Nat.le_of_ble_eq_true rfl, Nat.le_of_ble_eq_true rfl, Nat.le_of_ble_eq_true rfl⟩
    · refine (rg_iinc (pc := 73) (dd bX13_brackets dX13_brackets_73) rfl (Nat.le_of_ble_eq_true rfl) (by have z0 := p2 c1; have z1 := p3 c1; omega) (by have z0 := p2 c1; have z1 := p3 c1; omega) rfl).trans ?_
      refine (rn_goto (t := 2) (pc := 76) (dd bX13_brackets dX13_brackets_76) rfl).trans ?_
      rfl
theorem rX13_brackets_50 {x1 : Int} {x2 : Int} {x3 : Int} {v4 : vv} {y0 : Int} {h : vH} (s1 : shModel h) (p2 : 0 ≤ x3) (p3 : x3 < 140) (p4 : 0 ≤ h 2 323 x3) (p5 : h 2 323 x3 < 140) : vrun mX13_brackets 50 [(1, 282), (0, x1), (0, x2), (0, x3), v4] [(0, y0)] h = vrun mX13_brackets 2 [(1, 282), (0, x1), (0, x2), (0, x3 + 1), (0, y0)] [] (vup (vup h 2 321 x3 y0) 2 321 (h 2 323 x3) y0) := by
  refine (rn_istore (pc := 50) (dd bX13_brackets dX13_brackets_50) (Nat.le_of_ble_eq_true rfl) rfl).trans ?_
  refine (rn_aload_n (pc := 52) (dd bX13_brackets dX13_brackets_52) rfl).trans ?_
  refine (rg_gf (pc := 53) (dd bX13_brackets dX13_brackets_53) (ci := 14) (j := 43) rfl rfl (key := 1543) rfl (kc := 34) rfl s1.1 s1.2.2.2.2.2.2.2.2.2.2.2.2.2.2.2.2.2.2.2.2.2.2.2.2.2.2.2.2.2.2.2.2.2.2.2.2.2.2.2.2.2.2.2.2.2.2.2.2.2.2.2.2.2.2.2.2.2.2.2.2.2.2.2.2.2.2.2.2.2.2.2.2.2.2.2.2.2.2.2.2.2.2.2.2.2.2.2.2.2.2.2.2.2.2.2.2.2.2.2.2.2.2.2.2.2.2.2.2.2.2.2.2.2.2.2.1).trans ?_
  refine (rn_iload_n (pc := 56) (dd bX13_brackets dX13_brackets_56) rfl).trans ?_
  refine (rn_iload (pc := 57) (dd bX13_brackets dX13_brackets_57) rfl).trans ?_
  refine (rg_iastore (pc := 59) (dd bX13_brackets dX13_brackets_59) s1.2.2.2.2.2.2.2.2.2.2.2.2.2.2.2.2.2.2.2.2.2.2.2.2.2.2.2.2.2.2.2.2.2.2.2.2.2.2.2.2.2.2.2.2.2.2.2.2.2.2.2.2.2.2.2.2.2.2.2.2.2.2.2.2.2.2.2.2.2.2.2.2.2.2.2.2.2.2.2.2.2.2.2.2.2.2.2.2.2.2.2.2.2.2.2.2.2.2.2.2.2.2.2.2.2.2.2.2.2.2.2.2.2.2.2.2.1 s1.2.2.2.2.2.2.2.2.2.2.2.2.2.2.2.2.2.2.2.2.2.2.2.2.2.2.2.2.2.2.2.2.2.2.2.2.2.2.2.2.2.2.2.2.2.2.2.2.2.2.2.2.2.2.2.2.2.2.2.2.2.2.2.2.2.2.2.2.2.2.2.2.2.2.2.2.2.2.2.2.2.2.2.2.2.2.2.2.2.2.2.2.2.2.2.2.2.2.2.2.2.2.2.2.2.2.2.2.2.2.2.2.2.2.2.2.2.1 p2 p3).trans ?_
  refine (rn_aload_n (pc := 60) (dd bX13_brackets dX13_brackets_60) rfl).trans ?_
  refine (rg_gf (pc := 61) (dd bX13_brackets dX13_brackets_61) (ci := 14) (j := 43) rfl rfl (key := 1543) rfl (kc := 34) rfl ((vup_k (by decide)).trans s1.1) ((vup_k (by decide)).trans s1.2.2.2.2.2.2.2.2.2.2.2.2.2.2.2.2.2.2.2.2.2.2.2.2.2.2.2.2.2.2.2.2.2.2.2.2.2.2.2.2.2.2.2.2.2.2.2.2.2.2.2.2.2.2.2.2.2.2.2.2.2.2.2.2.2.2.2.2.2.2.2.2.2.2.2.2.2.2.2.2.2.2.2.2.2.2.2.2.2.2.2.2.2.2.2.2.2.2.2.2.2.2.2.2.2.2.2.2.2.2.2.2.2.2.2.1)).trans ?_
  refine (rn_aload_n (pc := 64) (dd bX13_brackets dX13_brackets_64) rfl).trans ?_
  refine (rg_gf (pc := 65) (dd bX13_brackets dX13_brackets_65) (ci := 14) (j := 45) rfl rfl (key := 1545) rfl (kc := 34) rfl ((vup_k (by decide)).trans s1.1) ((vup_k (by decide)).trans s1.2.2.2.2.2.2.2.2.2.2.2.2.2.2.2.2.2.2.2.2.2.2.2.2.2.2.2.2.2.2.2.2.2.2.2.2.2.2.2.2.2.2.2.2.2.2.2.2.2.2.2.2.2.2.2.2.2.2.2.2.2.2.2.2.2.2.2.2.2.2.2.2.2.2.2.2.2.2.2.2.2.2.2.2.2.2.2.2.2.2.2.2.2.2.2.2.2.2.2.2.2.2.2.2.2.2.2.2.2.2.2.2.2.2.2.2.2.2.2.2.2.1)).trans ?_
  refine (rn_iload_n (pc := 68) (dd bX13_brackets dX13_brackets_68) rfl).trans ?_
  refine (rg_iaload (pc := 69) (dd bX13_brackets dX13_brackets_69) ((vup_k (by decide)).trans s1.2.2.2.2.2.2.2.2.2.2.2.2.2.2.2.2.2.2.2.2.2.2.2.2.2.2.2.2.2.2.2.2.2.2.2.2.2.2.2.2.2.2.2.2.2.2.2.2.2.2.2.2.2.2.2.2.2.2.2.2.2.2.2.2.2.2.2.2.2.2.2.2.2.2.2.2.2.2.2.2.2.2.2.2.2.2.2.2.2.2.2.2.2.2.2.2.2.2.2.2.2.2.2.2.2.2.2.2.2.2.2.2.2.2.2.2.2.2.2.2.2.2.1) ((vup_k (by decide)).trans s1.2.2.2.2.2.2.2.2.2.2.2.2.2.2.2.2.2.2.2.2.2.2.2.2.2.2.2.2.2.2.2.2.2.2.2.2.2.2.2.2.2.2.2.2.2.2.2.2.2.2.2.2.2.2.2.2.2.2.2.2.2.2.2.2.2.2.2.2.2.2.2.2.2.2.2.2.2.2.2.2.2.2.2.2.2.2.2.2.2.2.2.2.2.2.2.2.2.2.2.2.2.2.2.2.2.2.2.2.2.2.2.2.2.2.2.2.2.2.2.2.2.2.2.1) (by omega) (by omega) ((vup_r (by omega)).trans rfl)).trans ?_
  refine (rn_iload (pc := 70) (dd bX13_brackets dX13_brackets_70) rfl).trans ?_
  refine (rg_iastore (pc := 72) (dd bX13_brackets dX13_brackets_72) ((vup_k (by decide)).trans s1.2.2.2.2.2.2.2.2.2.2.2.2.2.2.2.2.2.2.2.2.2.2.2.2.2.2.2.2.2.2.2.2.2.2.2.2.2.2.2.2.2.2.2.2.2.2.2.2.2.2.2.2.2.2.2.2.2.2.2.2.2.2.2.2.2.2.2.2.2.2.2.2.2.2.2.2.2.2.2.2.2.2.2.2.2.2.2.2.2.2.2.2.2.2.2.2.2.2.2.2.2.2.2.2.2.2.2.2.2.2.2.2.2.2.2.2.1) ((vup_k (by decide)).trans s1.2.2.2.2.2.2.2.2.2.2.2.2.2.2.2.2.2.2.2.2.2.2.2.2.2.2.2.2.2.2.2.2.2.2.2.2.2.2.2.2.2.2.2.2.2.2.2.2.2.2.2.2.2.2.2.2.2.2.2.2.2.2.2.2.2.2.2.2.2.2.2.2.2.2.2.2.2.2.2.2.2.2.2.2.2.2.2.2.2.2.2.2.2.2.2.2.2.2.2.2.2.2.2.2.2.2.2.2.2.2.2.2.2.2.2.2.2.1) p4 p5).trans ?_
  refine (rg_iinc (pc := 73) (dd bX13_brackets dX13_brackets_73) rfl (Nat.le_of_ble_eq_true rfl) (by omega) (by omega) rfl).trans ?_
  refine (rn_goto (t := 2) (pc := 76) (dd bX13_brackets dX13_brackets_76) rfl).trans ?_
  rfl
theorem bX13_levels : vmB mX13_levels = cX13_levels := rfl
theorem rX13_levels_0 {x1 : Int} {x2 : Int} {x3 : Int} {h : vH} (p1 : (-2147483648) ≤ x3 + x2) (p2 : x3 + x2 < 2147483648) (p3 : 0 ≤ x3 + x2) (p4 : (-2147483648) ≤ x3 + (x3 + x2) % 2) (p5 : x3 + (x3 + x2) % 2 < 2147483648) (s6 : shModel h) (p7 : x2 = 1 → 0 ≤ x1) (p8 : x2 = 1 → x1 < 140) (p9 : x3 + (x3 + x2) % 2 + (if x2 = 1 ∧ ¬ (h 2 311 x1 < 48) ∧ ¬ (57 < h 2 311 x1) then 1 else 0) < 2147483648) (p10 : 0 ≤ x1) (p11 : x1 < 140) : vrun mX13_levels 0 [(1, 282), (0, x1), (0, x2), (0, x3), (9, 0)] [] h = some (.inl none, vup h 2 316 x1 (x3 + (x3 + x2) % 2 + (if x2 = 1 ∧ ¬ (h 2 311 x1 < 48) ∧ ¬ (57 < h 2 311 x1) then 1 else 0))) := by
  refine (rn_iload_n (pc := 0) (dd bX13_levels dX13_levels_0) rfl).trans ?_
  refine (rn_iload_n (pc := 1) (dd bX13_levels dX13_levels_1) rfl).trans ?_
  refine (rn_iload_n (pc := 2) (dd bX13_levels dX13_levels_2) rfl).trans ?_
  refine (rg_iadd (pc := 3) (dd bX13_levels dX13_levels_3) p1 p2).trans ?_
  refine (rn_iconst (pc := 4) (dd bX13_levels dX13_levels_4) (by decide)).trans ?_
  refine (rg_irem (pc := 5) (dd bX13_levels dX13_levels_5) (by decide) p3).trans ?_
  refine (rg_iadd (pc := 6) (dd bX13_levels dX13_levels_6) p4 p5).trans ?_
  refine (rn_istore (pc := 7) (dd bX13_levels dX13_levels_7) (Nat.le_of_ble_eq_true rfl) rfl).trans ?_
  refine (rn_aload_n (pc := 9) (dd bX13_levels dX13_levels_9) rfl).trans ?_
  refine (rg_gf (pc := 10) (dd bX13_levels dX13_levels_10) (ci := 14) (j := 35) rfl rfl (key := 1535) rfl (kc := 34) rfl s6.1 s6.2.2.2.2.2.2.2.2.2.2.2.2.2.2.2.2.2.2.2.2.2.2.2.2.2.2.2.2.2.2.2.2.2.2.2.2.2.2.2.2.2.2.2.2.2.2.2.2.2.2.2.2.2.2.2.2.2.2.2.2.2.2.2.2.2.2.2.2.2.2.2.2.2.2.2.2.2.2.2.2.2.2.2.2.2.2.2.2.2.2.2.2.2.2.2.2.2.2.2.2.1).trans ?_
  refine (rn_iload_n (pc := 13) (dd bX13_levels dX13_levels_13) rfl).trans ?_
  refine (rn_iload (pc := 14) (dd bX13_levels dX13_levels_14) rfl).trans ?_
  refine (rn_iload_n (pc := 16) (dd bX13_levels dX13_levels_16) rfl).trans ?_
  refine (rn_iconst (pc := 17) (dd bX13_levels dX13_levels_17) (by decide)).trans ?_
  have e2 : vrun mX13_levels 18 [(1, 282), (0, x1), (0, x2), (0, x3), (0, x3 + (x3 + x2) % 2)] [(0, 1), (0, x2), (0, x3 + (x3 + x2) % 2), (0, x1), (1, 316)] h = vrun mX13_levels 38 [(1, 282), (0, x1), (0, x2), (0, x3), (0, x3 + (x3 + x2) % 2)] [(0, (if x2 = 1 ∧ ¬ (h 2 311 x1 < 48) ∧ ¬ (57 < h 2 311 x1) then 1 else 0)), (0, x3 + (x3 + x2) % 2), (0, x1), (1, 316)] h := by
    refine (rg_icmp_ne (t := 37) (pc := 18) (dd bX13_levels dX13_levels_18) rfl).trans ?_
    by_cases c1 : x2 = 1
    · refine (if_pos c1).trans ?_
      refine (rn_aload_n (pc := 21) (dd bX13_levels dX13_levels_21) rfl).trans ?_
      refine (rg_gf (pc := 22) (dd bX13_levels dX13_levels_22) (ci := 14) (j := 30) rfl rfl (key := 1530) rfl (kc := 34) rfl s6.1 s6.2.2.2.2.2.2.2.2.2.2.2.2.2.2.2.2.2.2.2.2.2.2.2.2.2.2.2.2.2.2.2.2.2.2.2.2.2.2.2.2.2.2.2.2.2.2.2.2.2.2.2.2.2.2.2.2.2.2.2.2.2.2.2.2.2.2.2.2.2.2.2.2.2.2.2.2.2.2.2.2.2.2.2.2.2.1).trans ?_
      refine (rn_iload_n (pc := 25) (dd bX13_levels dX13_levels_25) rfl).trans ?_
      refine (rg_iaload (pc := 26) (dd bX13_levels dX13_levels_26) s6.2.2.2.2.2.2.2.2.2.2.2.2.2.2.2.2.2.2.2.2.2.2.2.2.2.2.2.2.2.2.2.2.2.2.2.2.2.2.2.2.2.2.2.2.2.2.2.2.2.2.2.2.2.2.2.2.2.2.2.2.2.2.2.2.2.2.2.2.2.2.2.2.2.2.2.2.2.2.2.2.2.2.2.2.2.2.1 s6.2.2.2.2.2.2.2.2.2.2.2.2.2.2.2.2.2.2.2.2.2.2.2.2.2.2.2.2.2.2.2.2.2.2.2.2.2.2.2.2.2.2.2.2.2.2.2.2.2.2.2.2.2.2.2.2.2.2.2.2.2.2.2.2.2.2.2.2.2.2.2.2.2.2.2.2.2.2.2.2.2.2.2.2.2.2.2.1 (p7 c1) (p8 c1) rfl).trans ?_
      refine (rg_static (pc := 27) (dd bX13_levels dX13_levels_27) rfl (by decide) (Nat.le_of_ble_eq_true rfl) (as := [(0, h 2 311 x1)]) rfl rfl ⟨Nat.le_of_ble_eq_true rfl, Nat.le_of_ble_eq_true rfl, Nat.le_of_ble_eq_true rfl, Nat.le_of_ble_eq_true rfl⟩).trans ?_
      refine (vret_v spX13_isFigure).trans ?_
      have e1 : vrun mX13_levels 30 [(1, 282), (0, x1), (0, x2), (0, x3), (0, x3 + (x3 + x2) % 2)] [(0, (if ¬ (h 2 311 x1 < 48) ∧ ¬ (57 < h 2 311 x1) then 1 else 0)), (0, x3 + (x3 + x2) % 2), (0, x1), (1, 316)] h = vrun mX13_levels 38 [(1, 282), (0, x1), (0, x2), (0, x3), (0, x3 + (x3 + x2) % 2)] [(0, (if ¬ (h 2 311 x1 < 48) ∧ ¬ (57 < h 2 311 x1) then 1 else 0)), (0, x3 + (x3 + x2) % 2), (0, x1), (1, 316)] h := by
        refine (rg_beq (t := 37) (pc := 30) (dd bX13_levels dX13_levels_30) rfl).trans ?_
        by_cases c2 : ¬ (h 2 311 x1 < 48) ∧ ¬ (57 < h 2 311 x1)
        · refine (if_pos c2).trans ?_
          refine (rn_iconst (pc := 33) (dd bX13_levels dX13_levels_33) (by decide)).trans ?_
          refine (rn_goto (t := 38) (pc := 34) (dd bX13_levels dX13_levels_34) rfl).trans ?_
          refine Eq.trans (b := vrun mX13_levels 38 [(1, 282), (0, x1), (0, x2), (0, x3), (0, x3 + (x3 + x2) % 2)] [(0, 1), (0, x3 + (x3 + x2) % 2), (0, x1), (1, 316)] h) rfl ?_
          simp only [c2, true_or, false_or, or_true, or_false, true_and, false_and, and_true, and_false, not_true_eq_false, not_false_eq_true, ne_eq, if_true, if_false, ↓reduceIte]
        · refine (if_neg c2).trans ?_
          refine (rn_iconst (pc := 37) (dd bX13_levels dX13_levels_37) (by decide)).trans ?_
          refine Eq.trans (b := vrun mX13_levels 38 [(1, 282), (0, x1), (0, x2), (0, x3), (0, x3 + (x3 + x2) % 2)] [(0, 0), (0, x3 + (x3 + x2) % 2), (0, x1), (1, 316)] h) rfl ?_
          simp only [c2, true_or, false_or, or_true, or_false, true_and, false_and, and_true, and_false, not_true_eq_false, not_false_eq_true, ne_eq, if_true, if_false, ↓reduceIte]
      refine e1.trans ?_
      refine Eq.trans (b := vrun mX13_levels 38 [(1, 282), (0, x1), (0, x2), (0, x3), (0, x3 + (x3 + x2) % 2)] [(0, (if ¬ (h 2 311 x1 < 48) ∧ ¬ (57 < h 2 311 x1) then 1 else 0)), (0, x3 + (x3 + x2) % 2), (0, x1), (1, 316)] h) rfl ?_
      simp only [c1, true_or, false_or, or_true, or_false, true_and, false_and, and_true, and_false, not_true_eq_false, not_false_eq_true, ne_eq, if_true, if_false, ↓reduceIte]
    · refine (if_neg c1).trans ?_
      refine (rn_iconst (pc := 37) (dd bX13_levels dX13_levels_37) (by decide)).trans ?_
      refine Eq.trans (b := vrun mX13_levels 38 [(1, 282), (0, x1), (0, x2), (0, x3), (0, x3 + (x3 + x2) % 2)] [(0, 0), (0, x3 + (x3 + x2) % 2), (0, x1), (1, 316)] h) rfl ?_
      simp only [c1, true_or, false_or, or_true, or_false, true_and, false_and, and_true, and_false, not_true_eq_false, not_false_eq_true, ne_eq, if_true, if_false, ↓reduceIte]
  refine e2.trans ?_
  refine (rg_iadd (pc := 38) (dd bX13_levels dX13_levels_38) (by omega) p9).trans ?_
  refine (rg_iastore (pc := 39) (dd bX13_levels dX13_levels_39) s6.2.2.2.2.2.2.2.2.2.2.2.2.2.2.2.2.2.2.2.2.2.2.2.2.2.2.2.2.2.2.2.2.2.2.2.2.2.2.2.2.2.2.2.2.2.2.2.2.2.2.2.2.2.2.2.2.2.2.2.2.2.2.2.2.2.2.2.2.2.2.2.2.2.2.2.2.2.2.2.2.2.2.2.2.2.2.2.2.2.2.2.2.2.2.2.2.2.2.2.2.2.1 s6.2.2.2.2.2.2.2.2.2.2.2.2.2.2.2.2.2.2.2.2.2.2.2.2.2.2.2.2.2.2.2.2.2.2.2.2.2.2.2.2.2.2.2.2.2.2.2.2.2.2.2.2.2.2.2.2.2.2.2.2.2.2.2.2.2.2.2.2.2.2.2.2.2.2.2.2.2.2.2.2.2.2.2.2.2.2.2.2.2.2.2.2.2.2.2.2.2.2.2.2.2.2.1 p10 p11).trans ?_
  exact rn_return (pc := 40) (dd bX13_levels dX13_levels_40) rfl
theorem bX13_neutral : vmB mX13_neutral = cX13_neutral := rfl
theorem rX13_neutral_0 {x1 : Int} {x2 : Int} {x3 : Int} {h : vH} : vrun mX13_neutral 0 [(1, 282), (0, x1), (0, x2), (0, x3), (9, 0), (9, 0), (9, 0), (9, 0)] [] h = vrun mX13_neutral 6 [(1, 282), (0, x1), (0, x2), (0, x3), (0, x2), (0, 0), (9, 0), (9, 0)] [] h := by
  refine (rn_iload_n (pc := 0) (dd bX13_neutral dX13_neutral_0) rfl).trans ?_
  refine (rn_istore (pc := 1) (dd bX13_neutral dX13_neutral_1) (Nat.le_of_ble_eq_true rfl) rfl).trans ?_
  refine (rn_iconst (pc := 3) (dd bX13_neutral dX13_neutral_3) (by decide)).trans ?_
  refine (rn_istore (pc := 4) (dd bX13_neutral dX13_neutral_4) (Nat.le_of_ble_eq_true rfl) rfl).trans ?_
  rfl
theorem rX13_neutral_6 {x1 : Int} {x2 : Int} {x3 : Int} {x4 : Int} {x5 : Int} {v6 : vv} {v7 : vv} {h : vH} (s1 : shModel h) (p2 : ¬ (h 1540 282 0 ≤ x5) → 0 ≤ x5) (p3 : ¬ (h 1540 282 0 ≤ x5) → x5 < 140) : vrun mX13_neutral 6 [(1, 282), (0, x1), (0, x2), (0, x3), (0, x4), (0, x5), v6, v7] [] h = if h 1540 282 0 ≤ x5 then some (.inl none, h) else if h 2 322 x5 = x1 then if h 2 321 x5 = (-1) then vrun mX13_neutral 43 [(1, 282), (0, x1), (0, x2), (0, x3), (0, x4), (0, x5), (0, x5 + 1), v7] [] h else if h 2 322 x5 = x1 then vret vrun mX13_neutral 156 [(1, 282), (0, x1), (0, x2), (0, x3), (0, h 2 321 x5), (0, x5), v6, v7] [] (vcl mX13_levels [(1, 282), (0, x5), (0, h 2 321 x5), (0, x3)] h) else vrun mX13_neutral 6 [(1, 282), (0, x1), (0, x2), (0, x3), (0, x4), (0, x5 + 1), v6, v7] [] h else if h 2 322 x5 = x1 then vret vrun mX13_neutral 156 [(1, 282), (0, x1), (0, x2), (0, x3), (0, h 2 321 x5), (0, x5), v6, v7] [] (vcl mX13_levels [(1, 282), (0, x5), (0, h 2 321 x5), (0, x3)] h) else vrun mX13_neutral 6 [(1, 282), (0, x1), (0, x2), (0, x3), (0, x4), (0, x5 + 1), v6, v7] [] h := by
  refine (rn_iload (pc := 6) (dd bX13_neutral dX13_neutral_6) rfl).trans ?_
  refine (rn_aload_n (pc := 8) (dd bX13_neutral dX13_neutral_8) rfl).trans ?_
  refine (rg_gf (pc := 9) (dd bX13_neutral dX13_neutral_9) (ci := 14) (j := 40) rfl rfl (key := 1540) rfl (kc := 34) rfl s1.1 rfl).trans ?_
  refine (rn_icmp_ge (t := 165) (pc := 12) (dd bX13_neutral dX13_neutral_12) rfl).trans (itec (fun c1 => ?_) (fun c1 => ?_))
  · exact rn_return (pc := 165) (dd bX13_neutral dX13_neutral_165) rfl
  · refine (rn_aload_n (pc := 15) (dd bX13_neutral dX13_neutral_15) rfl).trans ?_
    refine (rg_gf (pc := 16) (dd bX13_neutral dX13_neutral_16) (ci := 14) (j := 44) rfl rfl (key := 1544) rfl (kc := 34) rfl s1.1 s1.2.2.2.2.2.2.2.2.2.2.2.2.2.2.2.2.2.2.2.2.2.2.2.2.2.2.2.2.2.2.2.2.2.2.2.2.2.2.2.2.2.2.2.2.2.2.2.2.2.2.2.2.2.2.2.2.2.2.2.2.2.2.2.2.2.2.2.2.2.2.2.2.2.2.2.2.2.2.2.2.2.2.2.2.2.2.2.2.2.2.2.2.2.2.2.2.2.2.2.2.2.2.2.2.2.2.2.2.2.2.2.2.2.2.2.2.2.2.1).trans ?_
    refine (rn_iload (pc := 19) (dd bX13_neutral dX13_neutral_19) rfl).trans ?_
    refine (rg_iaload (pc := 21) (dd bX13_neutral dX13_neutral_21) s1.2.2.2.2.2.2.2.2.2.2.2.2.2.2.2.2.2.2.2.2.2.2.2.2.2.2.2.2.2.2.2.2.2.2.2.2.2.2.2.2.2.2.2.2.2.2.2.2.2.2.2.2.2.2.2.2.2.2.2.2.2.2.2.2.2.2.2.2.2.2.2.2.2.2.2.2.2.2.2.2.2.2.2.2.2.2.2.2.2.2.2.2.2.2.2.2.2.2.2.2.2.2.2.2.2.2.2.2.2.2.2.2.2.2.2.2.2.2.2.1 s1.2.2.2.2.2.2.2.2.2.2.2.2.2.2.2.2.2.2.2.2.2.2.2.2.2.2.2.2.2.2.2.2.2.2.2.2.2.2.2.2.2.2.2.2.2.2.2.2.2.2.2.2.2.2.2.2.2.2.2.2.2.2.2.2.2.2.2.2.2.2.2.2.2.2.2.2.2.2.2.2.2.2.2.2.2.2.2.2.2.2.2.2.2.2.2.2.2.2.2.2.2.2.2.2.2.2.2.2.2.2.2.2.2.2.2.2.2.2.2.2.1 (p2 c1) (p3 c1) rfl).trans ?_
    refine (rn_iload_n (pc := 22) (dd bX13_neutral dX13_neutral_22) rfl).trans ?_
    refine (rg_icmp_ne (t := 125) (pc := 23) (dd bX13_neutral dX13_neutral_23) rfl).trans (itec (fun c2 => ?_) (fun c2 => ?_))
    · refine (rn_aload_n (pc := 26) (dd bX13_neutral dX13_neutral_26) rfl).trans ?_
      refine (rg_gf (pc := 27) (dd bX13_neutral dX13_neutral_27) (ci := 14) (j := 43) rfl rfl (key := 1543) rfl (kc := 34) rfl s1.1 s1.2.2.2.2.2.2.2.2.2.2.2.2.2.2.2.2.2.2.2.2.2.2.2.2.2.2.2.2.2.2.2.2.2.2.2.2.2.2.2.2.2.2.2.2.2.2.2.2.2.2.2.2.2.2.2.2.2.2.2.2.2.2.2.2.2.2.2.2.2.2.2.2.2.2.2.2.2.2.2.2.2.2.2.2.2.2.2.2.2.2.2.2.2.2.2.2.2.2.2.2.2.2.2.2.2.2.2.2.2.2.2.2.2.2.2.1).trans ?_
      refine (rn_iload (pc := 30) (dd bX13_neutral dX13_neutral_30) rfl).trans ?_
      refine (rg_iaload (pc := 32) (dd bX13_neutral dX13_neutral_32) s1.2.2.2.2.2.2.2.2.2.2.2.2.2.2.2.2.2.2.2.2.2.2.2.2.2.2.2.2.2.2.2.2.2.2.2.2.2.2.2.2.2.2.2.2.2.2.2.2.2.2.2.2.2.2.2.2.2.2.2.2.2.2.2.2.2.2.2.2.2.2.2.2.2.2.2.2.2.2.2.2.2.2.2.2.2.2.2.2.2.2.2.2.2.2.2.2.2.2.2.2.2.2.2.2.2.2.2.2.2.2.2.2.2.2.2.2.1 s1.2.2.2.2.2.2.2.2.2.2.2.2.2.2.2.2.2.2.2.2.2.2.2.2.2.2.2.2.2.2.2.2.2.2.2.2.2.2.2.2.2.2.2.2.2.2.2.2.2.2.2.2.2.2.2.2.2.2.2.2.2.2.2.2.2.2.2.2.2.2.2.2.2.2.2.2.2.2.2.2.2.2.2.2.2.2.2.2.2.2.2.2.2.2.2.2.2.2.2.2.2.2.2.2.2.2.2.2.2.2.2.2.2.2.2.2.2.1 (by have z0 := p2 c1; have z1 := p3 c1; omega) (by have z0 := p2 c1; have z1 := p3 c1; omega) rfl).trans ?_
      refine (rn_iconst (pc := 33) (dd bX13_neutral dX13_neutral_33) (by decide)).trans ?_
      refine (rg_icmp_ne (t := 125) (pc := 34) (dd bX13_neutral dX13_neutral_34) rfl).trans (itec (fun c3 => ?_) (fun c3 => ?_))
      · refine (rn_iload (pc := 37) (dd bX13_neutral dX13_neutral_37) rfl).trans ?_
        refine (rn_iconst (pc := 39) (dd bX13_neutral dX13_neutral_39) (by decide)).trans ?_
        refine (rg_iadd (pc := 40) (dd bX13_neutral dX13_neutral_40) (by have z0 := p2 c1; have z1 := p3 c1; omega) (by have z0 := p2 c1; have z1 := p3 c1; omega)).trans ?_
        refine (rn_istore (pc := 41) (dd bX13_neutral dX13_neutral_41) (Nat.le_of_ble_eq_true rfl) rfl).trans ?_
        rfl
      · refine (rn_aload_n (pc := 125) (dd bX13_neutral dX13_neutral_125) rfl).trans ?_
        refine (rg_gf (pc := 126) (dd bX13_neutral dX13_neutral_126) (ci := 14) (j := 44) rfl rfl (key := 1544) rfl (kc := 34) rfl s1.1 s1.2.2.2.2.2.2.2.2.2.2.2.2.2.2.2.2.2.2.2.2.2.2.2.2.2.2.2.2.2.2.2.2.2.2.2.2.2.2.2.2.2.2.2.2.2.2.2.2.2.2.2.2.2.2.2.2.2.2.2.2.2.2.2.2.2.2.2.2.2.2.2.2.2.2.2.2.2.2.2.2.2.2.2.2.2.2.2.2.2.2.2.2.2.2.2.2.2.2.2.2.2.2.2.2.2.2.2.2.2.2.2.2.2.2.2.2.2.2.1).trans ?_
        refine (rn_iload (pc := 129) (dd bX13_neutral dX13_neutral_129) rfl).trans ?_
        refine (rg_iaload (pc := 131) (dd bX13_neutral dX13_neutral_131) s1.2.2.2.2.2.2.2.2.2.2.2.2.2.2.2.2.2.2.2.2.2.2.2.2.2.2.2.2.2.2.2.2.2.2.2.2.2.2.2.2.2.2.2.2.2.2.2.2.2.2.2.2.2.2.2.2.2.2.2.2.2.2.2.2.2.2.2.2.2.2.2.2.2.2.2.2.2.2.2.2.2.2.2.2.2.2.2.2.2.2.2.2.2.2.2.2.2.2.2.2.2.2.2.2.2.2.2.2.2.2.2.2.2.2.2.2.2.2.2.1 s1.2.2.2.2.2.2.2.2.2.2.2.2.2.2.2.2.2.2.2.2.2.2.2.2.2.2.2.2.2.2.2.2.2.2.2.2.2.2.2.2.2.2.2.2.2.2.2.2.2.2.2.2.2.2.2.2.2.2.2.2.2.2.2.2.2.2.2.2.2.2.2.2.2.2.2.2.2.2.2.2.2.2.2.2.2.2.2.2.2.2.2.2.2.2.2.2.2.2.2.2.2.2.2.2.2.2.2.2.2.2.2.2.2.2.2.2.2.2.2.2.1 (by have z0 := p2 c1; have z1 := p3 c1; omega) (by have z0 := p2 c1; have z1 := p3 c1; omega) rfl).trans ?_
        refine (rn_iload_n (pc := 132) (dd bX13_neutral dX13_neutral_132) rfl).trans ?_
        refine (rg_icmp_ne (t := 159) (pc := 133) (dd bX13_neutral dX13_neutral_133) rfl).trans (itec (fun c4 => ?_) (fun c4 => ?_))
        · refine (rn_aload_n (pc := 136) (dd bX13_neutral dX13_neutral_136) rfl).trans ?_
          refine (rg_gf (pc := 137) (dd bX13_neutral dX13_neutral_137) (ci := 14) (j := 43) rfl rfl (key := 1543) rfl (kc := 34) rfl s1.1 s1.2.2.2.2.2.2.2.2.2.2.2.2.2.2.2.2.2.2.2.2.2.2.2.2.2.2.2.2.2.2.2.2.2.2.2.2.2.2.2.2.2.2.2.2.2.2.2.2.2.2.2.2.2.2.2.2.2.2.2.2.2.2.2.2.2.2.2.2.2.2.2.2.2.2.2.2.2.2.2.2.2.2.2.2.2.2.2.2.2.2.2.2.2.2.2.2.2.2.2.2.2.2.2.2.2.2.2.2.2.2.2.2.2.2.2.1).trans ?_
          refine (rn_iload (pc := 140) (dd bX13_neutral dX13_neutral_140) rfl).trans ?_
          refine (rg_iaload (pc := 142) (dd bX13_neutral dX13_neutral_142) s1.2.2.2.2.2.2.2.2.2.2.2.2.2.2.2.2.2.2.2.2.2.2.2.2.2.2.2.2.2.2.2.2.2.2.2.2.2.2.2.2.2.2.2.2.2.2.2.2.2.2.2.2.2.2.2.2.2.2.2.2.2.2.2.2.2.2.2.2.2.2.2.2.2.2.2.2.2.2.2.2.2.2.2.2.2.2.2.2.2.2.2.2.2.2.2.2.2.2.2.2.2.2.2.2.2.2.2.2.2.2.2.2.2.2.2.2.1 s1.2.2.2.2.2.2.2.2.2.2.2.2.2.2.2.2.2.2.2.2.2.2.2.2.2.2.2.2.2.2.2.2.2.2.2.2.2.2.2.2.2.2.2.2.2.2.2.2.2.2.2.2.2.2.2.2.2.2.2.2.2.2.2.2.2.2.2.2.2.2.2.2.2.2.2.2.2.2.2.2.2.2.2.2.2.2.2.2.2.2.2.2.2.2.2.2.2.2.2.2.2.2.2.2.2.2.2.2.2.2.2.2.2.2.2.2.2.1 (by have z0 := p2 c1; have z1 := p3 c1; omega) (by have z0 := p2 c1; have z1 := p3 c1; omega) rfl).trans ?_
          refine (rn_istore (pc := 143) (dd bX13_neutral dX13_neutral_143) (Nat.le_of_ble_eq_true rfl) rfl).trans ?_
          refine (rn_aload_n (pc := 145) (dd bX13_neutral dX13_neutral_145) rfl).trans ?_
          refine (rn_iload (pc := 146) (dd bX13_neutral dX13_neutral_146) rfl).trans ?_
          refine (rn_aload_n (pc := 148) (dd bX13_neutral dX13_neutral_148) rfl).trans ?_
          refine (rg_gf (pc := 149) (dd bX13_neutral dX13_neutral_149) (ci := 14) (j := 43) rfl rfl (key := 1543) rfl (kc := 34) rfl s1.1 s1.2.2.2.2.2.2.2.2.2.2.2.2.2.2.2.2.2.2.2.2.2.2.2.2.2.2.2.2.2.2.2.2.2.2.2.2.2.2.2.2.2.2.2.2.2.2.2.2.2.2.2.2.2.2.2.2.2.2.2.2.2.2.2.2.2.2.2.2.2.2.2.2.2.2.2.2.2.2.2.2.2.2.2.2.2.2.2.2.2.2.2.2.2.2.2.2.2.2.2.2.2.2.2.2.2.2.2.2.2.2.2.2.2.2.2.1).trans ?_
          refine (rn_iload (pc := 152) (dd bX13_neutral dX13_neutral_152) rfl).trans ?_
          refine (rg_iaload (pc := 154) (dd bX13_neutral dX13_neutral_154) s1.2.2.2.2.2.2.2.2.2.2.2.2.2.2.2.2.2.2.2.2.2.2.2.2.2.2.2.2.2.2.2.2.2.2.2.2.2.2.2.2.2.2.2.2.2.2.2.2.2.2.2.2.2.2.2.2.2.2.2.2.2.2.2.2.2.2.2.2.2.2.2.2.2.2.2.2.2.2.2.2.2.2.2.2.2.2.2.2.2.2.2.2.2.2.2.2.2.2.2.2.2.2.2.2.2.2.2.2.2.2.2.2.2.2.2.2.1 s1.2.2.2.2.2.2.2.2.2.2.2.2.2.2.2.2.2.2.2.2.2.2.2.2.2.2.2.2.2.2.2.2.2.2.2.2.2.2.2.2.2.2.2.2.2.2.2.2.2.2.2.2.2.2.2.2.2.2.2.2.2.2.2.2.2.2.2.2.2.2.2.2.2.2.2.2.2.2.2.2.2.2.2.2.2.2.2.2.2.2.2.2.2.2.2.2.2.2.2.2.2.2.2.2.2.2.2.2.2.2.2.2.2.2.2.2.2.1 (by have z0 := p2 c1; have z1 := p3 c1; omega) (by have z0 := p2 c1; have z1 := p3 c1; omega) rfl).trans ?_
          refine (rn_iload_n (pc := 155) (dd bX13_neutral dX13_neutral_155) rfl).trans ?_
          exact rg_virtual (pc := 156) (dd bX13_neutral dX13_neutral_156) rfl rfl (by decide) (kc := 34) rfl s1.1 (as := [(1, 282), (0, x5), (0, h 2 321 x5), (0, x3)]) rfl ⟨Nat.le_of_ble_eq_true rfl, Nat.le_of_ble_eq_true rfl, Nat.le_of_ble_eq_true rfl, Nat.le_of_ble_eq_true rfl⟩
        · refine (rg_iinc (pc := 159) (dd bX13_neutral dX13_neutral_159) rfl (Nat.le_of_ble_eq_true rfl) (by have z0 := p2 c1; have z1 := p3 c1; omega) (by have z0 := p2 c1; have z1 := p3 c1; omega) rfl).trans ?_
          refine (rn_goto (t := 6) (pc := 162) (dd bX13_neutral dX13_neutral_162) rfl).trans ?_
          rfl
    · refine (rn_aload_n (pc := 125) (dd bX13_neutral dX13_neutral_125) rfl).trans ?_
      refine (rg_gf (pc := 126) (dd bX13_neutral dX13_neutral_126) (ci := 14) (j := 44) rfl rfl (key := 1544) rfl (kc := 34) rfl s1.1 s1.2.2.2.2.2.2.2.2.2.2.2.2.2.2.2.2.2.2.2.2.2.2.2.2.2.2.2.2.2.2.2.2.2.2.2.2.2.2.2.2.2.2.2.2.2.2.2.2.2.2.2.2.2.2.2.2.2.2.2.2.2.2.2.2.2.2.2.2.2.2.2.2.2.2.2.2.2.2.2.2.2.2.2.2.2.2.2.2.2.2.2.2.2.2.2.2.2.2.2.2.2.2.2.2.2.2.2.2.2.2.2.2.2.2.2.2.2.2.1).trans ?_
      refine (rn_iload (pc := 129) (dd bX13_neutral dX13_neutral_129) rfl).trans ?_
      refine (rg_iaload (pc := 131) (dd bX13_neutral dX13_neutral_131) s1.2.2.2.2.2.2.2.2.2.2.2.2.2.2.2.2.2.2.2.2.2.2.2.2.2.2.2.2.2.2.2.2.2.2.2.2.2.2.2.2.2.2.2.2.2.2.2.2.2.2.2.2.2.2.2.2.2.2.2.2.2.2.2.2.2.2.2.2.2.2.2.2.2.2.2.2.2.2.2.2.2.2.2.2.2.2.2.2.2.2.2.2.2.2.2.2.2.2.2.2.2.2.2.2.2.2.2.2.2.2.2.2.2.2.2.2.2.2.2.1 s1.2.2.2.2.2.2.2.2.2.2.2.2.2.2.2.2.2.2.2.2.2.2.2.2.2.2.2.2.2.2.2.2.2.2.2.2.2.2.2.2.2.2.2.2.2.2.2.2.2.2.2.2.2.2.2.2.2.2.2.2.2.2.2.2.2.2.2.2.2.2.2.2.2.2.2.2.2.2.2.2.2.2.2.2.2.2.2.2.2.2.2.2.2.2.2.2.2.2.2.2.2.2.2.2.2.2.2.2.2.2.2.2.2.2.2.2.2.2.2.2.1 (by have z0 := p2 c1; have z1 := p3 c1; omega) (by have z0 := p2 c1; have z1 := p3 c1; omega) rfl).trans ?_
      refine (rn_iload_n (pc := 132) (dd bX13_neutral dX13_neutral_132) rfl).trans ?_
      refine (rg_icmp_ne (t := 159) (pc := 133) (dd bX13_neutral dX13_neutral_133) rfl).trans (itec (fun c5 => ?_) (fun c5 => ?_))
      · refine (rn_aload_n (pc := 136) (dd bX13_neutral dX13_neutral_136) rfl).trans ?_
        refine (rg_gf (pc := 137) (dd bX13_neutral dX13_neutral_137) (ci := 14) (j := 43) rfl rfl (key := 1543) rfl (kc := 34) rfl s1.1 s1.2.2.2.2.2.2.2.2.2.2.2.2.2.2.2.2.2.2.2.2.2.2.2.2.2.2.2.2.2.2.2.2.2.2.2.2.2.2.2.2.2.2.2.2.2.2.2.2.2.2.2.2.2.2.2.2.2.2.2.2.2.2.2.2.2.2.2.2.2.2.2.2.2.2.2.2.2.2.2.2.2.2.2.2.2.2.2.2.2.2.2.2.2.2.2.2.2.2.2.2.2.2.2.2.2.2.2.2.2.2.2.2.2.2.2.1).trans ?_
        refine (rn_iload (pc := 140) (dd bX13_neutral dX13_neutral_140) rfl).trans ?_
        refine (rg_iaload (pc := 142) (dd bX13_neutral dX13_neutral_142) s1.2.2.2.2.2.2.2.2.2.2.2.2.2.2.2.2.2.2.2.2.2.2.2.2.2.2.2.2.2.2.2.2.2.2.2.2.2.2.2.2.2.2.2.2.2.2.2.2.2.2.2.2.2.2.2.2.2.2.2.2.2.2.2.2.2.2.2.2.2.2.2.2.2.2.2.2.2.2.2.2.2.2.2.2.2.2.2.2.2.2.2.2.2.2.2.2.2.2.2.2.2.2.2.2.2.2.2.2.2.2.2.2.2.2.2.2.1 s1.2.2.2.2.2.2.2.2.2.2.2.2.2.2.2.2.2.2.2.2.2.2.2.2.2.2.2.2.2.2.2.2.2.2.2.2.2.2.2.2.2.2.2.2.2.2.2.2.2.2.2.2.2.2.2.2.2.2.2.2.2.2.2.2.2.2.2.2.2.2.2.2.2.2.2.2.2.2.2.2.2.2.2.2.2.2.2.2.2.2.2.2.2.2.2.2.2.2.2.2.2.2.2.2.2.2.2.2.2.2.2.2.2.2.2.2.2.1 (by have z0 := p2 c1; have z1 := p3 c1; omega) (by have z0 := p2 c1; have z1 := p3 c1; omega) rfl).trans ?_
        refine (rn_istore (pc := 143) (dd bX13_neutral dX13_neutral_143) (Nat.le_of_ble_eq_true rfl) rfl).trans ?_
        refine (rn_aload_n (pc := 145) (dd bX13_neutral dX13_neutral_145) rfl).trans ?_
        refine (rn_iload (pc := 146) (dd bX13_neutral dX13_neutral_146) rfl).trans ?_
        refine (rn_aload_n (pc := 148) (dd bX13_neutral dX13_neutral_148) rfl).trans ?_
        refine (rg_gf (pc := 149) (dd bX13_neutral dX13_neutral_149) (ci := 14) (j := 43) rfl rfl (key := 1543) rfl (kc := 34) rfl s1.1 s1.2.2.2.2.2.2.2.2.2.2.2.2.2.2.2.2.2.2.2.2.2.2.2.2.2.2.2.2.2.2.2.2.2.2.2.2.2.2.2.2.2.2.2.2.2.2.2.2.2.2.2.2.2.2.2.2.2.2.2.2.2.2.2.2.2.2.2.2.2.2.2.2.2.2.2.2.2.2.2.2.2.2.2.2.2.2.2.2.2.2.2.2.2.2.2.2.2.2.2.2.2.2.2.2.2.2.2.2.2.2.2.2.2.2.2.1).trans ?_
        refine (rn_iload (pc := 152) (dd bX13_neutral dX13_neutral_152) rfl).trans ?_
        refine (rg_iaload (pc := 154) (dd bX13_neutral dX13_neutral_154) s1.2.2.2.2.2.2.2.2.2.2.2.2.2.2.2.2.2.2.2.2.2.2.2.2.2.2.2.2.2.2.2.2.2.2.2.2.2.2.2.2.2.2.2.2.2.2.2.2.2.2.2.2.2.2.2.2.2.2.2.2.2.2.2.2.2.2.2.2.2.2.2.2.2.2.2.2.2.2.2.2.2.2.2.2.2.2.2.2.2.2.2.2.2.2.2.2.2.2.2.2.2.2.2.2.2.2.2.2.2.2.2.2.2.2.2.2.1 s1.2.2.2.2.2.2.2.2.2.2.2.2.2.2.2.2.2.2.2.2.2.2.2.2.2.2.2.2.2.2.2.2.2.2.2.2.2.2.2.2.2.2.2.2.2.2.2.2.2.2.2.2.2.2.2.2.2.2.2.2.2.2.2.2.2.2.2.2.2.2.2.2.2.2.2.2.2.2.2.2.2.2.2.2.2.2.2.2.2.2.2.2.2.2.2.2.2.2.2.2.2.2.2.2.2.2.2.2.2.2.2.2.2.2.2.2.2.1 (by have z0 := p2 c1; have z1 := p3 c1; omega) (by have z0 := p2 c1; have z1 := p3 c1; omega) rfl).trans ?_
        refine (rn_iload_n (pc := 155) (dd bX13_neutral dX13_neutral_155) rfl).trans ?_
        exact rg_virtual (pc := 156) (dd bX13_neutral dX13_neutral_156) rfl rfl (by decide) (kc := 34) rfl s1.1 (as := [(1, 282), (0, x5), (0, h 2 321 x5), (0, x3)]) rfl ⟨Nat.le_of_ble_eq_true rfl, Nat.le_of_ble_eq_true rfl, Nat.le_of_ble_eq_true rfl, Nat.le_of_ble_eq_true rfl⟩
      · refine (rg_iinc (pc := 159) (dd bX13_neutral dX13_neutral_159) rfl (Nat.le_of_ble_eq_true rfl) (by have z0 := p2 c1; have z1 := p3 c1; omega) (by have z0 := p2 c1; have z1 := p3 c1; omega) rfl).trans ?_
        refine (rn_goto (t := 6) (pc := 162) (dd bX13_neutral dX13_neutral_162) rfl).trans ?_
        rfl
theorem rX13_neutral_43 {x1 : Int} {x2 : Int} {x3 : Int} {x4 : Int} {x5 : Int} {x6 : Int} {v7 : vv} {h : vH} (s1 : shModel h) (p2 : h 1540 282 0 ≤ x6 → ¬ (h 1540 282 0 ≤ x6) → 0 ≤ x6) (p3 : h 1540 282 0 ≤ x6 → ¬ (h 1540 282 0 ≤ x6) → x6 < 140) (p4 : ¬ (h 1540 282 0 ≤ x6) → 0 ≤ x6) (p5 : ¬ (h 1540 282 0 ≤ x6) → x6 < 140) : vrun mX13_neutral 43 [(1, 282), (0, x1), (0, x2), (0, x3), (0, x4), (0, x5), (0, x6), v7] [] h = if h 1540 282 0 ≤ x6 then vret vrun mX13_neutral 119 [(1, 282), (0, x1), (0, x2), (0, x3), (0, x4), (0, x5), (0, x6), (0, (if h 1540 282 0 ≤ x6 then x2 else h 2 321 x6))] [] (vcl mX13_levels [(1, 282), (0, x5), (0, (if x4 = (if h 1540 282 0 ≤ x6 then x2 else h 2 321 x6) then x4 else x2)), (0, x3)] h) else if h 2 322 x6 = x1 then if h 2 321 x6 = (-1) then vrun mX13_neutral 43 [(1, 282), (0, x1), (0, x2), (0, x3), (0, x4), (0, x5), (0, x6 + 1), v7] [] h else vret vrun mX13_neutral 119 [(1, 282), (0, x1), (0, x2), (0, x3), (0, x4), (0, x5), (0, x6), (0, (if h 1540 282 0 ≤ x6 then x2 else h 2 321 x6))] [] (vcl mX13_levels [(1, 282), (0, x5), (0, (if x4 = (if h 1540 282 0 ≤ x6 then x2 else h 2 321 x6) then x4 else x2)), (0, x3)] h) else vrun mX13_neutral 43 [(1, 282), (0, x1), (0, x2), (0, x3), (0, x4), (0, x5), (0, x6 + 1), v7] [] h := by
  refine (rn_iload (pc := 43) (dd bX13_neutral dX13_neutral_43) rfl).trans ?_
  refine (rn_aload_n (pc := 45) (dd bX13_neutral dX13_neutral_45) rfl).trans ?_
  refine (rg_gf (pc := 46) (dd bX13_neutral dX13_neutral_46) (ci := 14) (j := 40) rfl rfl (key := 1540) rfl (kc := 34) rfl s1.1 rfl).trans ?_
  refine (rn_icmp_ge (t := 80) (pc := 49) (dd bX13_neutral dX13_neutral_49) rfl).trans (itec (fun c1 => ?_) (fun c1 => ?_))
  · refine (rn_iload (pc := 80) (dd bX13_neutral dX13_neutral_80) rfl).trans ?_
    refine (rn_aload_n (pc := 82) (dd bX13_neutral dX13_neutral_82) rfl).trans ?_
    refine (rg_gf (pc := 83) (dd bX13_neutral dX13_neutral_83) (ci := 14) (j := 40) rfl rfl (key := 1540) rfl (kc := 34) rfl s1.1 rfl).trans ?_
    have e1 : vrun mX13_neutral 86 [(1, 282), (0, x1), (0, x2), (0, x3), (0, x4), (0, x5), (0, x6), v7] [(0, h 1540 282 0), (0, x6)] h = vrun mX13_neutral 100 [(1, 282), (0, x1), (0, x2), (0, x3), (0, x4), (0, x5), (0, x6), v7] [(0, (if h 1540 282 0 ≤ x6 then x2 else h 2 321 x6))] h := by
      refine (rn_icmp_ge (t := 99) (pc := 86) (dd bX13_neutral dX13_neutral_86) rfl).trans ?_
      by_cases c2 : h 1540 282 0 ≤ x6
      · refine (if_pos c2).trans ?_
        refine (rn_iload_n (pc := 99) (dd bX13_neutral dX13_neutral_99) rfl).trans ?_
        refine Eq.trans (b := vrun mX13_neutral 100 [(1, 282), (0, x1), (0, x2), (0, x3), (0, x4), (0, x5), (0, x6), v7] [(0, x2)] h) rfl ?_
        simp only [if_pos c2]
      · refine (if_neg c2).trans ?_
        refine (rn_aload_n (pc := 89) (dd bX13_neutral dX13_neutral_89) rfl).trans ?_
        refine (rg_gf (pc := 90) (dd bX13_neutral dX13_neutral_90) (ci := 14) (j := 43) rfl rfl (key := 1543) rfl (kc := 34) rfl s1.1 s1.2.2.2.2.2.2.2.2.2.2.2.2.2.2.2.2.2.2.2.2.2.2.2.2.2.2.2.2.2.2.2.2.2.2.2.2.2.2.2.2.2.2.2.2.2.2.2.2.2.2.2.2.2.2.2.2.2.2.2.2.2.2.2.2.2.2.2.2.2.2.2.2.2.2.2.2.2.2.2.2.2.2.2.2.2.2.2.2.2.2.2.2.2.2.2.2.2.2.2.2.2.2.2.2.2.2.2.2.2.2.2.2.2.2.2.1).trans ?_
        refine (rn_iload (pc := 93) (dd bX13_neutral dX13_neutral_93) rfl).trans ?_
        refine (rg_iaload (pc := 95) (dd bX13_neutral dX13_neutral_95) s1.2.2.2.2.2.2.2.2.2.2.2.2.2.2.2.2.2.2.2.2.2.2.2.2.2.2.2.2.2.2.2.2.2.2.2.2.2.2.2.2.2.2.2.2.2.2.2.2.2.2.2.2.2.2.2.2.2.2.2.2.2.2.2.2.2.2.2.2.2.2.2.2.2.2.2.2.2.2.2.2.2.2.2.2.2.2.2.2.2.2.2.2.2.2.2.2.2.2.2.2.2.2.2.2.2.2.2.2.2.2.2.2.2.2.2.2.1 s1.2.2.2.2.2.2.2.2.2.2.2.2.2.2.2.2.2.2.2.2.2.2.2.2.2.2.2.2.2.2.2.2.2.2.2.2.2.2.2.2.2.2.2.2.2.2.2.2.2.2.2.2.2.2.2.2.2.2.2.2.2.2.2.2.2.2.2.2.2.2.2.2.2.2.2.2.2.2.2.2.2.2.2.2.2.2.2.2.2.2.2.2.2.2.2.2.2.2.2.2.2.2.2.2.2.2.2.2.2.2.2.2.2.2.2.2.2.1 (p2 c1 c2) (p3 c1 c2) rfl).trans ?_
        refine (rn_goto (t := 100) (pc := 96) (dd bX13_neutral dX13_neutral_96) rfl).trans ?_
        refine Eq.trans (b := vrun mX13_neutral 100 [(1, 282), (0, x1), (0, x2), (0, x3), (0, x4), (0, x5), (0, x6), v7] [(0, h 2 321 x6)] h) rfl ?_
        simp only [if_neg c2]
    refine e1.trans ?_
    refine (rn_istore (pc := 100) (dd bX13_neutral dX13_neutral_100) (Nat.le_of_ble_eq_true rfl) rfl).trans ?_
    refine (rn_aload_n (pc := 102) (dd bX13_neutral dX13_neutral_102) rfl).trans ?_
    refine (rn_iload (pc := 103) (dd bX13_neutral dX13_neutral_103) rfl).trans ?_
    refine (rn_iload (pc := 105) (dd bX13_neutral dX13_neutral_105) rfl).trans ?_
    refine (rn_iload (pc := 107) (dd bX13_neutral dX13_neutral_107) rfl).trans ?_
    have e2 : vrun mX13_neutral 109 [(1, 282), (0, x1), (0, x2), (0, x3), (0, x4), (0, x5), (0, x6), (0, (if h 1540 282 0 ≤ x6 then x2 else h 2 321 x6))] [(0, (if h 1540 282 0 ≤ x6 then x2 else h 2 321 x6)), (0, x4), (0, x5), (1, 282)] h = vrun mX13_neutral 118 [(1, 282), (0, x1), (0, x2), (0, x3), (0, x4), (0, x5), (0, x6), (0, (if h 1540 282 0 ≤ x6 then x2 else h 2 321 x6))] [(0, (if x4 = (if h 1540 282 0 ≤ x6 then x2 else h 2 321 x6) then x4 else x2)), (0, x5), (1, 282)] h := by
      refine (rg_icmp_ne (t := 117) (pc := 109) (dd bX13_neutral dX13_neutral_109) rfl).trans ?_
      by_cases c3 : x4 = (if h 1540 282 0 ≤ x6 then x2 else h 2 321 x6)
      · refine (if_pos c3).trans ?_
        refine (rn_iload (pc := 112) (dd bX13_neutral dX13_neutral_112) rfl).trans ?_
        refine (rn_goto (t := 118) (pc := 114) (dd bX13_neutral dX13_neutral_114) rfl).trans ?_
        refine Eq.trans (b := vrun mX13_neutral 118 [(1, 282), (0, x1), (0, x2), (0, x3), (0, x4), (0, x5), (0, x6), (0, (if h 1540 282 0 ≤ x6 then x2 else h 2 321 x6))] [(0, x4), (0, x5), (1, 282)] h) rfl ?_
        simp only [if_pos c3]
      · refine (if_neg c3).trans ?_
        refine (rn_iload_n (pc := 117) (dd bX13_neutral dX13_neutral_117) rfl).trans ?_
        refine Eq.trans (b := vrun mX13_neutral 118 [(1, 282), (0, x1), (0, x2), (0, x3), (0, x4), (0, x5), (0, x6), (0, (if h 1540 282 0 ≤ x6 then x2 else h 2 321 x6))] [(0, x2), (0, x5), (1, 282)] h) rfl ?_
        simp only [if_neg c3]
    refine e2.trans ?_
    refine (rn_iload_n (pc := 118) (dd bX13_neutral dX13_neutral_118) rfl).trans ?_
    exact rg_virtual (pc := 119) (dd bX13_neutral dX13_neutral_119) rfl rfl (by decide) (kc := 34) rfl s1.1 (as := [(1, 282), (0, x5), (0, (if x4 = (if h 1540 282 0 ≤ x6 then x2 else h 2 321 x6) then x4 else x2)), (0, x3)]) rfl ⟨Nat.le_of_ble_eq_true rfl, Nat.le_of_ble_eq_true rfl, Nat.le_of_ble_eq_true rfl, Nat.le_of_ble_eq_true rfl⟩
  · refine (rn_aload_n (pc := 52) (dd bX13_neutral dX13_neutral_52) rfl).trans ?_
    refine (rg_gf (pc := 53) (dd bX13_neutral dX13_neutral_53) (ci := 14) (j := 44) rfl rfl (key := 1544) rfl (kc := 34) rfl s1.1 s1.2.2.2.2.2.2.2.2.2.2.2.2.2.2.2.2.2.2.2.2.2.2.2.2.2.2.2.2.2.2.2.2.2.2.2.2.2.2.2.2.2.2.2.2.2.2.2.2.2.2.2.2.2.2.2.2.2.2.2.2.2.2.2.2.2.2.2.2.2.2.2.2.2.2.2.2.2.2.2.2.2.2.2.2.2.2.2.2.2.2.2.2.2.2.2.2.2.2.2.2.2.2.2.2.2.2.2.2.2.2.2.2.2.2.2.2.2.2.1).trans ?_
    refine (rn_iload (pc := 56) (dd bX13_neutral dX13_neutral_56) rfl).trans ?_
    refine (rg_iaload (pc := 58) (dd bX13_neutral dX13_neutral_58) s1.2.2.2.2.2.2.2.2.2.2.2.2.2.2.2.2.2.2.2.2.2.2.2.2.2.2.2.2.2.2.2.2.2.2.2.2.2.2.2.2.2.2.2.2.2.2.2.2.2.2.2.2.2.2.2.2.2.2.2.2.2.2.2.2.2.2.2.2.2.2.2.2.2.2.2.2.2.2.2.2.2.2.2.2.2.2.2.2.2.2.2.2.2.2.2.2.2.2.2.2.2.2.2.2.2.2.2.2.2.2.2.2.2.2.2.2.2.2.2.1 s1.2.2.2.2.2.2.2.2.2.2.2.2.2.2.2.2.2.2.2.2.2.2.2.2.2.2.2.2.2.2.2.2.2.2.2.2.2.2.2.2.2.2.2.2.2.2.2.2.2.2.2.2.2.2.2.2.2.2.2.2.2.2.2.2.2.2.2.2.2.2.2.2.2.2.2.2.2.2.2.2.2.2.2.2.2.2.2.2.2.2.2.2.2.2.2.2.2.2.2.2.2.2.2.2.2.2.2.2.2.2.2.2.2.2.2.2.2.2.2.2.1 (p4 c1) (p5 c1) rfl).trans ?_
    refine (rn_iload_n (pc := 59) (dd bX13_neutral dX13_neutral_59) rfl).trans ?_
    refine (rg_icmp_ne (t := 74) (pc := 60) (dd bX13_neutral dX13_neutral_60) rfl).trans (itec (fun c4 => ?_) (fun c4 => ?_))
    · refine (rn_aload_n (pc := 63) (dd bX13_neutral dX13_neutral_63) rfl).trans ?_
      refine (rg_gf (pc := 64) (dd bX13_neutral dX13_neutral_64) (ci := 14) (j := 43) rfl rfl (key := 1543) rfl (kc := 34) rfl s1.1 s1.2.2.2.2.2.2.2.2.2.2.2.2.2.2.2.2.2.2.2.2.2.2.2.2.2.2.2.2.2.2.2.2.2.2.2.2.2.2.2.2.2.2.2.2.2.2.2.2.2.2.2.2.2.2.2.2.2.2.2.2.2.2.2.2.2.2.2.2.2.2.2.2.2.2.2.2.2.2.2.2.2.2.2.2.2.2.2.2.2.2.2.2.2.2.2.2.2.2.2.2.2.2.2.2.2.2.2.2.2.2.2.2.2.2.2.1).trans ?_
      refine (rn_iload (pc := 67) (dd bX13_neutral dX13_neutral_67) rfl).trans ?_
      refine (rg_iaload (pc := 69) (dd bX13_neutral dX13_neutral_69) s1.2.2.2.2.2.2.2.2.2.2.2.2.2.2.2.2.2.2.2.2.2.2.2.2.2.2.2.2.2.2.2.2.2.2.2.2.2.2.2.2.2.2.2.2.2.2.2.2.2.2.2.2.2.2.2.2.2.2.2.2.2.2.2.2.2.2.2.2.2.2.2.2.2.2.2.2.2.2.2.2.2.2.2.2.2.2.2.2.2.2.2.2.2.2.2.2.2.2.2.2.2.2.2.2.2.2.2.2.2.2.2.2.2.2.2.2.1 s1.2.2.2.2.2.2.2.2.2.2.2.2.2.2.2.2.2.2.2.2.2.2.2.2.2.2.2.2.2.2.2.2.2.2.2.2.2.2.2.2.2.2.2.2.2.2.2.2.2.2.2.2.2.2.2.2.2.2.2.2.2.2.2.2.2.2.2.2.2.2.2.2.2.2.2.2.2.2.2.2.2.2.2.2.2.2.2.2.2.2.2.2.2.2.2.2.2.2.2.2.2.2.2.2.2.2.2.2.2.2.2.2.2.2.2.2.2.1 (by have z0 := p4 c1; have z1 := p5 c1; omega) (by have z0 := p4 c1; have z1 := p5 c1; omega) rfl).trans ?_
      refine (rn_iconst (pc := 70) (dd bX13_neutral dX13_neutral_70) (by decide)).trans ?_
      refine (rg_icmp_ne (t := 80) (pc := 71) (dd bX13_neutral dX13_neutral_71) rfl).trans (itec (fun c5 => ?_) (fun c5 => ?_))
      · refine (rg_iinc (pc := 74) (dd bX13_neutral dX13_neutral_74) rfl (Nat.le_of_ble_eq_true rfl) (by have z0 := p4 c1; have z1 := p5 c1; omega) (by have z0 := p4 c1; have z1 := p5 c1; omega) rfl).trans ?_
        refine (rn_goto (t := 43) (pc := 77) (dd bX13_neutral dX13_neutral_77) rfl).trans ?_
        rfl
      · refine (rn_iload (pc := 80) (dd bX13_neutral dX13_neutral_80) rfl).trans ?_
        refine (rn_aload_n (pc := 82) (dd bX13_neutral dX13_neutral_82) rfl).trans ?_
        refine (rg_gf (pc := 83) (dd bX13_neutral dX13_neutral_83) (ci := 14) (j := 40) rfl rfl (key := 1540) rfl (kc := 34) rfl s1.1 rfl).trans ?_
        have e3 : vrun mX13_neutral 86 [(1, 282), (0, x1), (0, x2), (0, x3), (0, x4), (0, x5), (0, x6), v7] [(0, h 1540 282 0), (0, x6)] h = vrun mX13_neutral 100 [(1, 282), (0, x1), (0, x2), (0, x3), (0, x4), (0, x5), (0, x6), v7] [(0, (if h 1540 282 0 ≤ x6 then x2 else h 2 321 x6))] h := by
          refine (rn_icmp_ge (t := 99) (pc := 86) (dd bX13_neutral dX13_neutral_86) rfl).trans ?_
          by_cases c6 : h 1540 282 0 ≤ x6
          · refine (if_pos c6).trans ?_
            refine (rn_iload_n (pc := 99) (dd bX13_neutral dX13_neutral_99) rfl).trans ?_
            refine Eq.trans (b := vrun mX13_neutral 100 [(1, 282), (0, x1), (0, x2), (0, x3), (0, x4), (0, x5), (0, x6), v7] [(0, x2)] h) rfl ?_
            simp only [if_pos c6]
          · refine (if_neg c6).trans ?_
            refine (rn_aload_n (pc := 89) (dd bX13_neutral dX13_neutral_89) rfl).trans ?_
            refine (rg_gf (pc := 90) (dd bX13_neutral dX13_neutral_90) (ci := 14) (j := 43) rfl rfl (key := 1543) rfl (kc := 34) rfl s1.1 s1.2.2.2.2.2.2.2.2.2.2.2.2.2.2.2.2.2.2.2.2.2.2.2.2.2.2.2.2.2.2.2.2.2.2.2.2.2.2.2.2.2.2.2.2.2.2.2.2.2.2.2.2.2.2.2.2.2.2.2.2.2.2.2.2.2.2.2.2.2.2.2.2.2.2.2.2.2.2.2.2.2.2.2.2.2.2.2.2.2.2.2.2.2.2.2.2.2.2.2.2.2.2.2.2.2.2.2.2.2.2.2.2.2.2.2.1).trans ?_
            refine (rn_iload (pc := 93) (dd bX13_neutral dX13_neutral_93) rfl).trans ?_
            refine (rg_iaload (pc := 95) (dd bX13_neutral dX13_neutral_95) s1.2.2.2.2.2.2.2.2.2.2.2.2.2.2.2.2.2.2.2.2.2.2.2.2.2.2.2.2.2.2.2.2.2.2.2.2.2.2.2.2.2.2.2.2.2.2.2.2.2.2.2.2.2.2.2.2.2.2.2.2.2.2.2.2.2.2.2.2.2.2.2.2.2.2.2.2.2.2.2.2.2.2.2.2.2.2.2.2.2.2.2.2.2.2.2.2.2.2.2.2.2.2.2.2.2.2.2.2.2.2.2.2.2.2.2.2.1 s1.2.2.2.2.2.2.2.2.2.2.2.2.2.2.2.2.2.2.2.2.2.2.2.2.2.2.2.2.2.2.2.2.2.2.2.2.2.2.2.2.2.2.2.2.2.2.2.2.2.2.2.2.2.2.2.2.2.2.2.2.2.2.2.2.2.2.2.2.2.2.2.2.2.2.2.2.2.2.2.2.2.2.2.2.2.2.2.2.2.2.2.2.2.2.2.2.2.2.2.2.2.2.2.2.2.2.2.2.2.2.2.2.2.2.2.2.2.1 (by have z0 := p4 c1; have z1 := p5 c1; omega) (by have z0 := p4 c1; have z1 := p5 c1; omega) rfl).trans ?_
            refine (rn_goto (t := 100) (pc := 96) (dd bX13_neutral dX13_neutral_96) rfl).trans ?_
            refine Eq.trans (b := vrun mX13_neutral 100 [(1, 282), (0, x1), (0, x2), (0, x3), (0, x4), (0, x5), (0, x6), v7] [(0, h 2 321 x6)] h) rfl ?_
            simp only [if_neg c6]
        refine e3.trans ?_
        refine (rn_istore (pc := 100) (dd bX13_neutral dX13_neutral_100) (Nat.le_of_ble_eq_true rfl) rfl).trans ?_
        refine (rn_aload_n (pc := 102) (dd bX13_neutral dX13_neutral_102) rfl).trans ?_
        refine (rn_iload (pc := 103) (dd bX13_neutral dX13_neutral_103) rfl).trans ?_
        refine (rn_iload (pc := 105) (dd bX13_neutral dX13_neutral_105) rfl).trans ?_
        refine (rn_iload (pc := 107) (dd bX13_neutral dX13_neutral_107) rfl).trans ?_
        have e4 : vrun mX13_neutral 109 [(1, 282), (0, x1), (0, x2), (0, x3), (0, x4), (0, x5), (0, x6), (0, (if h 1540 282 0 ≤ x6 then x2 else h 2 321 x6))] [(0, (if h 1540 282 0 ≤ x6 then x2 else h 2 321 x6)), (0, x4), (0, x5), (1, 282)] h = vrun mX13_neutral 118 [(1, 282), (0, x1), (0, x2), (0, x3), (0, x4), (0, x5), (0, x6), (0, (if h 1540 282 0 ≤ x6 then x2 else h 2 321 x6))] [(0, (if x4 = (if h 1540 282 0 ≤ x6 then x2 else h 2 321 x6) then x4 else x2)), (0, x5), (1, 282)] h := by
          refine (rg_icmp_ne (t := 117) (pc := 109) (dd bX13_neutral dX13_neutral_109) rfl).trans ?_
          by_cases c7 : x4 = (if h 1540 282 0 ≤ x6 then x2 else h 2 321 x6)
          · refine (if_pos c7).trans ?_
            refine (rn_iload (pc := 112) (dd bX13_neutral dX13_neutral_112) rfl).trans ?_
            refine (rn_goto (t := 118) (pc := 114) (dd bX13_neutral dX13_neutral_114) rfl).trans ?_
            refine Eq.trans (b := vrun mX13_neutral 118 [(1, 282), (0, x1), (0, x2), (0, x3), (0, x4), (0, x5), (0, x6), (0, (if h 1540 282 0 ≤ x6 then x2 else h 2 321 x6))] [(0, x4), (0, x5), (1, 282)] h) rfl ?_
            simp only [if_pos c7]
          · refine (if_neg c7).trans ?_
            refine (rn_iload_n (pc := 117) (dd bX13_neutral dX13_neutral_117) rfl).trans ?_
            refine Eq.trans (b := vrun mX13_neutral 118 [(1, 282), (0, x1), (0, x2), (0, x3), (0, x4), (0, x5), (0, x6), (0, (if h 1540 282 0 ≤ x6 then x2 else h 2 321 x6))] [(0, x2), (0, x5), (1, 282)] h) rfl ?_
            simp only [if_neg c7]
        refine e4.trans ?_
        refine (rn_iload_n (pc := 118) (dd bX13_neutral dX13_neutral_118) rfl).trans ?_
        exact rg_virtual (pc := 119) (dd bX13_neutral dX13_neutral_119) rfl rfl (by decide) (kc := 34) rfl s1.1 (as := [(1, 282), (0, x5), (0, (if x4 = (if h 1540 282 0 ≤ x6 then x2 else h 2 321 x6) then x4 else x2)), (0, x3)]) rfl ⟨Nat.le_of_ble_eq_true rfl, Nat.le_of_ble_eq_true rfl, Nat.le_of_ble_eq_true rfl, Nat.le_of_ble_eq_true rfl⟩
    · refine (rg_iinc (pc := 74) (dd bX13_neutral dX13_neutral_74) rfl (Nat.le_of_ble_eq_true rfl) (by have z0 := p4 c1; have z1 := p5 c1; omega) (by have z0 := p4 c1; have z1 := p5 c1; omega) rfl).trans ?_
      refine (rn_goto (t := 43) (pc := 77) (dd bX13_neutral dX13_neutral_77) rfl).trans ?_
      rfl
theorem rX13_neutral_159 {x1 : Int} {x2 : Int} {x3 : Int} {x4 : Int} {x5 : Int} {v6 : vv} {v7 : vv} {h : vH} (p1 : (-2147483648) ≤ x5 + 1) (p2 : x5 + 1 < 2147483648) : vrun mX13_neutral 159 [(1, 282), (0, x1), (0, x2), (0, x3), (0, x4), (0, x5), v6, v7] [] h = vrun mX13_neutral 6 [(1, 282), (0, x1), (0, x2), (0, x3), (0, x4), (0, x5 + 1), v6, v7] [] h := by
  refine (rg_iinc (pc := 159) (dd bX13_neutral dX13_neutral_159) rfl (Nat.le_of_ble_eq_true rfl) p1 p2 rfl).trans ?_
  refine (rn_goto (t := 6) (pc := 162) (dd bX13_neutral dX13_neutral_162) rfl).trans ?_
  rfl
theorem rX13_neutral_122 {x1 : Int} {x2 : Int} {x3 : Int} {x4 : Int} {x5 : Int} {x6 : Int} {x7 : Int} {h : vH} (p1 : (-2147483648) ≤ x5 + 1) (p2 : x5 + 1 < 2147483648) : vrun mX13_neutral 122 [(1, 282), (0, x1), (0, x2), (0, x3), (0, x4), (0, x5), (0, x6), (0, x7)] [] h = vrun mX13_neutral 6 [(1, 282), (0, x1), (0, x2), (0, x3), (0, x4), (0, x5 + 1), (0, x6), (0, x7)] [] h := by
  refine (rn_goto (t := 159) (pc := 122) (dd bX13_neutral dX13_neutral_122) rfl).trans ?_
  refine (rg_iinc (pc := 159) (dd bX13_neutral dX13_neutral_159) rfl (Nat.le_of_ble_eq_true rfl) p1 p2 rfl).trans ?_
  refine (rn_goto (t := 6) (pc := 162) (dd bX13_neutral dX13_neutral_162) rfl).trans ?_
  rfl
