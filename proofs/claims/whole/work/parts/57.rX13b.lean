theorem bX13_breakLine : vmB mX13_breakLine = cX13_breakLine := rfl
theorem rX13_breakLine_0 {x1 : Int} {x2 : Int} {h : vH} (s1 : shModel h) (p2 : (-2147483648) ≤ h 1504 282 0 - 1) (p3 : h 1504 282 0 - 1 < 2147483648) (p4 : ¬ (fX13_isLine h x1 = 0) → 0 ≤ x1) (p5 : ¬ (fX13_isLine h x1 = 0) → x1 < 60) : vrun mX13_breakLine 0 [(1, 282), (0, x1), (0, x2), (9, 0), (9, 0)] [] h = vret vrun mX13_breakLine 47 [(1, 282), (0, x1), (0, x2), (0, fX13_isLine h x1), (9, 0)] [] (vcl mX13_isFine [(1, 282), (0, (if fX13_isLine h x1 = 0 then 1 else (if ¬ (x2 < 0) ∧ ¬ (h 2 284 x1 < x2) then (if h 1504 282 0 = 60 then 3 else 0) else 2)))] h) := by
  refine (rn_aload_n (pc := 0) (dd bX13_breakLine dX13_breakLine_0) rfl).trans ?_
  refine (rn_iload_n (pc := 1) (dd bX13_breakLine dX13_breakLine_1) rfl).trans ?_
  refine (rg_virtual (pc := 2) (dd bX13_breakLine dX13_breakLine_2) rfl rfl (by decide) (kc := 34) rfl s1.1 (as := [(1, 282), (0, x1)]) rfl ⟨Nat.le_of_ble_eq_true rfl, Nat.le_of_ble_eq_true rfl, Nat.le_of_ble_eq_true rfl, Nat.le_of_ble_eq_true rfl⟩).trans ?_
  refine (vret_v (spX13_isLine s1 p2 p3)).trans ?_
  refine (rn_istore_n (pc := 5) (dd bX13_breakLine dX13_breakLine_5) (Nat.le_of_ble_eq_true rfl) rfl).trans ?_
  refine (rn_aload_n (pc := 6) (dd bX13_breakLine dX13_breakLine_6) rfl).trans ?_
  refine (rn_iload_n (pc := 7) (dd bX13_breakLine dX13_breakLine_7) rfl).trans ?_
  have e3 : vrun mX13_breakLine 8 [(1, 282), (0, x1), (0, x2), (0, fX13_isLine h x1), (9, 0)] [(0, fX13_isLine h x1), (1, 282)] h = vrun mX13_breakLine 47 [(1, 282), (0, x1), (0, x2), (0, fX13_isLine h x1), (9, 0)] [(0, (if fX13_isLine h x1 = 0 then 1 else (if ¬ (x2 < 0) ∧ ¬ (h 2 284 x1 < x2) then (if h 1504 282 0 = 60 then 3 else 0) else 2))), (1, 282)] h := by
    refine (rg_if_ne (t := 15) (pc := 8) (dd bX13_breakLine dX13_breakLine_8) rfl).trans ?_
    by_cases c1 : fX13_isLine h x1 = 0
    · refine (if_pos c1).trans ?_
      refine (rn_iconst (pc := 11) (dd bX13_breakLine dX13_breakLine_11) (by decide)).trans ?_
      refine (rn_goto (t := 47) (pc := 12) (dd bX13_breakLine dX13_breakLine_12) rfl).trans ?_
      refine Eq.trans (b := vrun mX13_breakLine 47 [(1, 282), (0, x1), (0, x2), (0, fX13_isLine h x1), (9, 0)] [(0, 1), (1, 282)] h) rfl ?_
      simp only [if_pos c1]
    · refine (if_neg c1).trans ?_
      refine (rn_iload_n (pc := 15) (dd bX13_breakLine dX13_breakLine_15) rfl).trans ?_
      refine (rn_iconst (pc := 16) (dd bX13_breakLine dX13_breakLine_16) (by decide)).trans ?_
      refine (rn_aload_n (pc := 17) (dd bX13_breakLine dX13_breakLine_17) rfl).trans ?_
      refine (rg_gf (pc := 18) (dd bX13_breakLine dX13_breakLine_18) (ci := 14) (j := 2) rfl rfl (key := 1502) rfl (kc := 34) rfl s1.1 s1.2.2.2.2.1).trans ?_
      refine (rn_iload_n (pc := 21) (dd bX13_breakLine dX13_breakLine_21) rfl).trans ?_
      refine (rg_iaload (pc := 22) (dd bX13_breakLine dX13_breakLine_22) s1.2.2.2.2.2.1 s1.2.2.2.2.2.2.1 (p4 c1) (p5 c1) rfl).trans ?_
      refine (rg_static (pc := 23) (dd bX13_breakLine dX13_breakLine_23) rfl (by decide) (Nat.le_of_ble_eq_true rfl) (as := [(0, x2), (0, 0), (0, h 2 284 x1)]) rfl rfl ⟨Nat.le_of_ble_eq_true rfl, Nat.le_of_ble_eq_true rfl, Nat.le_of_ble_eq_true rfl, Nat.le_of_ble_eq_true rfl⟩).trans ?_
      refine (vret_v spX13_isIn).trans ?_
      have e2 : vrun mX13_breakLine 26 [(1, 282), (0, x1), (0, x2), (0, fX13_isLine h x1), (9, 0)] [(0, (if ¬ (x2 < 0) ∧ ¬ (h 2 284 x1 < x2) then 1 else 0)), (1, 282)] h = vrun mX13_breakLine 47 [(1, 282), (0, x1), (0, x2), (0, fX13_isLine h x1), (9, 0)] [(0, (if ¬ (x2 < 0) ∧ ¬ (h 2 284 x1 < x2) then (if h 1504 282 0 = 60 then 3 else 0) else 2)), (1, 282)] h := by
        refine (rg_bne (t := 33) (pc := 26) (dd bX13_breakLine dX13_breakLine_26) rfl).trans ?_
        by_cases c2 : ¬ (x2 < 0) ∧ ¬ (h 2 284 x1 < x2)
        · refine (if_pos c2).trans ?_
          refine (rn_aload_n (pc := 33) (dd bX13_breakLine dX13_breakLine_33) rfl).trans ?_
          refine (rg_gf (pc := 34) (dd bX13_breakLine dX13_breakLine_34) (ci := 14) (j := 4) rfl rfl (key := 1504) rfl (kc := 34) rfl s1.1 rfl).trans ?_
          refine (rn_bipush (pc := 37) (dd bX13_breakLine dX13_breakLine_37) (by decide)).trans ?_
          have e1 : vrun mX13_breakLine 39 [(1, 282), (0, x1), (0, x2), (0, fX13_isLine h x1), (9, 0)] [(0, 60), (0, h 1504 282 0), (1, 282)] h = vrun mX13_breakLine 47 [(1, 282), (0, x1), (0, x2), (0, fX13_isLine h x1), (9, 0)] [(0, (if h 1504 282 0 = 60 then 3 else 0)), (1, 282)] h := by
            refine (rg_icmp_ne (t := 46) (pc := 39) (dd bX13_breakLine dX13_breakLine_39) rfl).trans ?_
            by_cases c3 : h 1504 282 0 = 60
            · refine (if_pos c3).trans ?_
              refine (rn_iconst (pc := 42) (dd bX13_breakLine dX13_breakLine_42) (by decide)).trans ?_
              refine (rn_goto (t := 47) (pc := 43) (dd bX13_breakLine dX13_breakLine_43) rfl).trans ?_
              refine Eq.trans (b := vrun mX13_breakLine 47 [(1, 282), (0, x1), (0, x2), (0, fX13_isLine h x1), (9, 0)] [(0, 3), (1, 282)] h) rfl ?_
              simp only [if_pos c3]
            · refine (if_neg c3).trans ?_
              refine (rn_iconst (pc := 46) (dd bX13_breakLine dX13_breakLine_46) (by decide)).trans ?_
              refine Eq.trans (b := vrun mX13_breakLine 47 [(1, 282), (0, x1), (0, x2), (0, fX13_isLine h x1), (9, 0)] [(0, 0), (1, 282)] h) rfl ?_
              simp only [if_neg c3]
          refine e1.trans ?_
          refine Eq.trans (b := vrun mX13_breakLine 47 [(1, 282), (0, x1), (0, x2), (0, fX13_isLine h x1), (9, 0)] [(0, (if h 1504 282 0 = 60 then 3 else 0)), (1, 282)] h) rfl ?_
          simp only [if_pos c2]
        · refine (if_neg c2).trans ?_
          refine (rn_iconst (pc := 29) (dd bX13_breakLine dX13_breakLine_29) (by decide)).trans ?_
          refine (rn_goto (t := 47) (pc := 30) (dd bX13_breakLine dX13_breakLine_30) rfl).trans ?_
          refine Eq.trans (b := vrun mX13_breakLine 47 [(1, 282), (0, x1), (0, x2), (0, fX13_isLine h x1), (9, 0)] [(0, 2), (1, 282)] h) rfl ?_
          simp only [if_neg c2]
      refine e2.trans ?_
      refine Eq.trans (b := vrun mX13_breakLine 47 [(1, 282), (0, x1), (0, x2), (0, fX13_isLine h x1), (9, 0)] [(0, (if ¬ (x2 < 0) ∧ ¬ (h 2 284 x1 < x2) then (if h 1504 282 0 = 60 then 3 else 0) else 2)), (1, 282)] h) rfl ?_
      simp only [if_neg c1]
  refine e3.trans ?_
  exact rg_virtual (pc := 47) (dd bX13_breakLine dX13_breakLine_47) rfl rfl (by decide) (kc := 34) rfl s1.1 (as := [(1, 282), (0, (if fX13_isLine h x1 = 0 then 1 else (if ¬ (x2 < 0) ∧ ¬ (h 2 284 x1 < x2) then (if h 1504 282 0 = 60 then 3 else 0) else 2)))]) rfl ⟨Nat.le_of_ble_eq_true rfl, Nat.le_of_ble_eq_true rfl, Nat.le_of_ble_eq_true rfl, Nat.le_of_ble_eq_true rfl⟩
theorem rX13_breakLine_50 {x1 : Int} {x2 : Int} {x3 : Int} {y0 : Int} {h : vH} (s1 : shModel h) : vrun mX13_breakLine 50 [(1, 282), (0, x1), (0, x2), (0, x3), (9, 0)] [(0, y0)] h = if y0 = 0 then some (.inl (some (0, 0)), h) else vrun mX13_breakLine 61 [(1, 282), (0, x1), (0, x2), (0, x3), (0, h 1504 282 0)] [] h := by
  refine (rg_if_ne (t := 55) (pc := 50) (dd bX13_breakLine dX13_breakLine_50) rfl).trans (itec (fun c1 => ?_) (fun c1 => ?_))
  · refine (rn_iconst (pc := 53) (dd bX13_breakLine dX13_breakLine_53) (by decide)).trans ?_
    exact rn_ireturn (pc := 54) (dd bX13_breakLine dX13_breakLine_54) (Or.inl rfl)
  · refine (rn_aload_n (pc := 55) (dd bX13_breakLine dX13_breakLine_55) rfl).trans ?_
    refine (rg_gf (pc := 56) (dd bX13_breakLine dX13_breakLine_56) (ci := 14) (j := 4) rfl rfl (key := 1504) rfl (kc := 34) rfl s1.1 rfl).trans ?_
    refine (rn_istore (pc := 59) (dd bX13_breakLine dX13_breakLine_59) (Nat.le_of_ble_eq_true rfl) rfl).trans ?_
    rfl
theorem rX13_breakLine_61 {x1 : Int} {x2 : Int} {x3 : Int} {x4 : Int} {h : vH} (p1 : (-2147483648) ≤ x1 + 1) (p2 : x1 + 1 < 2147483648) (s3 : shModel h) (p4 : x4 ≤ x1 + 1 → (-2147483648) ≤ h 1504 282 0 + 1) (p5 : x4 ≤ x1 + 1 → h 1504 282 0 + 1 < 2147483648) (p6 : x4 ≤ x1 + 1 → 0 ≤ x1) (p7 : x4 ≤ x1 + 1 → x1 < 60) (p8 : x4 ≤ x1 + 1 → (-2147483648) ≤ h 2 284 x1 - x2) (p9 : x4 ≤ x1 + 1 → h 2 284 x1 - x2 < 2147483648) (p10 : x4 ≤ x1 + 1 → x1 + 1 < 60) (p11 : ¬ (x4 ≤ x1 + 1) → (-2147483648) ≤ x4 - 1) (p12 : ¬ (x4 ≤ x1 + 1) → x4 - 1 < 2147483648) : vrun mX13_breakLine 61 [(1, 282), (0, x1), (0, x2), (0, x3), (0, x4)] [] h = if x4 ≤ x1 + 1 then vrun mX13_breakLine 123 [(1, 282), (0, x1), (0, x2), (0, x3), (0, 0)] [] (vup (vup (vup h 1504 282 0 (h 1504 282 0 + 1)) 2 284 (x1 + 1) (h 2 284 x1 - x2)) 2 285 (x1 + 1) 0) else vret vrun mX13_breakLine 76 [(1, 282), (0, x1), (0, x2), (0, x3), (0, x4)] [] (vcl mX13_copiesLine [(1, 282), (0, x4 - 1), (0, x4)] h) := by
  refine (rn_iload (pc := 61) (dd bX13_breakLine dX13_breakLine_61) rfl).trans ?_
  refine (rn_iload_n (pc := 63) (dd bX13_breakLine dX13_breakLine_63) rfl).trans ?_
  refine (rn_iconst (pc := 64) (dd bX13_breakLine dX13_breakLine_64) (by decide)).trans ?_
  refine (rg_iadd (pc := 65) (dd bX13_breakLine dX13_breakLine_65) p1 p2).trans ?_
  refine (rn_icmp_le (t := 85) (pc := 66) (dd bX13_breakLine dX13_breakLine_66) rfl).trans (itec (fun c1 => ?_) (fun c1 => ?_))
  · refine (rn_aload_n (pc := 85) (dd bX13_breakLine dX13_breakLine_85) rfl).trans ?_
    refine (rn_dup (pc := 86) (dd bX13_breakLine dX13_breakLine_86) (by decide)).trans ?_
    refine (rg_gf (pc := 87) (dd bX13_breakLine dX13_breakLine_87) (ci := 14) (j := 4) rfl rfl (key := 1504) rfl (kc := 34) rfl s3.1 rfl).trans ?_
    refine (rn_iconst (pc := 90) (dd bX13_breakLine dX13_breakLine_90) (by decide)).trans ?_
    refine (rg_iadd (pc := 91) (dd bX13_breakLine dX13_breakLine_91) (p4 c1) (p5 c1)).trans ?_
    refine (rg_pf (pc := 92) (dd bX13_breakLine dX13_breakLine_92) (ci := 14) (j := 4) rfl (key := 1504) rfl (kc := 34) rfl s3.1 rfl (by intro z; cases z) (by decide)).trans ?_
    refine (rn_aload_n (pc := 95) (dd bX13_breakLine dX13_breakLine_95) rfl).trans ?_
    refine (rg_gf (pc := 96) (dd bX13_breakLine dX13_breakLine_96) (ci := 14) (j := 2) rfl rfl (key := 1502) rfl (kc := 34) rfl ((vup_k (by decide)).trans s3.1) ((vup_k (by decide)).trans s3.2.2.2.2.1)).trans ?_
    refine (rn_iload_n (pc := 99) (dd bX13_breakLine dX13_breakLine_99) rfl).trans ?_
    refine (rn_iconst (pc := 100) (dd bX13_breakLine dX13_breakLine_100) (by decide)).trans ?_
    refine (rg_iadd (pc := 101) (dd bX13_breakLine dX13_breakLine_101) (by omega) (by omega)).trans ?_
    refine (rn_aload_n (pc := 102) (dd bX13_breakLine dX13_breakLine_102) rfl).trans ?_
    refine (rg_gf (pc := 103) (dd bX13_breakLine dX13_breakLine_103) (ci := 14) (j := 2) rfl rfl (key := 1502) rfl (kc := 34) rfl ((vup_k (by decide)).trans s3.1) ((vup_k (by decide)).trans s3.2.2.2.2.1)).trans ?_
    refine (rn_iload_n (pc := 106) (dd bX13_breakLine dX13_breakLine_106) rfl).trans ?_
    refine (rg_iaload (pc := 107) (dd bX13_breakLine dX13_breakLine_107) ((vup_k (by decide)).trans s3.2.2.2.2.2.1) ((vup_k (by decide)).trans s3.2.2.2.2.2.2.1) (p6 c1) (p7 c1) ((vup_k (by decide)).trans rfl)).trans ?_
    refine (rn_iload_n (pc := 108) (dd bX13_breakLine dX13_breakLine_108) rfl).trans ?_
    refine (rg_isub (pc := 109) (dd bX13_breakLine dX13_breakLine_109) (p8 c1) (p9 c1)).trans ?_
    refine (rg_iastore (pc := 110) (dd bX13_breakLine dX13_breakLine_110) ((vup_k (by decide)).trans s3.2.2.2.2.2.1) ((vup_k (by decide)).trans s3.2.2.2.2.2.2.1) (by have z0 := p6 c1; have z1 := p7 c1; omega) (p10 c1)).trans ?_
    refine (rn_aload_n (pc := 111) (dd bX13_breakLine dX13_breakLine_111) rfl).trans ?_
    refine (rg_gf (pc := 112) (dd bX13_breakLine dX13_breakLine_112) (ci := 14) (j := 3) rfl rfl (key := 1503) rfl (kc := 34) rfl ((vup_k (by decide)).trans ((vup_k (by decide)).trans s3.1)) ((vup_k (by decide)).trans ((vup_k (by decide)).trans s3.2.2.2.2.2.2.2.1))).trans ?_
    refine (rn_iload_n (pc := 115) (dd bX13_breakLine dX13_breakLine_115) rfl).trans ?_
    refine (rn_iconst (pc := 116) (dd bX13_breakLine dX13_breakLine_116) (by decide)).trans ?_
    refine (rg_iadd (pc := 117) (dd bX13_breakLine dX13_breakLine_117) (by have z0 := p6 c1; have z1 := p7 c1; have z2 := p10 c1; omega) (by have z0 := p6 c1; have z1 := p7 c1; have z2 := p10 c1; omega)).trans ?_
    refine (rn_iconst (pc := 118) (dd bX13_breakLine dX13_breakLine_118) (by decide)).trans ?_
    refine (rg_bastore (pc := 119) (dd bX13_breakLine dX13_breakLine_119) ((vup_k (by decide)).trans ((vup_k (by decide)).trans s3.2.2.2.2.2.2.2.2.1)) ((vup_k (by decide)).trans ((vup_k (by decide)).trans s3.2.2.2.2.2.2.2.2.2.1)) (by have z0 := p6 c1; have z1 := p7 c1; have z2 := p10 c1; omega) (by have z0 := p6 c1; have z1 := p7 c1; have z2 := p10 c1; omega) (by decide)).trans ?_
    refine (rn_iconst (pc := 120) (dd bX13_breakLine dX13_breakLine_120) (by decide)).trans ?_
    refine (rn_istore (pc := 121) (dd bX13_breakLine dX13_breakLine_121) (Nat.le_of_ble_eq_true rfl) rfl).trans ?_
    rfl
  · refine (rn_aload_n (pc := 69) (dd bX13_breakLine dX13_breakLine_69) rfl).trans ?_
    refine (rn_iload (pc := 70) (dd bX13_breakLine dX13_breakLine_70) rfl).trans ?_
    refine (rn_iconst (pc := 72) (dd bX13_breakLine dX13_breakLine_72) (by decide)).trans ?_
    refine (rg_isub (pc := 73) (dd bX13_breakLine dX13_breakLine_73) (p11 c1) (p12 c1)).trans ?_
    refine (rn_iload (pc := 74) (dd bX13_breakLine dX13_breakLine_74) rfl).trans ?_
    exact rg_virtual (pc := 76) (dd bX13_breakLine dX13_breakLine_76) rfl rfl (by decide) (kc := 34) rfl s3.1 (as := [(1, 282), (0, x4 - 1), (0, x4)]) rfl ⟨Nat.le_of_ble_eq_true rfl, Nat.le_of_ble_eq_true rfl, Nat.le_of_ble_eq_true rfl, Nat.le_of_ble_eq_true rfl⟩
theorem rX13_breakLine_123 {x1 : Int} {x2 : Int} {x3 : Int} {x4 : Int} {h : vH} (s1 : shModel h) (p2 : (-2147483648) ≤ x1 + 1) (p3 : x1 + 1 < 2147483648) (p4 : 0 ≤ x1 + 1) (p5 : x1 + 1 < 60) (p6 : h 2 284 (x1 + 1) ≤ x4 → 0 ≤ x1) (p7 : h 2 284 (x1 + 1) ≤ x4 → x1 < 60) (p8 : ¬ (h 2 284 (x1 + 1) ≤ x4) → (-2147483648) ≤ 80 * (x1 + 1)) (p9 : ¬ (h 2 284 (x1 + 1) ≤ x4) → 80 * (x1 + 1) < 2147483648) (p10 : ¬ (h 2 284 (x1 + 1) ≤ x4) → (-2147483648) ≤ 80 * (x1 + 1) + x4) (p11 : ¬ (h 2 284 (x1 + 1) ≤ x4) → 80 * (x1 + 1) + x4 < 2147483648) (p12 : ¬ (h 2 284 (x1 + 1) ≤ x4) → (-2147483648) ≤ 80 * x1) (p13 : ¬ (h 2 284 (x1 + 1) ≤ x4) → 80 * x1 < 2147483648) (p14 : ¬ (h 2 284 (x1 + 1) ≤ x4) → (-2147483648) ≤ 80 * x1 + x2) (p15 : ¬ (h 2 284 (x1 + 1) ≤ x4) → 80 * x1 + x2 < 2147483648) (p16 : ¬ (h 2 284 (x1 + 1) ≤ x4) → (-2147483648) ≤ 80 * x1 + x2 + x4) (p17 : ¬ (h 2 284 (x1 + 1) ≤ x4) → 80 * x1 + x2 + x4 < 2147483648) (p18 : ¬ (h 2 284 (x1 + 1) ≤ x4) → 0 ≤ 80 * x1 + x2 + x4) (p19 : ¬ (h 2 284 (x1 + 1) ≤ x4) → 80 * x1 + x2 + x4 < 4800) (p20 : ¬ (h 2 284 (x1 + 1) ≤ x4) → 0 ≤ 80 * (x1 + 1) + x4) (p21 : ¬ (h 2 284 (x1 + 1) ≤ x4) → 80 * (x1 + 1) + x4 < 4800) (p22 : ¬ (h 2 284 (x1 + 1) ≤ x4) → (-2147483648) ≤ x4 + 1) (p23 : ¬ (h 2 284 (x1 + 1) ≤ x4) → x4 + 1 < 2147483648) : vrun mX13_breakLine 123 [(1, 282), (0, x1), (0, x2), (0, x3), (0, x4)] [] h = if h 2 284 (x1 + 1) ≤ x4 then vret vrun mX13_breakLine 180 [(1, 282), (0, x1), (0, x2), (0, x3), (0, x4)] [] (vcl mX13_breaksLayers [(1, 282), (0, x1), (0, x2)] (vup h 2 284 x1 x2)) else vrun mX13_breakLine 123 [(1, 282), (0, x1), (0, x2), (0, x3), (0, x4 + 1)] [] (vup h 2 283 (80 * (x1 + 1) + x4) (h 2 283 (80 * x1 + x2 + x4))) := by
  refine (rn_iload (pc := 123) (dd bX13_breakLine dX13_breakLine_123) rfl).trans ?_
  refine (rn_aload_n (pc := 125) (dd bX13_breakLine dX13_breakLine_125) rfl).trans ?_
  refine (rg_gf (pc := 126) (dd bX13_breakLine dX13_breakLine_126) (ci := 14) (j := 2) rfl rfl (key := 1502) rfl (kc := 34) rfl s1.1 s1.2.2.2.2.1).trans ?_
  refine (rn_iload_n (pc := 129) (dd bX13_breakLine dX13_breakLine_129) rfl).trans ?_
  refine (rn_iconst (pc := 130) (dd bX13_breakLine dX13_breakLine_130) (by decide)).trans ?_
  refine (rg_iadd (pc := 131) (dd bX13_breakLine dX13_breakLine_131) p2 p3).trans ?_
  refine (rg_iaload (pc := 132) (dd bX13_breakLine dX13_breakLine_132) s1.2.2.2.2.2.1 s1.2.2.2.2.2.2.1 p4 p5 rfl).trans ?_
  refine (rn_icmp_ge (t := 170) (pc := 133) (dd bX13_breakLine dX13_breakLine_133) rfl).trans (itec (fun c1 => ?_) (fun c1 => ?_))
  · refine (rn_aload_n (pc := 170) (dd bX13_breakLine dX13_breakLine_170) rfl).trans ?_
    refine (rg_gf (pc := 171) (dd bX13_breakLine dX13_breakLine_171) (ci := 14) (j := 2) rfl rfl (key := 1502) rfl (kc := 34) rfl s1.1 s1.2.2.2.2.1).trans ?_
    refine (rn_iload_n (pc := 174) (dd bX13_breakLine dX13_breakLine_174) rfl).trans ?_
    refine (rn_iload_n (pc := 175) (dd bX13_breakLine dX13_breakLine_175) rfl).trans ?_
    refine (rg_iastore (pc := 176) (dd bX13_breakLine dX13_breakLine_176) s1.2.2.2.2.2.1 s1.2.2.2.2.2.2.1 (p6 c1) (p7 c1)).trans ?_
    refine (rn_aload_n (pc := 177) (dd bX13_breakLine dX13_breakLine_177) rfl).trans ?_
    refine (rn_iload_n (pc := 178) (dd bX13_breakLine dX13_breakLine_178) rfl).trans ?_
    refine (rn_iload_n (pc := 179) (dd bX13_breakLine dX13_breakLine_179) rfl).trans ?_
    exact rg_virtual (pc := 180) (dd bX13_breakLine dX13_breakLine_180) rfl rfl (by decide) (kc := 34) rfl ((vup_k (by decide)).trans s1.1) (as := [(1, 282), (0, x1), (0, x2)]) rfl ⟨Nat.le_of_ble_eq_true rfl, Nat.le_of_ble_eq_true rfl, Nat.le_of_ble_eq_true rfl, Nat.le_of_ble_eq_true rfl⟩
  · refine (rn_aload_n (pc := 136) (dd bX13_breakLine dX13_breakLine_136) rfl).trans ?_
    refine (rg_gf (pc := 137) (dd bX13_breakLine dX13_breakLine_137) (ci := 14) (j := 1) rfl rfl (key := 1501) rfl (kc := 34) rfl s1.1 s1.2.1).trans ?_
    refine (rn_bipush (pc := 140) (dd bX13_breakLine dX13_breakLine_140) (by decide)).trans ?_
    refine (rn_iload_n (pc := 142) (dd bX13_breakLine dX13_breakLine_142) rfl).trans ?_
    refine (rn_iconst (pc := 143) (dd bX13_breakLine dX13_breakLine_143) (by decide)).trans ?_
    refine (rg_iadd (pc := 144) (dd bX13_breakLine dX13_breakLine_144) (by omega) (by omega)).trans ?_
    refine (rg_imul (pc := 145) (dd bX13_breakLine dX13_breakLine_145) (p8 c1) (p9 c1)).trans ?_
    refine (rn_iload (pc := 146) (dd bX13_breakLine dX13_breakLine_146) rfl).trans ?_
    refine (rg_iadd (pc := 148) (dd bX13_breakLine dX13_breakLine_148) (p10 c1) (p11 c1)).trans ?_
    refine (rn_aload_n (pc := 149) (dd bX13_breakLine dX13_breakLine_149) rfl).trans ?_
    refine (rg_gf (pc := 150) (dd bX13_breakLine dX13_breakLine_150) (ci := 14) (j := 1) rfl rfl (key := 1501) rfl (kc := 34) rfl s1.1 s1.2.1).trans ?_
    refine (rn_bipush (pc := 153) (dd bX13_breakLine dX13_breakLine_153) (by decide)).trans ?_
    refine (rn_iload_n (pc := 155) (dd bX13_breakLine dX13_breakLine_155) rfl).trans ?_
    refine (rg_imul (pc := 156) (dd bX13_breakLine dX13_breakLine_156) (p12 c1) (p13 c1)).trans ?_
    refine (rn_iload_n (pc := 157) (dd bX13_breakLine dX13_breakLine_157) rfl).trans ?_
    refine (rg_iadd (pc := 158) (dd bX13_breakLine dX13_breakLine_158) (p14 c1) (p15 c1)).trans ?_
    refine (rn_iload (pc := 159) (dd bX13_breakLine dX13_breakLine_159) rfl).trans ?_
    refine (rg_iadd (pc := 161) (dd bX13_breakLine dX13_breakLine_161) (p16 c1) (p17 c1)).trans ?_
    refine (rg_iaload (pc := 162) (dd bX13_breakLine dX13_breakLine_162) s1.2.2.1 s1.2.2.2.1 (p18 c1) (p19 c1) rfl).trans ?_
    refine (rg_iastore (pc := 163) (dd bX13_breakLine dX13_breakLine_163) s1.2.2.1 s1.2.2.2.1 (p20 c1) (p21 c1)).trans ?_
    refine (rg_iinc (pc := 164) (dd bX13_breakLine dX13_breakLine_164) rfl (Nat.le_of_ble_eq_true rfl) (p22 c1) (p23 c1) rfl).trans ?_
    refine (rn_goto (t := 123) (pc := 167) (dd bX13_breakLine dX13_breakLine_167) rfl).trans ?_
    rfl
theorem rX13_breakLine_79 {x1 : Int} {x2 : Int} {x3 : Int} {x4 : Int} {h : vH} (p1 : (-2147483648) ≤ x4 + (-1)) (p2 : x4 + (-1) < 2147483648) : vrun mX13_breakLine 79 [(1, 282), (0, x1), (0, x2), (0, x3), (0, x4)] [] h = vrun mX13_breakLine 61 [(1, 282), (0, x1), (0, x2), (0, x3), (0, x4 + (-1))] [] h := by
  refine (rg_iinc (pc := 79) (dd bX13_breakLine dX13_breakLine_79) rfl (Nat.le_of_ble_eq_true rfl) p1 p2 rfl).trans ?_
  refine (rn_goto (t := 61) (pc := 82) (dd bX13_breakLine dX13_breakLine_82) rfl).trans ?_
  rfl
theorem rX13_breakLine_183 {x1 : Int} {x2 : Int} {x3 : Int} {x4 : Int} {h : vH} (s1 : shModel h) : vrun mX13_breakLine 183 [(1, 282), (0, x1), (0, x2), (0, x3), (0, x4)] [] h = some (.inl (some (0, h 1504 282 0)), h) := by
  refine (rn_aload_n (pc := 183) (dd bX13_breakLine dX13_breakLine_183) rfl).trans ?_
  refine (rg_gf (pc := 184) (dd bX13_breakLine dX13_breakLine_184) (ci := 14) (j := 4) rfl rfl (key := 1504) rfl (kc := 34) rfl s1.1 rfl).trans ?_
  exact rn_ireturn (pc := 187) (dd bX13_breakLine dX13_breakLine_187) (Or.inl rfl)
theorem bX13_dropsFold : vmB mX13_dropsFold = cX13_dropsFold := rfl
theorem rX13_dropsFold_0 {x1 : Int} {x2 : Int} {h : vH} (s1 : shModel h) (p2 : 0 ≤ x1) (p3 : x1 < 4) (p4 : (-2147483648) ≤ h 2 301 x1 - 1) (p5 : h 2 301 x1 - 1 < 2147483648) (p6 : (-2147483648) ≤ 6 * x1) (p7 : 6 * x1 < 2147483648) (p8 : (-2147483648) ≤ 6 * x1 + x2) (p9 : 6 * x1 + x2 < 2147483648) : vrun mX13_dropsFold 0 [(1, 282), (0, x1), (0, x2), (9, 0)] [] h = vrun mX13_dropsFold 17 [(1, 282), (0, x1), (0, x2), (0, 6 * x1 + x2)] [] (vup h 2 301 x1 (h 2 301 x1 - 1)) := by
  refine (rn_aload_n (pc := 0) (dd bX13_dropsFold dX13_dropsFold_0) rfl).trans ?_
  refine (rg_gf (pc := 1) (dd bX13_dropsFold dX13_dropsFold_1) (ci := 14) (j := 20) rfl rfl (key := 1520) rfl (kc := 34) rfl s1.1 s1.2.2.2.2.2.2.2.2.2.2.2.2.2.2.2.2.2.2.2.2.2.2.2.2.2.2.2.2.2.2.2.2.2.2.2.2.2.2.2.2.2.2.2.2.2.2.2.2.2.2.2.2.2.2.2.1).trans ?_
  refine (rn_iload_n (pc := 4) (dd bX13_dropsFold dX13_dropsFold_4) rfl).trans ?_
  refine (rn_dup2 (pc := 5) (dd bX13_dropsFold dX13_dropsFold_5) (by decide)).trans ?_
  refine (rg_iaload (pc := 6) (dd bX13_dropsFold dX13_dropsFold_6) s1.2.2.2.2.2.2.2.2.2.2.2.2.2.2.2.2.2.2.2.2.2.2.2.2.2.2.2.2.2.2.2.2.2.2.2.2.2.2.2.2.2.2.2.2.2.2.2.2.2.2.2.2.2.2.2.2.1 s1.2.2.2.2.2.2.2.2.2.2.2.2.2.2.2.2.2.2.2.2.2.2.2.2.2.2.2.2.2.2.2.2.2.2.2.2.2.2.2.2.2.2.2.2.2.2.2.2.2.2.2.2.2.2.2.2.2.1 p2 p3 rfl).trans ?_
  refine (rn_iconst (pc := 7) (dd bX13_dropsFold dX13_dropsFold_7) (by decide)).trans ?_
  refine (rg_isub (pc := 8) (dd bX13_dropsFold dX13_dropsFold_8) p4 p5).trans ?_
  refine (rg_iastore (pc := 9) (dd bX13_dropsFold dX13_dropsFold_9) s1.2.2.2.2.2.2.2.2.2.2.2.2.2.2.2.2.2.2.2.2.2.2.2.2.2.2.2.2.2.2.2.2.2.2.2.2.2.2.2.2.2.2.2.2.2.2.2.2.2.2.2.2.2.2.2.2.1 s1.2.2.2.2.2.2.2.2.2.2.2.2.2.2.2.2.2.2.2.2.2.2.2.2.2.2.2.2.2.2.2.2.2.2.2.2.2.2.2.2.2.2.2.2.2.2.2.2.2.2.2.2.2.2.2.2.2.1 (by omega) (by omega)).trans ?_
  refine (rn_bipush (pc := 10) (dd bX13_dropsFold dX13_dropsFold_10) (by decide)).trans ?_
  refine (rn_iload_n (pc := 12) (dd bX13_dropsFold dX13_dropsFold_12) rfl).trans ?_
  refine (rg_imul (pc := 13) (dd bX13_dropsFold dX13_dropsFold_13) p6 p7).trans ?_
  refine (rn_iload_n (pc := 14) (dd bX13_dropsFold dX13_dropsFold_14) rfl).trans ?_
  refine (rg_iadd (pc := 15) (dd bX13_dropsFold dX13_dropsFold_15) p8 p9).trans ?_
  refine (rn_istore_n (pc := 16) (dd bX13_dropsFold dX13_dropsFold_16) (Nat.le_of_ble_eq_true rfl) rfl).trans ?_
  rfl
theorem rX13_dropsFold_17 {x1 : Int} {x2 : Int} {x3 : Int} {h : vH} (p1 : (-2147483648) ≤ 6 * x1) (p2 : 6 * x1 < 2147483648) (s3 : shModel h) (p4 : 0 ≤ x1) (p5 : x1 < 4) (p6 : (-2147483648) ≤ 6 * x1 + h 2 301 x1) (p7 : 6 * x1 + h 2 301 x1 < 2147483648) (p8 : ¬ (6 * x1 + h 2 301 x1 ≤ x3) → (-2147483648) ≤ x3 + 1) (p9 : ¬ (6 * x1 + h 2 301 x1 ≤ x3) → x3 + 1 < 2147483648) (p10 : ¬ (6 * x1 + h 2 301 x1 ≤ x3) → 0 ≤ x3 + 1) (p11 : ¬ (6 * x1 + h 2 301 x1 ≤ x3) → x3 + 1 < 24) (p12 : ¬ (6 * x1 + h 2 301 x1 ≤ x3) → 0 ≤ x3) (p13 : ¬ (6 * x1 + h 2 301 x1 ≤ x3) → x3 < 24) (p14 : ¬ (6 * x1 + h 2 301 x1 ≤ x3) → h 2 304 (x3 + 1) = 0 ∨ h 2 304 (x3 + 1) = 1) : vrun mX13_dropsFold 17 [(1, 282), (0, x1), (0, x2), (0, x3)] [] h = if 6 * x1 + h 2 301 x1 ≤ x3 then some (.inl none, h) else vrun mX13_dropsFold 17 [(1, 282), (0, x1), (0, x2), (0, x3 + 1)] [] (vup (vup (vup h 2 302 x3 (h 2 302 (x3 + 1))) 2 303 x3 (h 2 303 (x3 + 1))) 2 304 x3 (h 2 304 (x3 + 1))) := by
  refine (rn_iload_n (pc := 17) (dd bX13_dropsFold dX13_dropsFold_17) rfl).trans ?_
  refine (rn_bipush (pc := 18) (dd bX13_dropsFold dX13_dropsFold_18) (by decide)).trans ?_
  refine (rn_iload_n (pc := 20) (dd bX13_dropsFold dX13_dropsFold_20) rfl).trans ?_
  refine (rg_imul (pc := 21) (dd bX13_dropsFold dX13_dropsFold_21) p1 p2).trans ?_
  refine (rn_aload_n (pc := 22) (dd bX13_dropsFold dX13_dropsFold_22) rfl).trans ?_
  refine (rg_gf (pc := 23) (dd bX13_dropsFold dX13_dropsFold_23) (ci := 14) (j := 20) rfl rfl (key := 1520) rfl (kc := 34) rfl s3.1 s3.2.2.2.2.2.2.2.2.2.2.2.2.2.2.2.2.2.2.2.2.2.2.2.2.2.2.2.2.2.2.2.2.2.2.2.2.2.2.2.2.2.2.2.2.2.2.2.2.2.2.2.2.2.2.2.1).trans ?_
  refine (rn_iload_n (pc := 26) (dd bX13_dropsFold dX13_dropsFold_26) rfl).trans ?_
  refine (rg_iaload (pc := 27) (dd bX13_dropsFold dX13_dropsFold_27) s3.2.2.2.2.2.2.2.2.2.2.2.2.2.2.2.2.2.2.2.2.2.2.2.2.2.2.2.2.2.2.2.2.2.2.2.2.2.2.2.2.2.2.2.2.2.2.2.2.2.2.2.2.2.2.2.2.1 s3.2.2.2.2.2.2.2.2.2.2.2.2.2.2.2.2.2.2.2.2.2.2.2.2.2.2.2.2.2.2.2.2.2.2.2.2.2.2.2.2.2.2.2.2.2.2.2.2.2.2.2.2.2.2.2.2.2.1 p4 p5 rfl).trans ?_
  refine (rg_iadd (pc := 28) (dd bX13_dropsFold dX13_dropsFold_28) p6 p7).trans ?_
  refine (rn_icmp_ge (t := 80) (pc := 29) (dd bX13_dropsFold dX13_dropsFold_29) rfl).trans (itec (fun c1 => ?_) (fun c1 => ?_))
  · exact rn_return (pc := 80) (dd bX13_dropsFold dX13_dropsFold_80) rfl
  · refine (rn_aload_n (pc := 32) (dd bX13_dropsFold dX13_dropsFold_32) rfl).trans ?_
    refine (rg_gf (pc := 33) (dd bX13_dropsFold dX13_dropsFold_33) (ci := 14) (j := 21) rfl rfl (key := 1521) rfl (kc := 34) rfl s3.1 s3.2.2.2.2.2.2.2.2.2.2.2.2.2.2.2.2.2.2.2.2.2.2.2.2.2.2.2.2.2.2.2.2.2.2.2.2.2.2.2.2.2.2.2.2.2.2.2.2.2.2.2.2.2.2.2.2.2.2.1).trans ?_
    refine (rn_iload_n (pc := 36) (dd bX13_dropsFold dX13_dropsFold_36) rfl).trans ?_
    refine (rn_aload_n (pc := 37) (dd bX13_dropsFold dX13_dropsFold_37) rfl).trans ?_
    refine (rg_gf (pc := 38) (dd bX13_dropsFold dX13_dropsFold_38) (ci := 14) (j := 21) rfl rfl (key := 1521) rfl (kc := 34) rfl s3.1 s3.2.2.2.2.2.2.2.2.2.2.2.2.2.2.2.2.2.2.2.2.2.2.2.2.2.2.2.2.2.2.2.2.2.2.2.2.2.2.2.2.2.2.2.2.2.2.2.2.2.2.2.2.2.2.2.2.2.2.1).trans ?_
    refine (rn_iload_n (pc := 41) (dd bX13_dropsFold dX13_dropsFold_41) rfl).trans ?_
    refine (rn_iconst (pc := 42) (dd bX13_dropsFold dX13_dropsFold_42) (by decide)).trans ?_
    refine (rg_iadd (pc := 43) (dd bX13_dropsFold dX13_dropsFold_43) (p8 c1) (p9 c1)).trans ?_
    refine (rg_iaload (pc := 44) (dd bX13_dropsFold dX13_dropsFold_44) s3.2.2.2.2.2.2.2.2.2.2.2.2.2.2.2.2.2.2.2.2.2.2.2.2.2.2.2.2.2.2.2.2.2.2.2.2.2.2.2.2.2.2.2.2.2.2.2.2.2.2.2.2.2.2.2.2.2.2.2.1 s3.2.2.2.2.2.2.2.2.2.2.2.2.2.2.2.2.2.2.2.2.2.2.2.2.2.2.2.2.2.2.2.2.2.2.2.2.2.2.2.2.2.2.2.2.2.2.2.2.2.2.2.2.2.2.2.2.2.2.2.2.1 (p10 c1) (p11 c1) rfl).trans ?_
    refine (rg_iastore (pc := 45) (dd bX13_dropsFold dX13_dropsFold_45) s3.2.2.2.2.2.2.2.2.2.2.2.2.2.2.2.2.2.2.2.2.2.2.2.2.2.2.2.2.2.2.2.2.2.2.2.2.2.2.2.2.2.2.2.2.2.2.2.2.2.2.2.2.2.2.2.2.2.2.2.1 s3.2.2.2.2.2.2.2.2.2.2.2.2.2.2.2.2.2.2.2.2.2.2.2.2.2.2.2.2.2.2.2.2.2.2.2.2.2.2.2.2.2.2.2.2.2.2.2.2.2.2.2.2.2.2.2.2.2.2.2.2.1 (p12 c1) (p13 c1)).trans ?_
    refine (rn_aload_n (pc := 46) (dd bX13_dropsFold dX13_dropsFold_46) rfl).trans ?_
    refine (rg_gf (pc := 47) (dd bX13_dropsFold dX13_dropsFold_47) (ci := 14) (j := 22) rfl rfl (key := 1522) rfl (kc := 34) rfl ((vup_k (by decide)).trans s3.1) ((vup_k (by decide)).trans s3.2.2.2.2.2.2.2.2.2.2.2.2.2.2.2.2.2.2.2.2.2.2.2.2.2.2.2.2.2.2.2.2.2.2.2.2.2.2.2.2.2.2.2.2.2.2.2.2.2.2.2.2.2.2.2.2.2.2.2.2.2.1)).trans ?_
    refine (rn_iload_n (pc := 50) (dd bX13_dropsFold dX13_dropsFold_50) rfl).trans ?_
    refine (rn_aload_n (pc := 51) (dd bX13_dropsFold dX13_dropsFold_51) rfl).trans ?_
    refine (rg_gf (pc := 52) (dd bX13_dropsFold dX13_dropsFold_52) (ci := 14) (j := 22) rfl rfl (key := 1522) rfl (kc := 34) rfl ((vup_k (by decide)).trans s3.1) ((vup_k (by decide)).trans s3.2.2.2.2.2.2.2.2.2.2.2.2.2.2.2.2.2.2.2.2.2.2.2.2.2.2.2.2.2.2.2.2.2.2.2.2.2.2.2.2.2.2.2.2.2.2.2.2.2.2.2.2.2.2.2.2.2.2.2.2.2.1)).trans ?_
    refine (rn_iload_n (pc := 55) (dd bX13_dropsFold dX13_dropsFold_55) rfl).trans ?_
    refine (rn_iconst (pc := 56) (dd bX13_dropsFold dX13_dropsFold_56) (by decide)).trans ?_
    refine (rg_iadd (pc := 57) (dd bX13_dropsFold dX13_dropsFold_57) (by have z0 := p12 c1; have z1 := p13 c1; have z2 := p11 c1; omega) (by have z0 := p12 c1; have z1 := p13 c1; have z2 := p11 c1; omega)).trans ?_
    refine (rg_iaload (pc := 58) (dd bX13_dropsFold dX13_dropsFold_58) ((vup_k (by decide)).trans s3.2.2.2.2.2.2.2.2.2.2.2.2.2.2.2.2.2.2.2.2.2.2.2.2.2.2.2.2.2.2.2.2.2.2.2.2.2.2.2.2.2.2.2.2.2.2.2.2.2.2.2.2.2.2.2.2.2.2.2.2.2.2.1) ((vup_k (by decide)).trans s3.2.2.2.2.2.2.2.2.2.2.2.2.2.2.2.2.2.2.2.2.2.2.2.2.2.2.2.2.2.2.2.2.2.2.2.2.2.2.2.2.2.2.2.2.2.2.2.2.2.2.2.2.2.2.2.2.2.2.2.2.2.2.2.1) (by have z0 := p12 c1; have z1 := p13 c1; have z2 := p11 c1; omega) (by have z0 := p12 c1; have z1 := p13 c1; have z2 := p11 c1; omega) ((vup_r (by omega)).trans rfl)).trans ?_
    refine (rg_iastore (pc := 59) (dd bX13_dropsFold dX13_dropsFold_59) ((vup_k (by decide)).trans s3.2.2.2.2.2.2.2.2.2.2.2.2.2.2.2.2.2.2.2.2.2.2.2.2.2.2.2.2.2.2.2.2.2.2.2.2.2.2.2.2.2.2.2.2.2.2.2.2.2.2.2.2.2.2.2.2.2.2.2.2.2.2.1) ((vup_k (by decide)).trans s3.2.2.2.2.2.2.2.2.2.2.2.2.2.2.2.2.2.2.2.2.2.2.2.2.2.2.2.2.2.2.2.2.2.2.2.2.2.2.2.2.2.2.2.2.2.2.2.2.2.2.2.2.2.2.2.2.2.2.2.2.2.2.2.1) (by have z0 := p12 c1; have z1 := p13 c1; omega) (by have z0 := p12 c1; have z1 := p13 c1; omega)).trans ?_
    refine (rn_aload_n (pc := 60) (dd bX13_dropsFold dX13_dropsFold_60) rfl).trans ?_
    refine (rg_gf (pc := 61) (dd bX13_dropsFold dX13_dropsFold_61) (ci := 14) (j := 23) rfl rfl (key := 1523) rfl (kc := 34) rfl ((vup_k (by decide)).trans ((vup_k (by decide)).trans s3.1)) ((vup_k (by decide)).trans ((vup_k (by decide)).trans s3.2.2.2.2.2.2.2.2.2.2.2.2.2.2.2.2.2.2.2.2.2.2.2.2.2.2.2.2.2.2.2.2.2.2.2.2.2.2.2.2.2.2.2.2.2.2.2.2.2.2.2.2.2.2.2.2.2.2.2.2.2.2.2.2.1))).trans ?_
    refine (rn_iload_n (pc := 64) (dd bX13_dropsFold dX13_dropsFold_64) rfl).trans ?_
    refine (rn_aload_n (pc := 65) (dd bX13_dropsFold dX13_dropsFold_65) rfl).trans ?_
    refine (rg_gf (pc := 66) (dd bX13_dropsFold dX13_dropsFold_66) (ci := 14) (j := 23) rfl rfl (key := 1523) rfl (kc := 34) rfl ((vup_k (by decide)).trans ((vup_k (by decide)).trans s3.1)) ((vup_k (by decide)).trans ((vup_k (by decide)).trans s3.2.2.2.2.2.2.2.2.2.2.2.2.2.2.2.2.2.2.2.2.2.2.2.2.2.2.2.2.2.2.2.2.2.2.2.2.2.2.2.2.2.2.2.2.2.2.2.2.2.2.2.2.2.2.2.2.2.2.2.2.2.2.2.2.1))).trans ?_
    refine (rn_iload_n (pc := 69) (dd bX13_dropsFold dX13_dropsFold_69) rfl).trans ?_
    refine (rn_iconst (pc := 70) (dd bX13_dropsFold dX13_dropsFold_70) (by decide)).trans ?_
    refine (rg_iadd (pc := 71) (dd bX13_dropsFold dX13_dropsFold_71) (by have z0 := p12 c1; have z1 := p13 c1; have z2 := p11 c1; omega) (by have z0 := p12 c1; have z1 := p13 c1; have z2 := p11 c1; omega)).trans ?_
    refine (rg_baload (pc := 72) (dd bX13_dropsFold dX13_dropsFold_72) ((vup_k (by decide)).trans ((vup_k (by decide)).trans s3.2.2.2.2.2.2.2.2.2.2.2.2.2.2.2.2.2.2.2.2.2.2.2.2.2.2.2.2.2.2.2.2.2.2.2.2.2.2.2.2.2.2.2.2.2.2.2.2.2.2.2.2.2.2.2.2.2.2.2.2.2.2.2.2.2.1)) ((vup_k (by decide)).trans ((vup_k (by decide)).trans s3.2.2.2.2.2.2.2.2.2.2.2.2.2.2.2.2.2.2.2.2.2.2.2.2.2.2.2.2.2.2.2.2.2.2.2.2.2.2.2.2.2.2.2.2.2.2.2.2.2.2.2.2.2.2.2.2.2.2.2.2.2.2.2.2.2.2.1)) (by have z0 := p12 c1; have z1 := p13 c1; have z2 := p11 c1; omega) (by have z0 := p12 c1; have z1 := p13 c1; have z2 := p11 c1; omega) ((vup_r (by omega)).trans ((vup_r (by omega)).trans rfl))).trans ?_
    refine (rg_bastore (pc := 73) (dd bX13_dropsFold dX13_dropsFold_73) ((vup_k (by decide)).trans ((vup_k (by decide)).trans s3.2.2.2.2.2.2.2.2.2.2.2.2.2.2.2.2.2.2.2.2.2.2.2.2.2.2.2.2.2.2.2.2.2.2.2.2.2.2.2.2.2.2.2.2.2.2.2.2.2.2.2.2.2.2.2.2.2.2.2.2.2.2.2.2.2.1)) ((vup_k (by decide)).trans ((vup_k (by decide)).trans s3.2.2.2.2.2.2.2.2.2.2.2.2.2.2.2.2.2.2.2.2.2.2.2.2.2.2.2.2.2.2.2.2.2.2.2.2.2.2.2.2.2.2.2.2.2.2.2.2.2.2.2.2.2.2.2.2.2.2.2.2.2.2.2.2.2.2.1)) (by have z0 := p12 c1; have z1 := p13 c1; omega) (by have z0 := p12 c1; have z1 := p13 c1; omega) (p14 c1)).trans ?_
    refine (rg_iinc (pc := 74) (dd bX13_dropsFold dX13_dropsFold_74) rfl (Nat.le_of_ble_eq_true rfl) (by have z0 := p12 c1; have z1 := p13 c1; have z2 := p11 c1; omega) (by have z0 := p12 c1; have z1 := p13 c1; have z2 := p11 c1; omega) rfl).trans ?_
    refine (rn_goto (t := 17) (pc := 77) (dd bX13_dropsFold dX13_dropsFold_77) rfl).trans ?_
    rfl
theorem bX13_joinsLayers : vmB mX13_joinsLayers = cX13_joinsLayers := rfl
theorem rX13_joinsLayers_0 {x1 : Int} {x2 : Int} {h : vH} : vrun mX13_joinsLayers 0 [(1, 282), (0, x1), (0, x2), (9, 0), (9, 0)] [] h = vrun mX13_joinsLayers 2 [(1, 282), (0, x1), (0, x2), (0, 0), (9, 0)] [] h := by
  refine (rn_iconst (pc := 0) (dd bX13_joinsLayers dX13_joinsLayers_0) (by decide)).trans ?_
  refine (rn_istore_n (pc := 1) (dd bX13_joinsLayers dX13_joinsLayers_1) (Nat.le_of_ble_eq_true rfl) rfl).trans ?_
  rfl
theorem rX13_joinsLayers_2 {x1 : Int} {x2 : Int} {x3 : Int} {v4 : vv} {h : vH} (s1 : shModel h) (p2 : ¬ (24 ≤ x3) → 0 ≤ x3) (p3 : ¬ (24 ≤ x3) → (-2147483648) ≤ x1 + 1) (p4 : ¬ (24 ≤ x3) → x1 + 1 < 2147483648) (p5 : ¬ (24 ≤ x3) → (-2147483648) ≤ h 2 295 x3 + (if h 2 294 x3 = x1 + 1 then x2 else 0)) (p6 : ¬ (24 ≤ x3) → h 2 295 x3 + (if h 2 294 x3 = x1 + 1 then x2 else 0) < 2147483648) (p7 : ¬ (24 ≤ x3) → (-2147483648) ≤ h 2 296 x3 + (if h 2 294 x3 = x1 + 1 then x2 else 0)) (p8 : ¬ (24 ≤ x3) → h 2 296 x3 + (if h 2 294 x3 = x1 + 1 then x2 else 0) < 2147483648) (p9 : ¬ (24 ≤ x3) → (-2147483648) ≤ h 2 294 x3 - (if ¬ (h 2 294 x3 ≤ x1) then 1 else 0)) (p10 : ¬ (24 ≤ x3) → h 2 294 x3 - (if ¬ (h 2 294 x3 ≤ x1) then 1 else 0) < 2147483648) (p11 : ¬ (24 ≤ x3) → (-2147483648) ≤ h 2 299 x3 + (if h 2 298 x3 = x1 + 1 then x2 else 0)) (p12 : ¬ (24 ≤ x3) → h 2 299 x3 + (if h 2 298 x3 = x1 + 1 then x2 else 0) < 2147483648) (p13 : ¬ (24 ≤ x3) → (-2147483648) ≤ h 2 298 x3 - (if ¬ (h 2 298 x3 ≤ x1) then 1 else 0)) (p14 : ¬ (24 ≤ x3) → h 2 298 x3 - (if ¬ (h 2 298 x3 ≤ x1) then 1 else 0) < 2147483648) (p15 : ¬ (24 ≤ x3) → (-2147483648) ≤ h 2 302 x3 - (if ¬ (h 2 302 x3 ≤ x1) then 1 else 0)) (p16 : ¬ (24 ≤ x3) → h 2 302 x3 - (if ¬ (h 2 302 x3 ≤ x1) then 1 else 0) < 2147483648) (p17 : ¬ (24 ≤ x3) → (-2147483648) ≤ h 2 303 x3 - (if ¬ (h 2 303 x3 ≤ x1) then 1 else 0)) (p18 : ¬ (24 ≤ x3) → h 2 303 x3 - (if ¬ (h 2 303 x3 ≤ x1) then 1 else 0) < 2147483648) : vrun mX13_joinsLayers 2 [(1, 282), (0, x1), (0, x2), (0, x3), v4] [] h = if 24 ≤ x3 then vrun mX13_joinsLayers 179 [(1, 282), (0, x1), (0, x2), (0, 0), v4] [] h else vrun mX13_joinsLayers 2 [(1, 282), (0, x1), (0, x2), (0, x3 + 1), (0, (if h 2 294 x3 = x1 + 1 then x2 else 0))] [] (vup (vup (vup (vup (vup (vup (vup h 2 295 x3 (h 2 295 x3 + (if h 2 294 x3 = x1 + 1 then x2 else 0))) 2 296 x3 (h 2 296 x3 + (if h 2 294 x3 = x1 + 1 then x2 else 0))) 2 294 x3 (h 2 294 x3 - (if ¬ (h 2 294 x3 ≤ x1) then 1 else 0))) 2 299 x3 (h 2 299 x3 + (if h 2 298 x3 = x1 + 1 then x2 else 0))) 2 298 x3 (h 2 298 x3 - (if ¬ (h 2 298 x3 ≤ x1) then 1 else 0))) 2 302 x3 (h 2 302 x3 - (if ¬ (h 2 302 x3 ≤ x1) then 1 else 0))) 2 303 x3 (h 2 303 x3 - (if ¬ (h 2 303 x3 ≤ x1) then 1 else 0))) := by
  refine (rn_iload_n (pc := 2) (dd bX13_joinsLayers dX13_joinsLayers_2) rfl).trans ?_
  refine (rn_bipush (pc := 3) (dd bX13_joinsLayers dX13_joinsLayers_3) (by decide)).trans ?_
  refine (rn_icmp_ge (t := 177) (pc := 5) (dd bX13_joinsLayers dX13_joinsLayers_5) rfl).trans (itec (fun c1 => ?_) (fun c1 => ?_))
  · refine (rn_iconst (pc := 177) (dd bX13_joinsLayers dX13_joinsLayers_177) (by decide)).trans ?_
    refine (rn_istore_n (pc := 178) (dd bX13_joinsLayers dX13_joinsLayers_178) (Nat.le_of_ble_eq_true rfl) rfl).trans ?_
    rfl
  · refine (rn_aload_n (pc := 8) (dd bX13_joinsLayers dX13_joinsLayers_8) rfl).trans ?_
    refine (rg_gf (pc := 9) (dd bX13_joinsLayers dX13_joinsLayers_9) (ci := 14) (j := 13) rfl rfl (key := 1513) rfl (kc := 34) rfl s1.1 s1.2.2.2.2.2.2.2.2.2.2.2.2.2.2.2.2.2.2.2.2.2.2.2.2.2.2.2.2.2.2.2.2.2.2.1).trans ?_
    refine (rn_iload_n (pc := 12) (dd bX13_joinsLayers dX13_joinsLayers_12) rfl).trans ?_
    refine (rg_iaload (pc := 13) (dd bX13_joinsLayers dX13_joinsLayers_13) s1.2.2.2.2.2.2.2.2.2.2.2.2.2.2.2.2.2.2.2.2.2.2.2.2.2.2.2.2.2.2.2.2.2.2.2.1 s1.2.2.2.2.2.2.2.2.2.2.2.2.2.2.2.2.2.2.2.2.2.2.2.2.2.2.2.2.2.2.2.2.2.2.2.2.1 (p2 c1) (Int.not_le.mp c1) rfl).trans ?_
    refine (rn_iload_n (pc := 14) (dd bX13_joinsLayers dX13_joinsLayers_14) rfl).trans ?_
    refine (rn_iconst (pc := 15) (dd bX13_joinsLayers dX13_joinsLayers_15) (by decide)).trans ?_
    refine (rg_iadd (pc := 16) (dd bX13_joinsLayers dX13_joinsLayers_16) (p3 c1) (p4 c1)).trans ?_
    have e1 : vrun mX13_joinsLayers 17 [(1, 282), (0, x1), (0, x2), (0, x3), v4] [(0, x1 + 1), (0, h 2 294 x3)] h = vrun mX13_joinsLayers 25 [(1, 282), (0, x1), (0, x2), (0, x3), v4] [(0, (if h 2 294 x3 = x1 + 1 then x2 else 0))] h := by
      refine (rg_icmp_ne (t := 24) (pc := 17) (dd bX13_joinsLayers dX13_joinsLayers_17) rfl).trans ?_
      by_cases c2 : h 2 294 x3 = x1 + 1
      · refine (if_pos c2).trans ?_
        refine (rn_iload_n (pc := 20) (dd bX13_joinsLayers dX13_joinsLayers_20) rfl).trans ?_
        refine (rn_goto (t := 25) (pc := 21) (dd bX13_joinsLayers dX13_joinsLayers_21) rfl).trans ?_
        refine Eq.trans (b := vrun mX13_joinsLayers 25 [(1, 282), (0, x1), (0, x2), (0, x3), v4] [(0, x2)] h) rfl ?_
        simp only [if_pos c2]
      · refine (if_neg c2).trans ?_
        refine (rn_iconst (pc := 24) (dd bX13_joinsLayers dX13_joinsLayers_24) (by decide)).trans ?_
        refine Eq.trans (b := vrun mX13_joinsLayers 25 [(1, 282), (0, x1), (0, x2), (0, x3), v4] [(0, 0)] h) rfl ?_
        simp only [if_neg c2]
    refine e1.trans ?_
    refine (rn_istore (pc := 25) (dd bX13_joinsLayers dX13_joinsLayers_25) (Nat.le_of_ble_eq_true rfl) rfl).trans ?_
    refine (rn_aload_n (pc := 27) (dd bX13_joinsLayers dX13_joinsLayers_27) rfl).trans ?_
    refine (rg_gf (pc := 28) (dd bX13_joinsLayers dX13_joinsLayers_28) (ci := 14) (j := 14) rfl rfl (key := 1514) rfl (kc := 34) rfl s1.1 s1.2.2.2.2.2.2.2.2.2.2.2.2.2.2.2.2.2.2.2.2.2.2.2.2.2.2.2.2.2.2.2.2.2.2.2.2.2.1).trans ?_
    refine (rn_iload_n (pc := 31) (dd bX13_joinsLayers dX13_joinsLayers_31) rfl).trans ?_
    refine (rn_dup2 (pc := 32) (dd bX13_joinsLayers dX13_joinsLayers_32) (by decide)).trans ?_
    refine (rg_iaload (pc := 33) (dd bX13_joinsLayers dX13_joinsLayers_33) s1.2.2.2.2.2.2.2.2.2.2.2.2.2.2.2.2.2.2.2.2.2.2.2.2.2.2.2.2.2.2.2.2.2.2.2.2.2.2.1 s1.2.2.2.2.2.2.2.2.2.2.2.2.2.2.2.2.2.2.2.2.2.2.2.2.2.2.2.2.2.2.2.2.2.2.2.2.2.2.2.1 (by have z0 := p2 c1; omega) (Int.not_le.mp c1) rfl).trans ?_
    refine (rn_iload (pc := 34) (dd bX13_joinsLayers dX13_joinsLayers_34) rfl).trans ?_
    refine (rg_iadd (pc := 36) (dd bX13_joinsLayers dX13_joinsLayers_36) (p5 c1) (p6 c1)).trans ?_
    refine (rg_iastore (pc := 37) (dd bX13_joinsLayers dX13_joinsLayers_37) s1.2.2.2.2.2.2.2.2.2.2.2.2.2.2.2.2.2.2.2.2.2.2.2.2.2.2.2.2.2.2.2.2.2.2.2.2.2.2.1 s1.2.2.2.2.2.2.2.2.2.2.2.2.2.2.2.2.2.2.2.2.2.2.2.2.2.2.2.2.2.2.2.2.2.2.2.2.2.2.2.1 (by have z0 := p2 c1; omega) (Int.not_le.mp c1)).trans ?_
    refine (rn_aload_n (pc := 38) (dd bX13_joinsLayers dX13_joinsLayers_38) rfl).trans ?_
    refine (rg_gf (pc := 39) (dd bX13_joinsLayers dX13_joinsLayers_39) (ci := 14) (j := 15) rfl rfl (key := 1515) rfl (kc := 34) rfl ((vup_k (by decide)).trans s1.1) ((vup_k (by decide)).trans s1.2.2.2.2.2.2.2.2.2.2.2.2.2.2.2.2.2.2.2.2.2.2.2.2.2.2.2.2.2.2.2.2.2.2.2.2.2.2.2.2.1)).trans ?_
    refine (rn_iload_n (pc := 42) (dd bX13_joinsLayers dX13_joinsLayers_42) rfl).trans ?_
    refine (rn_dup2 (pc := 43) (dd bX13_joinsLayers dX13_joinsLayers_43) (by decide)).trans ?_
    refine (rg_iaload (pc := 44) (dd bX13_joinsLayers dX13_joinsLayers_44) ((vup_k (by decide)).trans s1.2.2.2.2.2.2.2.2.2.2.2.2.2.2.2.2.2.2.2.2.2.2.2.2.2.2.2.2.2.2.2.2.2.2.2.2.2.2.2.2.2.1) ((vup_k (by decide)).trans s1.2.2.2.2.2.2.2.2.2.2.2.2.2.2.2.2.2.2.2.2.2.2.2.2.2.2.2.2.2.2.2.2.2.2.2.2.2.2.2.2.2.2.1) (by have z0 := p2 c1; omega) (Int.not_le.mp c1) ((vup_r (by omega)).trans rfl)).trans ?_
    refine (rn_iload (pc := 45) (dd bX13_joinsLayers dX13_joinsLayers_45) rfl).trans ?_
    refine (rg_iadd (pc := 47) (dd bX13_joinsLayers dX13_joinsLayers_47) (p7 c1) (p8 c1)).trans ?_
    refine (rg_iastore (pc := 48) (dd bX13_joinsLayers dX13_joinsLayers_48) ((vup_k (by decide)).trans s1.2.2.2.2.2.2.2.2.2.2.2.2.2.2.2.2.2.2.2.2.2.2.2.2.2.2.2.2.2.2.2.2.2.2.2.2.2.2.2.2.2.1) ((vup_k (by decide)).trans s1.2.2.2.2.2.2.2.2.2.2.2.2.2.2.2.2.2.2.2.2.2.2.2.2.2.2.2.2.2.2.2.2.2.2.2.2.2.2.2.2.2.2.1) (by have z0 := p2 c1; omega) (Int.not_le.mp c1)).trans ?_
    refine (rn_aload_n (pc := 49) (dd bX13_joinsLayers dX13_joinsLayers_49) rfl).trans ?_
    refine (rg_gf (pc := 50) (dd bX13_joinsLayers dX13_joinsLayers_50) (ci := 14) (j := 13) rfl rfl (key := 1513) rfl (kc := 34) rfl ((vup_k (by decide)).trans ((vup_k (by decide)).trans s1.1)) ((vup_k (by decide)).trans ((vup_k (by decide)).trans s1.2.2.2.2.2.2.2.2.2.2.2.2.2.2.2.2.2.2.2.2.2.2.2.2.2.2.2.2.2.2.2.2.2.2.1))).trans ?_
    refine (rn_iload_n (pc := 53) (dd bX13_joinsLayers dX13_joinsLayers_53) rfl).trans ?_
    refine (rn_dup2 (pc := 54) (dd bX13_joinsLayers dX13_joinsLayers_54) (by decide)).trans ?_
    refine (rg_iaload (pc := 55) (dd bX13_joinsLayers dX13_joinsLayers_55) ((vup_k (by decide)).trans ((vup_k (by decide)).trans s1.2.2.2.2.2.2.2.2.2.2.2.2.2.2.2.2.2.2.2.2.2.2.2.2.2.2.2.2.2.2.2.2.2.2.2.1)) ((vup_k (by decide)).trans ((vup_k (by decide)).trans s1.2.2.2.2.2.2.2.2.2.2.2.2.2.2.2.2.2.2.2.2.2.2.2.2.2.2.2.2.2.2.2.2.2.2.2.2.1)) (by have z0 := p2 c1; omega) (Int.not_le.mp c1) ((vup_r (by omega)).trans ((vup_r (by omega)).trans rfl))).trans ?_
    refine (rn_aload_n (pc := 56) (dd bX13_joinsLayers dX13_joinsLayers_56) rfl).trans ?_
    refine (rg_gf (pc := 57) (dd bX13_joinsLayers dX13_joinsLayers_57) (ci := 14) (j := 13) rfl rfl (key := 1513) rfl (kc := 34) rfl ((vup_k (by decide)).trans ((vup_k (by decide)).trans s1.1)) ((vup_k (by decide)).trans ((vup_k (by decide)).trans s1.2.2.2.2.2.2.2.2.2.2.2.2.2.2.2.2.2.2.2.2.2.2.2.2.2.2.2.2.2.2.2.2.2.2.1))).trans ?_
    refine (rn_iload_n (pc := 60) (dd bX13_joinsLayers dX13_joinsLayers_60) rfl).trans ?_
    refine (rg_iaload (pc := 61) (dd bX13_joinsLayers dX13_joinsLayers_61) ((vup_k (by decide)).trans ((vup_k (by decide)).trans s1.2.2.2.2.2.2.2.2.2.2.2.2.2.2.2.2.2.2.2.2.2.2.2.2.2.2.2.2.2.2.2.2.2.2.2.1)) ((vup_k (by decide)).trans ((vup_k (by decide)).trans s1.2.2.2.2.2.2.2.2.2.2.2.2.2.2.2.2.2.2.2.2.2.2.2.2.2.2.2.2.2.2.2.2.2.2.2.2.1)) (by have z0 := p2 c1; omega) (Int.not_le.mp c1) ((vup_r (by omega)).trans ((vup_r (by omega)).trans rfl))).trans ?_
    refine (rn_iload_n (pc := 62) (dd bX13_joinsLayers dX13_joinsLayers_62) rfl).trans ?_
    have e2 : vrun mX13_joinsLayers 63 [(1, 282), (0, x1), (0, x2), (0, x3), (0, (if h 2 294 x3 = x1 + 1 then x2 else 0))] [(0, x1), (0, h 2 294 x3), (0, h 2 294 x3), (0, x3), (1, 294)] (vup (vup h 2 295 x3 (h 2 295 x3 + (if h 2 294 x3 = x1 + 1 then x2 else 0))) 2 296 x3 (h 2 296 x3 + (if h 2 294 x3 = x1 + 1 then x2 else 0))) = vrun mX13_joinsLayers 71 [(1, 282), (0, x1), (0, x2), (0, x3), (0, (if h 2 294 x3 = x1 + 1 then x2 else 0))] [(0, (if ¬ (h 2 294 x3 ≤ x1) then 1 else 0)), (0, h 2 294 x3), (0, x3), (1, 294)] (vup (vup h 2 295 x3 (h 2 295 x3 + (if h 2 294 x3 = x1 + 1 then x2 else 0))) 2 296 x3 (h 2 296 x3 + (if h 2 294 x3 = x1 + 1 then x2 else 0))) := by
      refine (rn_icmp_le (t := 70) (pc := 63) (dd bX13_joinsLayers dX13_joinsLayers_63) rfl).trans ?_
      by_cases c3 : h 2 294 x3 ≤ x1
      · refine (if_pos c3).trans ?_
        refine (rn_iconst (pc := 70) (dd bX13_joinsLayers dX13_joinsLayers_70) (by decide)).trans ?_
        refine Eq.trans (b := vrun mX13_joinsLayers 71 [(1, 282), (0, x1), (0, x2), (0, x3), (0, (if h 2 294 x3 = x1 + 1 then x2 else 0))] [(0, 0), (0, h 2 294 x3), (0, x3), (1, 294)] (vup (vup h 2 295 x3 (h 2 295 x3 + (if h 2 294 x3 = x1 + 1 then x2 else 0))) 2 296 x3 (h 2 296 x3 + (if h 2 294 x3 = x1 + 1 then x2 else 0)))) rfl ?_
        simp only [c3, true_or, false_or, or_true, or_false, true_and, false_and, and_true, and_false, not_true_eq_false, not_false_eq_true, ne_eq, if_true, if_false, ↓reduceIte]
      · refine (if_neg c3).trans ?_
        refine (rn_iconst (pc := 66) (dd bX13_joinsLayers dX13_joinsLayers_66) (by decide)).trans ?_
        refine (rn_goto (t := 71) (pc := 67) (dd bX13_joinsLayers dX13_joinsLayers_67) rfl).trans ?_
        refine Eq.trans (b := vrun mX13_joinsLayers 71 [(1, 282), (0, x1), (0, x2), (0, x3), (0, (if h 2 294 x3 = x1 + 1 then x2 else 0))] [(0, 1), (0, h 2 294 x3), (0, x3), (1, 294)] (vup (vup h 2 295 x3 (h 2 295 x3 + (if h 2 294 x3 = x1 + 1 then x2 else 0))) 2 296 x3 (h 2 296 x3 + (if h 2 294 x3 = x1 + 1 then x2 else 0)))) rfl ?_
        simp only [c3, true_or, false_or, or_true, or_false, true_and, false_and, and_true, and_false, not_true_eq_false, not_false_eq_true, ne_eq, if_true, if_false, ↓reduceIte]
    refine e2.trans ?_
    refine (rg_isub (pc := 71) (dd bX13_joinsLayers dX13_joinsLayers_71) (p9 c1) (p10 c1)).trans ?_
    refine (rg_iastore (pc := 72) (dd bX13_joinsLayers dX13_joinsLayers_72) ((vup_k (by decide)).trans ((vup_k (by decide)).trans s1.2.2.2.2.2.2.2.2.2.2.2.2.2.2.2.2.2.2.2.2.2.2.2.2.2.2.2.2.2.2.2.2.2.2.2.1)) ((vup_k (by decide)).trans ((vup_k (by decide)).trans s1.2.2.2.2.2.2.2.2.2.2.2.2.2.2.2.2.2.2.2.2.2.2.2.2.2.2.2.2.2.2.2.2.2.2.2.2.1)) (by have z0 := p2 c1; omega) (Int.not_le.mp c1)).trans ?_
    refine (rn_aload_n (pc := 73) (dd bX13_joinsLayers dX13_joinsLayers_73) rfl).trans ?_
    refine (rg_gf (pc := 74) (dd bX13_joinsLayers dX13_joinsLayers_74) (ci := 14) (j := 18) rfl rfl (key := 1518) rfl (kc := 34) rfl ((vup_k (by decide)).trans ((vup_k (by decide)).trans ((vup_k (by decide)).trans s1.1))) ((vup_k (by decide)).trans ((vup_k (by decide)).trans ((vup_k (by decide)).trans s1.2.2.2.2.2.2.2.2.2.2.2.2.2.2.2.2.2.2.2.2.2.2.2.2.2.2.2.2.2.2.2.2.2.2.2.2.2.2.2.2.2.2.2.2.2.2.2.2.2.1)))).trans ?_
    refine (rn_iload_n (pc := 77) (dd bX13_joinsLayers dX13_joinsLayers_77) rfl).trans ?_
    refine (rn_dup2 (pc := 78) (dd bX13_joinsLayers dX13_joinsLayers_78) (by decide)).trans ?_
    refine (rg_iaload (pc := 79) (dd bX13_joinsLayers dX13_joinsLayers_79) ((vup_k (by decide)).trans ((vup_k (by decide)).trans ((vup_k (by decide)).trans s1.2.2.2.2.2.2.2.2.2.2.2.2.2.2.2.2.2.2.2.2.2.2.2.2.2.2.2.2.2.2.2.2.2.2.2.2.2.2.2.2.2.2.2.2.2.2.2.2.2.2.1))) ((vup_k (by decide)).trans ((vup_k (by decide)).trans ((vup_k (by decide)).trans s1.2.2.2.2.2.2.2.2.2.2.2.2.2.2.2.2.2.2.2.2.2.2.2.2.2.2.2.2.2.2.2.2.2.2.2.2.2.2.2.2.2.2.2.2.2.2.2.2.2.2.2.1))) (by have z0 := p2 c1; omega) (Int.not_le.mp c1) ((vup_r (by omega)).trans ((vup_r (by omega)).trans ((vup_r (by omega)).trans rfl)))).trans ?_
    refine (rn_aload_n (pc := 80) (dd bX13_joinsLayers dX13_joinsLayers_80) rfl).trans ?_
    refine (rg_gf (pc := 81) (dd bX13_joinsLayers dX13_joinsLayers_81) (ci := 14) (j := 17) rfl rfl (key := 1517) rfl (kc := 34) rfl ((vup_k (by decide)).trans ((vup_k (by decide)).trans ((vup_k (by decide)).trans s1.1))) ((vup_k (by decide)).trans ((vup_k (by decide)).trans ((vup_k (by decide)).trans s1.2.2.2.2.2.2.2.2.2.2.2.2.2.2.2.2.2.2.2.2.2.2.2.2.2.2.2.2.2.2.2.2.2.2.2.2.2.2.2.2.2.2.2.2.2.2.1)))).trans ?_
    refine (rn_iload_n (pc := 84) (dd bX13_joinsLayers dX13_joinsLayers_84) rfl).trans ?_
    refine (rg_iaload (pc := 85) (dd bX13_joinsLayers dX13_joinsLayers_85) ((vup_k (by decide)).trans ((vup_k (by decide)).trans ((vup_k (by decide)).trans s1.2.2.2.2.2.2.2.2.2.2.2.2.2.2.2.2.2.2.2.2.2.2.2.2.2.2.2.2.2.2.2.2.2.2.2.2.2.2.2.2.2.2.2.2.2.2.2.1))) ((vup_k (by decide)).trans ((vup_k (by decide)).trans ((vup_k (by decide)).trans s1.2.2.2.2.2.2.2.2.2.2.2.2.2.2.2.2.2.2.2.2.2.2.2.2.2.2.2.2.2.2.2.2.2.2.2.2.2.2.2.2.2.2.2.2.2.2.2.2.1))) (by have z0 := p2 c1; omega) (Int.not_le.mp c1) ((vup_r (by omega)).trans ((vup_r (by omega)).trans ((vup_r (by omega)).trans rfl)))).trans ?_
    refine (rn_iload_n (pc := 86) (dd bX13_joinsLayers dX13_joinsLayers_86) rfl).trans ?_
    refine (rn_iconst (pc := 87) (dd bX13_joinsLayers dX13_joinsLayers_87) (by decide)).trans ?_
    refine (rg_iadd (pc := 88) (dd bX13_joinsLayers dX13_joinsLayers_88) (by have z0 := p3 c1; have z1 := p4 c1; omega) (by have z0 := p3 c1; have z1 := p4 c1; omega)).trans ?_
    have e3 : vrun mX13_joinsLayers 89 [(1, 282), (0, x1), (0, x2), (0, x3), (0, (if h 2 294 x3 = x1 + 1 then x2 else 0))] [(0, x1 + 1), (0, h 2 298 x3), (0, h 2 299 x3), (0, x3), (1, 299)] (vup (vup (vup h 2 295 x3 (h 2 295 x3 + (if h 2 294 x3 = x1 + 1 then x2 else 0))) 2 296 x3 (h 2 296 x3 + (if h 2 294 x3 = x1 + 1 then x2 else 0))) 2 294 x3 (h 2 294 x3 - (if ¬ (h 2 294 x3 ≤ x1) then 1 else 0))) = vrun mX13_joinsLayers 97 [(1, 282), (0, x1), (0, x2), (0, x3), (0, (if h 2 294 x3 = x1 + 1 then x2 else 0))] [(0, (if h 2 298 x3 = x1 + 1 then x2 else 0)), (0, h 2 299 x3), (0, x3), (1, 299)] (vup (vup (vup h 2 295 x3 (h 2 295 x3 + (if h 2 294 x3 = x1 + 1 then x2 else 0))) 2 296 x3 (h 2 296 x3 + (if h 2 294 x3 = x1 + 1 then x2 else 0))) 2 294 x3 (h 2 294 x3 - (if ¬ (h 2 294 x3 ≤ x1) then 1 else 0))) := by
      refine (rg_icmp_ne (t := 96) (pc := 89) (dd bX13_joinsLayers dX13_joinsLayers_89) rfl).trans ?_
      by_cases c4 : h 2 298 x3 = x1 + 1
      · refine (if_pos c4).trans ?_
        refine (rn_iload_n (pc := 92) (dd bX13_joinsLayers dX13_joinsLayers_92) rfl).trans ?_
        refine (rn_goto (t := 97) (pc := 93) (dd bX13_joinsLayers dX13_joinsLayers_93) rfl).trans ?_
        refine Eq.trans (b := vrun mX13_joinsLayers 97 [(1, 282), (0, x1), (0, x2), (0, x3), (0, (if h 2 294 x3 = x1 + 1 then x2 else 0))] [(0, x2), (0, h 2 299 x3), (0, x3), (1, 299)] (vup (vup (vup h 2 295 x3 (h 2 295 x3 + (if h 2 294 x3 = x1 + 1 then x2 else 0))) 2 296 x3 (h 2 296 x3 + (if h 2 294 x3 = x1 + 1 then x2 else 0))) 2 294 x3 (h 2 294 x3 - (if ¬ (h 2 294 x3 ≤ x1) then 1 else 0)))) rfl ?_
        simp only [if_pos c4]
      · refine (if_neg c4).trans ?_
        refine (rn_iconst (pc := 96) (dd bX13_joinsLayers dX13_joinsLayers_96) (by decide)).trans ?_
        refine Eq.trans (b := vrun mX13_joinsLayers 97 [(1, 282), (0, x1), (0, x2), (0, x3), (0, (if h 2 294 x3 = x1 + 1 then x2 else 0))] [(0, 0), (0, h 2 299 x3), (0, x3), (1, 299)] (vup (vup (vup h 2 295 x3 (h 2 295 x3 + (if h 2 294 x3 = x1 + 1 then x2 else 0))) 2 296 x3 (h 2 296 x3 + (if h 2 294 x3 = x1 + 1 then x2 else 0))) 2 294 x3 (h 2 294 x3 - (if ¬ (h 2 294 x3 ≤ x1) then 1 else 0)))) rfl ?_
        simp only [if_neg c4]
    refine e3.trans ?_
    refine (rg_iadd (pc := 97) (dd bX13_joinsLayers dX13_joinsLayers_97) (p11 c1) (p12 c1)).trans ?_
    refine (rg_iastore (pc := 98) (dd bX13_joinsLayers dX13_joinsLayers_98) ((vup_k (by decide)).trans ((vup_k (by decide)).trans ((vup_k (by decide)).trans s1.2.2.2.2.2.2.2.2.2.2.2.2.2.2.2.2.2.2.2.2.2.2.2.2.2.2.2.2.2.2.2.2.2.2.2.2.2.2.2.2.2.2.2.2.2.2.2.2.2.2.1))) ((vup_k (by decide)).trans ((vup_k (by decide)).trans ((vup_k (by decide)).trans s1.2.2.2.2.2.2.2.2.2.2.2.2.2.2.2.2.2.2.2.2.2.2.2.2.2.2.2.2.2.2.2.2.2.2.2.2.2.2.2.2.2.2.2.2.2.2.2.2.2.2.2.1))) (by have z0 := p2 c1; omega) (Int.not_le.mp c1)).trans ?_
    refine (rn_aload_n (pc := 99) (dd bX13_joinsLayers dX13_joinsLayers_99) rfl).trans ?_
    refine (rg_gf (pc := 100) (dd bX13_joinsLayers dX13_joinsLayers_100) (ci := 14) (j := 17) rfl rfl (key := 1517) rfl (kc := 34) rfl ((vup_k (by decide)).trans ((vup_k (by decide)).trans ((vup_k (by decide)).trans ((vup_k (by decide)).trans s1.1)))) ((vup_k (by decide)).trans ((vup_k (by decide)).trans ((vup_k (by decide)).trans ((vup_k (by decide)).trans s1.2.2.2.2.2.2.2.2.2.2.2.2.2.2.2.2.2.2.2.2.2.2.2.2.2.2.2.2.2.2.2.2.2.2.2.2.2.2.2.2.2.2.2.2.2.2.1))))).trans ?_
    refine (rn_iload_n (pc := 103) (dd bX13_joinsLayers dX13_joinsLayers_103) rfl).trans ?_
    refine (rn_dup2 (pc := 104) (dd bX13_joinsLayers dX13_joinsLayers_104) (by decide)).trans ?_
    refine (rg_iaload (pc := 105) (dd bX13_joinsLayers dX13_joinsLayers_105) ((vup_k (by decide)).trans ((vup_k (by decide)).trans ((vup_k (by decide)).trans ((vup_k (by decide)).trans s1.2.2.2.2.2.2.2.2.2.2.2.2.2.2.2.2.2.2.2.2.2.2.2.2.2.2.2.2.2.2.2.2.2.2.2.2.2.2.2.2.2.2.2.2.2.2.2.1)))) ((vup_k (by decide)).trans ((vup_k (by decide)).trans ((vup_k (by decide)).trans ((vup_k (by decide)).trans s1.2.2.2.2.2.2.2.2.2.2.2.2.2.2.2.2.2.2.2.2.2.2.2.2.2.2.2.2.2.2.2.2.2.2.2.2.2.2.2.2.2.2.2.2.2.2.2.2.1)))) (by have z0 := p2 c1; omega) (Int.not_le.mp c1) ((vup_r (by omega)).trans ((vup_r (by omega)).trans ((vup_r (by omega)).trans ((vup_r (by omega)).trans rfl))))).trans ?_
    refine (rn_aload_n (pc := 106) (dd bX13_joinsLayers dX13_joinsLayers_106) rfl).trans ?_
    refine (rg_gf (pc := 107) (dd bX13_joinsLayers dX13_joinsLayers_107) (ci := 14) (j := 17) rfl rfl (key := 1517) rfl (kc := 34) rfl ((vup_k (by decide)).trans ((vup_k (by decide)).trans ((vup_k (by decide)).trans ((vup_k (by decide)).trans s1.1)))) ((vup_k (by decide)).trans ((vup_k (by decide)).trans ((vup_k (by decide)).trans ((vup_k (by decide)).trans s1.2.2.2.2.2.2.2.2.2.2.2.2.2.2.2.2.2.2.2.2.2.2.2.2.2.2.2.2.2.2.2.2.2.2.2.2.2.2.2.2.2.2.2.2.2.2.1))))).trans ?_
    refine (rn_iload_n (pc := 110) (dd bX13_joinsLayers dX13_joinsLayers_110) rfl).trans ?_
    refine (rg_iaload (pc := 111) (dd bX13_joinsLayers dX13_joinsLayers_111) ((vup_k (by decide)).trans ((vup_k (by decide)).trans ((vup_k (by decide)).trans ((vup_k (by decide)).trans s1.2.2.2.2.2.2.2.2.2.2.2.2.2.2.2.2.2.2.2.2.2.2.2.2.2.2.2.2.2.2.2.2.2.2.2.2.2.2.2.2.2.2.2.2.2.2.2.1)))) ((vup_k (by decide)).trans ((vup_k (by decide)).trans ((vup_k (by decide)).trans ((vup_k (by decide)).trans s1.2.2.2.2.2.2.2.2.2.2.2.2.2.2.2.2.2.2.2.2.2.2.2.2.2.2.2.2.2.2.2.2.2.2.2.2.2.2.2.2.2.2.2.2.2.2.2.2.1)))) (by have z0 := p2 c1; omega) (Int.not_le.mp c1) ((vup_r (by omega)).trans ((vup_r (by omega)).trans ((vup_r (by omega)).trans ((vup_r (by omega)).trans rfl))))).trans ?_
    refine (rn_iload_n (pc := 112) (dd bX13_joinsLayers dX13_joinsLayers_112) rfl).trans ?_
    have e4 : vrun mX13_joinsLayers 113 [(1, 282), (0, x1), (0, x2), (0, x3), (0, (if h 2 294 x3 = x1 + 1 then x2 else 0))] [(0, x1), (0, h 2 298 x3), (0, h 2 298 x3), (0, x3), (1, 298)] (vup (vup (vup (vup h 2 295 x3 (h 2 295 x3 + (if h 2 294 x3 = x1 + 1 then x2 else 0))) 2 296 x3 (h 2 296 x3 + (if h 2 294 x3 = x1 + 1 then x2 else 0))) 2 294 x3 (h 2 294 x3 - (if ¬ (h 2 294 x3 ≤ x1) then 1 else 0))) 2 299 x3 (h 2 299 x3 + (if h 2 298 x3 = x1 + 1 then x2 else 0))) = vrun mX13_joinsLayers 121 [(1, 282), (0, x1), (0, x2), (0, x3), (0, (if h 2 294 x3 = x1 + 1 then x2 else 0))] [(0, (if ¬ (h 2 298 x3 ≤ x1) then 1 else 0)), (0, h 2 298 x3), (0, x3), (1, 298)] (vup (vup (vup (vup h 2 295 x3 (h 2 295 x3 + (if h 2 294 x3 = x1 + 1 then x2 else 0))) 2 296 x3 (h 2 296 x3 + (if h 2 294 x3 = x1 + 1 then x2 else 0))) 2 294 x3 (h 2 294 x3 - (if ¬ (h 2 294 x3 ≤ x1) then 1 else 0))) 2 299 x3 (h 2 299 x3 + (if h 2 298 x3 = x1 + 1 then x2 else 0))) := by
      refine (rn_icmp_le (t := 120) (pc := 113) (dd bX13_joinsLayers dX13_joinsLayers_113) rfl).trans ?_
      by_cases c5 : h 2 298 x3 ≤ x1
      · refine (if_pos c5).trans ?_
        refine (rn_iconst (pc := 120) (dd bX13_joinsLayers dX13_joinsLayers_120) (by decide)).trans ?_
        refine Eq.trans (b := vrun mX13_joinsLayers 121 [(1, 282), (0, x1), (0, x2), (0, x3), (0, (if h 2 294 x3 = x1 + 1 then x2 else 0))] [(0, 0), (0, h 2 298 x3), (0, x3), (1, 298)] (vup (vup (vup (vup h 2 295 x3 (h 2 295 x3 + (if h 2 294 x3 = x1 + 1 then x2 else 0))) 2 296 x3 (h 2 296 x3 + (if h 2 294 x3 = x1 + 1 then x2 else 0))) 2 294 x3 (h 2 294 x3 - (if ¬ (h 2 294 x3 ≤ x1) then 1 else 0))) 2 299 x3 (h 2 299 x3 + (if h 2 298 x3 = x1 + 1 then x2 else 0)))) rfl ?_
        simp only [c5, true_or, false_or, or_true, or_false, true_and, false_and, and_true, and_false, not_true_eq_false, not_false_eq_true, ne_eq, if_true, if_false, ↓reduceIte]
      · refine (if_neg c5).trans ?_
        refine (rn_iconst (pc := 116) (dd bX13_joinsLayers dX13_joinsLayers_116) (by decide)).trans ?_
        refine (rn_goto (t := 121) (pc := 117) (dd bX13_joinsLayers dX13_joinsLayers_117) rfl).trans ?_
        refine Eq.trans (b := vrun mX13_joinsLayers 121 [(1, 282), (0, x1), (0, x2), (0, x3), (0, (if h 2 294 x3 = x1 + 1 then x2 else 0))] [(0, 1), (0, h 2 298 x3), (0, x3), (1, 298)] (vup (vup (vup (vup h 2 295 x3 (h 2 295 x3 + (if h 2 294 x3 = x1 + 1 then x2 else 0))) 2 296 x3 (h 2 296 x3 + (if h 2 294 x3 = x1 + 1 then x2 else 0))) 2 294 x3 (h 2 294 x3 - (if ¬ (h 2 294 x3 ≤ x1) then 1 else 0))) 2 299 x3 (h 2 299 x3 + (if h 2 298 x3 = x1 + 1 then x2 else 0)))) rfl ?_
        simp only [c5, true_or, false_or, or_true, or_false, true_and, false_and, and_true, and_false, not_true_eq_false, not_false_eq_true, ne_eq, if_true, if_false, ↓reduceIte]
    refine e4.trans ?_
    refine (rg_isub (pc := 121) (dd bX13_joinsLayers dX13_joinsLayers_121) (p13 c1) (p14 c1)).trans ?_
    refine (rg_iastore (pc := 122) (dd bX13_joinsLayers dX13_joinsLayers_122) ((vup_k (by decide)).trans ((vup_k (by decide)).trans ((vup_k (by decide)).trans ((vup_k (by decide)).trans s1.2.2.2.2.2.2.2.2.2.2.2.2.2.2.2.2.2.2.2.2.2.2.2.2.2.2.2.2.2.2.2.2.2.2.2.2.2.2.2.2.2.2.2.2.2.2.2.1)))) ((vup_k (by decide)).trans ((vup_k (by decide)).trans ((vup_k (by decide)).trans ((vup_k (by decide)).trans s1.2.2.2.2.2.2.2.2.2.2.2.2.2.2.2.2.2.2.2.2.2.2.2.2.2.2.2.2.2.2.2.2.2.2.2.2.2.2.2.2.2.2.2.2.2.2.2.2.1)))) (by have z0 := p2 c1; omega) (Int.not_le.mp c1)).trans ?_
    refine (rn_aload_n (pc := 123) (dd bX13_joinsLayers dX13_joinsLayers_123) rfl).trans ?_
    refine (rg_gf (pc := 124) (dd bX13_joinsLayers dX13_joinsLayers_124) (ci := 14) (j := 21) rfl rfl (key := 1521) rfl (kc := 34) rfl ((vup_k (by decide)).trans ((vup_k (by decide)).trans ((vup_k (by decide)).trans ((vup_k (by decide)).trans ((vup_k (by decide)).trans s1.1))))) ((vup_k (by decide)).trans ((vup_k (by decide)).trans ((vup_k (by decide)).trans ((vup_k (by decide)).trans ((vup_k (by decide)).trans s1.2.2.2.2.2.2.2.2.2.2.2.2.2.2.2.2.2.2.2.2.2.2.2.2.2.2.2.2.2.2.2.2.2.2.2.2.2.2.2.2.2.2.2.2.2.2.2.2.2.2.2.2.2.2.2.2.2.2.1)))))).trans ?_
    refine (rn_iload_n (pc := 127) (dd bX13_joinsLayers dX13_joinsLayers_127) rfl).trans ?_
    refine (rn_dup2 (pc := 128) (dd bX13_joinsLayers dX13_joinsLayers_128) (by decide)).trans ?_
    refine (rg_iaload (pc := 129) (dd bX13_joinsLayers dX13_joinsLayers_129) ((vup_k (by decide)).trans ((vup_k (by decide)).trans ((vup_k (by decide)).trans ((vup_k (by decide)).trans ((vup_k (by decide)).trans s1.2.2.2.2.2.2.2.2.2.2.2.2.2.2.2.2.2.2.2.2.2.2.2.2.2.2.2.2.2.2.2.2.2.2.2.2.2.2.2.2.2.2.2.2.2.2.2.2.2.2.2.2.2.2.2.2.2.2.2.1))))) ((vup_k (by decide)).trans ((vup_k (by decide)).trans ((vup_k (by decide)).trans ((vup_k (by decide)).trans ((vup_k (by decide)).trans s1.2.2.2.2.2.2.2.2.2.2.2.2.2.2.2.2.2.2.2.2.2.2.2.2.2.2.2.2.2.2.2.2.2.2.2.2.2.2.2.2.2.2.2.2.2.2.2.2.2.2.2.2.2.2.2.2.2.2.2.2.1))))) (by have z0 := p2 c1; omega) (Int.not_le.mp c1) ((vup_r (by omega)).trans ((vup_r (by omega)).trans ((vup_r (by omega)).trans ((vup_r (by omega)).trans ((vup_r (by omega)).trans rfl)))))).trans ?_
    refine (rn_aload_n (pc := 130) (dd bX13_joinsLayers dX13_joinsLayers_130) rfl).trans ?_
    refine (rg_gf (pc := 131) (dd bX13_joinsLayers dX13_joinsLayers_131) (ci := 14) (j := 21) rfl rfl (key := 1521) rfl (kc := 34) rfl ((vup_k (by decide)).trans ((vup_k (by decide)).trans ((vup_k (by decide)).trans ((vup_k (by decide)).trans ((vup_k (by decide)).trans s1.1))))) ((vup_k (by decide)).trans ((vup_k (by decide)).trans ((vup_k (by decide)).trans ((vup_k (by decide)).trans ((vup_k (by decide)).trans s1.2.2.2.2.2.2.2.2.2.2.2.2.2.2.2.2.2.2.2.2.2.2.2.2.2.2.2.2.2.2.2.2.2.2.2.2.2.2.2.2.2.2.2.2.2.2.2.2.2.2.2.2.2.2.2.2.2.2.1)))))).trans ?_
    refine (rn_iload_n (pc := 134) (dd bX13_joinsLayers dX13_joinsLayers_134) rfl).trans ?_
    refine (rg_iaload (pc := 135) (dd bX13_joinsLayers dX13_joinsLayers_135) ((vup_k (by decide)).trans ((vup_k (by decide)).trans ((vup_k (by decide)).trans ((vup_k (by decide)).trans ((vup_k (by decide)).trans s1.2.2.2.2.2.2.2.2.2.2.2.2.2.2.2.2.2.2.2.2.2.2.2.2.2.2.2.2.2.2.2.2.2.2.2.2.2.2.2.2.2.2.2.2.2.2.2.2.2.2.2.2.2.2.2.2.2.2.2.1))))) ((vup_k (by decide)).trans ((vup_k (by decide)).trans ((vup_k (by decide)).trans ((vup_k (by decide)).trans ((vup_k (by decide)).trans s1.2.2.2.2.2.2.2.2.2.2.2.2.2.2.2.2.2.2.2.2.2.2.2.2.2.2.2.2.2.2.2.2.2.2.2.2.2.2.2.2.2.2.2.2.2.2.2.2.2.2.2.2.2.2.2.2.2.2.2.2.1))))) (by have z0 := p2 c1; omega) (Int.not_le.mp c1) ((vup_r (by omega)).trans ((vup_r (by omega)).trans ((vup_r (by omega)).trans ((vup_r (by omega)).trans ((vup_r (by omega)).trans rfl)))))).trans ?_
    refine (rn_iload_n (pc := 136) (dd bX13_joinsLayers dX13_joinsLayers_136) rfl).trans ?_
    have e5 : vrun mX13_joinsLayers 137 [(1, 282), (0, x1), (0, x2), (0, x3), (0, (if h 2 294 x3 = x1 + 1 then x2 else 0))] [(0, x1), (0, h 2 302 x3), (0, h 2 302 x3), (0, x3), (1, 302)] (vup (vup (vup (vup (vup h 2 295 x3 (h 2 295 x3 + (if h 2 294 x3 = x1 + 1 then x2 else 0))) 2 296 x3 (h 2 296 x3 + (if h 2 294 x3 = x1 + 1 then x2 else 0))) 2 294 x3 (h 2 294 x3 - (if ¬ (h 2 294 x3 ≤ x1) then 1 else 0))) 2 299 x3 (h 2 299 x3 + (if h 2 298 x3 = x1 + 1 then x2 else 0))) 2 298 x3 (h 2 298 x3 - (if ¬ (h 2 298 x3 ≤ x1) then 1 else 0))) = vrun mX13_joinsLayers 145 [(1, 282), (0, x1), (0, x2), (0, x3), (0, (if h 2 294 x3 = x1 + 1 then x2 else 0))] [(0, (if ¬ (h 2 302 x3 ≤ x1) then 1 else 0)), (0, h 2 302 x3), (0, x3), (1, 302)] (vup (vup (vup (vup (vup h 2 295 x3 (h 2 295 x3 + (if h 2 294 x3 = x1 + 1 then x2 else 0))) 2 296 x3 (h 2 296 x3 + (if h 2 294 x3 = x1 + 1 then x2 else 0))) 2 294 x3 (h 2 294 x3 - (if ¬ (h 2 294 x3 ≤ x1) then 1 else 0))) 2 299 x3 (h 2 299 x3 + (if h 2 298 x3 = x1 + 1 then x2 else 0))) 2 298 x3 (h 2 298 x3 - (if ¬ (h 2 298 x3 ≤ x1) then 1 else 0))) := by
      refine (rn_icmp_le (t := 144) (pc := 137) (dd bX13_joinsLayers dX13_joinsLayers_137) rfl).trans ?_
      by_cases c6 : h 2 302 x3 ≤ x1
      · refine (if_pos c6).trans ?_
        refine (rn_iconst (pc := 144) (dd bX13_joinsLayers dX13_joinsLayers_144) (by decide)).trans ?_
        refine Eq.trans (b := vrun mX13_joinsLayers 145 [(1, 282), (0, x1), (0, x2), (0, x3), (0, (if h 2 294 x3 = x1 + 1 then x2 else 0))] [(0, 0), (0, h 2 302 x3), (0, x3), (1, 302)] (vup (vup (vup (vup (vup h 2 295 x3 (h 2 295 x3 + (if h 2 294 x3 = x1 + 1 then x2 else 0))) 2 296 x3 (h 2 296 x3 + (if h 2 294 x3 = x1 + 1 then x2 else 0))) 2 294 x3 (h 2 294 x3 - (if ¬ (h 2 294 x3 ≤ x1) then 1 else 0))) 2 299 x3 (h 2 299 x3 + (if h 2 298 x3 = x1 + 1 then x2 else 0))) 2 298 x3 (h 2 298 x3 - (if ¬ (h 2 298 x3 ≤ x1) then 1 else 0)))) rfl ?_
        simp only [c6, true_or, false_or, or_true, or_false, true_and, false_and, and_true, and_false, not_true_eq_false, not_false_eq_true, ne_eq, if_true, if_false, ↓reduceIte]
      · refine (if_neg c6).trans ?_
        refine (rn_iconst (pc := 140) (dd bX13_joinsLayers dX13_joinsLayers_140) (by decide)).trans ?_
        refine (rn_goto (t := 145) (pc := 141) (dd bX13_joinsLayers dX13_joinsLayers_141) rfl).trans ?_
        refine Eq.trans (b := vrun mX13_joinsLayers 145 [(1, 282), (0, x1), (0, x2), (0, x3), (0, (if h 2 294 x3 = x1 + 1 then x2 else 0))] [(0, 1), (0, h 2 302 x3), (0, x3), (1, 302)] (vup (vup (vup (vup (vup h 2 295 x3 (h 2 295 x3 + (if h 2 294 x3 = x1 + 1 then x2 else 0))) 2 296 x3 (h 2 296 x3 + (if h 2 294 x3 = x1 + 1 then x2 else 0))) 2 294 x3 (h 2 294 x3 - (if ¬ (h 2 294 x3 ≤ x1) then 1 else 0))) 2 299 x3 (h 2 299 x3 + (if h 2 298 x3 = x1 + 1 then x2 else 0))) 2 298 x3 (h 2 298 x3 - (if ¬ (h 2 298 x3 ≤ x1) then 1 else 0)))) rfl ?_
        simp only [c6, true_or, false_or, or_true, or_false, true_and, false_and, and_true, and_false, not_true_eq_false, not_false_eq_true, ne_eq, if_true, if_false, ↓reduceIte]
    refine e5.trans ?_
    refine (rg_isub (pc := 145) (dd bX13_joinsLayers dX13_joinsLayers_145) (p15 c1) (p16 c1)).trans ?_
    refine (rg_iastore (pc := 146) (dd bX13_joinsLayers dX13_joinsLayers_146) ((vup_k (by decide)).trans ((vup_k (by decide)).trans ((vup_k (by decide)).trans ((vup_k (by decide)).trans ((vup_k (by decide)).trans s1.2.2.2.2.2.2.2.2.2.2.2.2.2.2.2.2.2.2.2.2.2.2.2.2.2.2.2.2.2.2.2.2.2.2.2.2.2.2.2.2.2.2.2.2.2.2.2.2.2.2.2.2.2.2.2.2.2.2.2.1))))) ((vup_k (by decide)).trans ((vup_k (by decide)).trans ((vup_k (by decide)).trans ((vup_k (by decide)).trans ((vup_k (by decide)).trans s1.2.2.2.2.2.2.2.2.2.2.2.2.2.2.2.2.2.2.2.2.2.2.2.2.2.2.2.2.2.2.2.2.2.2.2.2.2.2.2.2.2.2.2.2.2.2.2.2.2.2.2.2.2.2.2.2.2.2.2.2.1))))) (by have z0 := p2 c1; omega) (Int.not_le.mp c1)).trans ?_
    refine (rn_aload_n (pc := 147) (dd bX13_joinsLayers dX13_joinsLayers_147) rfl).trans ?_
    refine (rg_gf (pc := 148) (dd bX13_joinsLayers dX13_joinsLayers_148) (ci := 14) (j := 22) rfl rfl (key := 1522) rfl (kc := 34) rfl ((vup_k (by decide)).trans ((vup_k (by decide)).trans ((vup_k (by decide)).trans ((vup_k (by decide)).trans ((vup_k (by decide)).trans ((vup_k (by decide)).trans s1.1)))))) ((vup_k (by decide)).trans ((vup_k (by decide)).trans ((vup_k (by decide)).trans ((vup_k (by decide)).trans ((vup_k (by decide)).trans ((vup_k (by decide)).trans s1.2.2.2.2.2.2.2.2.2.2.2.2.2.2.2.2.2.2.2.2.2.2.2.2.2.2.2.2.2.2.2.2.2.2.2.2.2.2.2.2.2.2.2.2.2.2.2.2.2.2.2.2.2.2.2.2.2.2.2.2.2.1))))))).trans ?_
    refine (rn_iload_n (pc := 151) (dd bX13_joinsLayers dX13_joinsLayers_151) rfl).trans ?_
    refine (rn_dup2 (pc := 152) (dd bX13_joinsLayers dX13_joinsLayers_152) (by decide)).trans ?_
    refine (rg_iaload (pc := 153) (dd bX13_joinsLayers dX13_joinsLayers_153) ((vup_k (by decide)).trans ((vup_k (by decide)).trans ((vup_k (by decide)).trans ((vup_k (by decide)).trans ((vup_k (by decide)).trans ((vup_k (by decide)).trans s1.2.2.2.2.2.2.2.2.2.2.2.2.2.2.2.2.2.2.2.2.2.2.2.2.2.2.2.2.2.2.2.2.2.2.2.2.2.2.2.2.2.2.2.2.2.2.2.2.2.2.2.2.2.2.2.2.2.2.2.2.2.2.1)))))) ((vup_k (by decide)).trans ((vup_k (by decide)).trans ((vup_k (by decide)).trans ((vup_k (by decide)).trans ((vup_k (by decide)).trans ((vup_k (by decide)).trans s1.2.2.2.2.2.2.2.2.2.2.2.2.2.2.2.2.2.2.2.2.2.2.2.2.2.2.2.2.2.2.2.2.2.2.2.2.2.2.2.2.2.2.2.2.2.2.2.2.2.2.2.2.2.2.2.2.2.2.2.2.2.2.2.1)))))) (by have z0 := p2 c1; omega) (Int.not_le.mp c1) ((vup_r (by omega)).trans ((vup_r (by omega)).trans ((vup_r (by omega)).trans ((vup_r (by omega)).trans ((vup_r (by omega)).trans ((vup_r (by omega)).trans rfl))))))).trans ?_
    refine (rn_aload_n (pc := 154) (dd bX13_joinsLayers dX13_joinsLayers_154) rfl).trans ?_
    refine (rg_gf (pc := 155) (dd bX13_joinsLayers dX13_joinsLayers_155) (ci := 14) (j := 22) rfl rfl (key := 1522) rfl (kc := 34) rfl ((vup_k (by decide)).trans ((vup_k (by decide)).trans ((vup_k (by decide)).trans ((vup_k (by decide)).trans ((vup_k (by decide)).trans ((vup_k (by decide)).trans s1.1)))))) ((vup_k (by decide)).trans ((vup_k (by decide)).trans ((vup_k (by decide)).trans ((vup_k (by decide)).trans ((vup_k (by decide)).trans ((vup_k (by decide)).trans s1.2.2.2.2.2.2.2.2.2.2.2.2.2.2.2.2.2.2.2.2.2.2.2.2.2.2.2.2.2.2.2.2.2.2.2.2.2.2.2.2.2.2.2.2.2.2.2.2.2.2.2.2.2.2.2.2.2.2.2.2.2.1))))))).trans ?_
    refine (rn_iload_n (pc := 158) (dd bX13_joinsLayers dX13_joinsLayers_158) rfl).trans ?_
    refine (rg_iaload (pc := 159) (dd bX13_joinsLayers dX13_joinsLayers_159) ((vup_k (by decide)).trans ((vup_k (by decide)).trans ((vup_k (by decide)).trans ((vup_k (by decide)).trans ((vup_k (by decide)).trans ((vup_k (by decide)).trans s1.2.2.2.2.2.2.2.2.2.2.2.2.2.2.2.2.2.2.2.2.2.2.2.2.2.2.2.2.2.2.2.2.2.2.2.2.2.2.2.2.2.2.2.2.2.2.2.2.2.2.2.2.2.2.2.2.2.2.2.2.2.2.1)))))) ((vup_k (by decide)).trans ((vup_k (by decide)).trans ((vup_k (by decide)).trans ((vup_k (by decide)).trans ((vup_k (by decide)).trans ((vup_k (by decide)).trans s1.2.2.2.2.2.2.2.2.2.2.2.2.2.2.2.2.2.2.2.2.2.2.2.2.2.2.2.2.2.2.2.2.2.2.2.2.2.2.2.2.2.2.2.2.2.2.2.2.2.2.2.2.2.2.2.2.2.2.2.2.2.2.2.1)))))) (by have z0 := p2 c1; omega) (Int.not_le.mp c1) ((vup_r (by omega)).trans ((vup_r (by omega)).trans ((vup_r (by omega)).trans ((vup_r (by omega)).trans ((vup_r (by omega)).trans ((vup_r (by omega)).trans rfl))))))).trans ?_
    refine (rn_iload_n (pc := 160) (dd bX13_joinsLayers dX13_joinsLayers_160) rfl).trans ?_
    have e6 : vrun mX13_joinsLayers 161 [(1, 282), (0, x1), (0, x2), (0, x3), (0, (if h 2 294 x3 = x1 + 1 then x2 else 0))] [(0, x1), (0, h 2 303 x3), (0, h 2 303 x3), (0, x3), (1, 303)] (vup (vup (vup (vup (vup (vup h 2 295 x3 (h 2 295 x3 + (if h 2 294 x3 = x1 + 1 then x2 else 0))) 2 296 x3 (h 2 296 x3 + (if h 2 294 x3 = x1 + 1 then x2 else 0))) 2 294 x3 (h 2 294 x3 - (if ¬ (h 2 294 x3 ≤ x1) then 1 else 0))) 2 299 x3 (h 2 299 x3 + (if h 2 298 x3 = x1 + 1 then x2 else 0))) 2 298 x3 (h 2 298 x3 - (if ¬ (h 2 298 x3 ≤ x1) then 1 else 0))) 2 302 x3 (h 2 302 x3 - (if ¬ (h 2 302 x3 ≤ x1) then 1 else 0))) = vrun mX13_joinsLayers 169 [(1, 282), (0, x1), (0, x2), (0, x3), (0, (if h 2 294 x3 = x1 + 1 then x2 else 0))] [(0, (if ¬ (h 2 303 x3 ≤ x1) then 1 else 0)), (0, h 2 303 x3), (0, x3), (1, 303)] (vup (vup (vup (vup (vup (vup h 2 295 x3 (h 2 295 x3 + (if h 2 294 x3 = x1 + 1 then x2 else 0))) 2 296 x3 (h 2 296 x3 + (if h 2 294 x3 = x1 + 1 then x2 else 0))) 2 294 x3 (h 2 294 x3 - (if ¬ (h 2 294 x3 ≤ x1) then 1 else 0))) 2 299 x3 (h 2 299 x3 + (if h 2 298 x3 = x1 + 1 then x2 else 0))) 2 298 x3 (h 2 298 x3 - (if ¬ (h 2 298 x3 ≤ x1) then 1 else 0))) 2 302 x3 (h 2 302 x3 - (if ¬ (h 2 302 x3 ≤ x1) then 1 else 0))) := by
      refine (rn_icmp_le (t := 168) (pc := 161) (dd bX13_joinsLayers dX13_joinsLayers_161) rfl).trans ?_
      by_cases c7 : h 2 303 x3 ≤ x1
      · refine (if_pos c7).trans ?_
        refine (rn_iconst (pc := 168) (dd bX13_joinsLayers dX13_joinsLayers_168) (by decide)).trans ?_
        refine Eq.trans (b := vrun mX13_joinsLayers 169 [(1, 282), (0, x1), (0, x2), (0, x3), (0, (if h 2 294 x3 = x1 + 1 then x2 else 0))] [(0, 0), (0, h 2 303 x3), (0, x3), (1, 303)] (vup (vup (vup (vup (vup (vup h 2 295 x3 (h 2 295 x3 + (if h 2 294 x3 = x1 + 1 then x2 else 0))) 2 296 x3 (h 2 296 x3 + (if h 2 294 x3 = x1 + 1 then x2 else 0))) 2 294 x3 (h 2 294 x3 - (if ¬ (h 2 294 x3 ≤ x1) then 1 else 0))) 2 299 x3 (h 2 299 x3 + (if h 2 298 x3 = x1 + 1 then x2 else 0))) 2 298 x3 (h 2 298 x3 - (if ¬ (h 2 298 x3 ≤ x1) then 1 else 0))) 2 302 x3 (h 2 302 x3 - (if ¬ (h 2 302 x3 ≤ x1) then 1 else 0)))) rfl ?_
        simp only [c7, true_or, false_or, or_true, or_false, true_and, false_and, and_true, and_false, not_true_eq_false, not_false_eq_true, ne_eq, if_true, if_false, ↓reduceIte]
      · refine (if_neg c7).trans ?_
        refine (rn_iconst (pc := 164) (dd bX13_joinsLayers dX13_joinsLayers_164) (by decide)).trans ?_
        refine (rn_goto (t := 169) (pc := 165) (dd bX13_joinsLayers dX13_joinsLayers_165) rfl).trans ?_
        refine Eq.trans (b := vrun mX13_joinsLayers 169 [(1, 282), (0, x1), (0, x2), (0, x3), (0, (if h 2 294 x3 = x1 + 1 then x2 else 0))] [(0, 1), (0, h 2 303 x3), (0, x3), (1, 303)] (vup (vup (vup (vup (vup (vup h 2 295 x3 (h 2 295 x3 + (if h 2 294 x3 = x1 + 1 then x2 else 0))) 2 296 x3 (h 2 296 x3 + (if h 2 294 x3 = x1 + 1 then x2 else 0))) 2 294 x3 (h 2 294 x3 - (if ¬ (h 2 294 x3 ≤ x1) then 1 else 0))) 2 299 x3 (h 2 299 x3 + (if h 2 298 x3 = x1 + 1 then x2 else 0))) 2 298 x3 (h 2 298 x3 - (if ¬ (h 2 298 x3 ≤ x1) then 1 else 0))) 2 302 x3 (h 2 302 x3 - (if ¬ (h 2 302 x3 ≤ x1) then 1 else 0)))) rfl ?_
        simp only [c7, true_or, false_or, or_true, or_false, true_and, false_and, and_true, and_false, not_true_eq_false, not_false_eq_true, ne_eq, if_true, if_false, ↓reduceIte]
    refine e6.trans ?_
    refine (rg_isub (pc := 169) (dd bX13_joinsLayers dX13_joinsLayers_169) (p17 c1) (p18 c1)).trans ?_
    refine (rg_iastore (pc := 170) (dd bX13_joinsLayers dX13_joinsLayers_170) ((vup_k (by decide)).trans ((vup_k (by decide)).trans ((vup_k (by decide)).trans ((vup_k (by decide)).trans ((vup_k (by decide)).trans ((vup_k (by decide)).trans s1.2.2.2.2.2.2.2.2.2.2.2.2.2.2.2.2.2.2.2.2.2.2.2.2.2.2.2.2.2.2.2.2.2.2.2.2.2.2.2.2.2.2.2.2.2.2.2.2.2.2.2.2.2.2.2.2.2.2.2.2.2.2.1)))))) ((vup_k (by decide)).trans ((vup_k (by decide)).trans ((vup_k (by decide)).trans ((vup_k (by decide)).trans ((vup_k (by decide)).trans ((vup_k (by decide)).trans s1.2.2.2.2.2.2.2.2.2.2.2.2.2.2.2.2.2.2.2.2.2.2.2.2.2.2.2.2.2.2.2.2.2.2.2.2.2.2.2.2.2.2.2.2.2.2.2.2.2.2.2.2.2.2.2.2.2.2.2.2.2.2.2.1)))))) (by have z0 := p2 c1; omega) (Int.not_le.mp c1)).trans ?_
    refine (rg_iinc (pc := 171) (dd bX13_joinsLayers dX13_joinsLayers_171) rfl (Nat.le_of_ble_eq_true rfl) (by have z0 := p2 c1; omega) (by have z0 := p2 c1; omega) rfl).trans ?_
    refine (rn_goto (t := 2) (pc := 174) (dd bX13_joinsLayers dX13_joinsLayers_174) rfl).trans ?_
    rfl
theorem rX13_joinsLayers_179 {x1 : Int} {x2 : Int} {x3 : Int} {v4 : vv} {h : vH} (s1 : shModel h) (p2 : ¬ (4 ≤ x3) → 0 ≤ x3) (p3 : ¬ (4 ≤ x3) → (-2147483648) ≤ x1 + 1) (p4 : ¬ (4 ≤ x3) → x1 + 1 < 2147483648) (p5 : ¬ (4 ≤ x3) → (-2147483648) ≤ h 2 306 x3 + (if h 2 305 x3 = x1 + 1 then x2 else 0)) (p6 : ¬ (4 ≤ x3) → h 2 306 x3 + (if h 2 305 x3 = x1 + 1 then x2 else 0) < 2147483648) (p7 : ¬ (4 ≤ x3) → (-2147483648) ≤ h 2 305 x3 - (if ¬ (h 2 305 x3 ≤ x1) then 1 else 0)) (p8 : ¬ (4 ≤ x3) → h 2 305 x3 - (if ¬ (h 2 305 x3 ≤ x1) then 1 else 0) < 2147483648) (p9 : ¬ (4 ≤ x3) → (-2147483648) ≤ h 2 309 x3 + (if h 2 308 x3 = x1 + 1 then x2 else 0)) (p10 : ¬ (4 ≤ x3) → h 2 309 x3 + (if h 2 308 x3 = x1 + 1 then x2 else 0) < 2147483648) (p11 : ¬ (4 ≤ x3) → (-2147483648) ≤ h 2 308 x3 - (if ¬ (h 2 308 x3 ≤ x1) then 1 else 0)) (p12 : ¬ (4 ≤ x3) → h 2 308 x3 - (if ¬ (h 2 308 x3 ≤ x1) then 1 else 0) < 2147483648) (p13 : ¬ (4 ≤ x3) → (-2147483648) ≤ h 2 301 x3 - 1) (p14 : ¬ (4 ≤ x3) → h 2 301 x3 - 1 < 2147483648) : vrun mX13_joinsLayers 179 [(1, 282), (0, x1), (0, x2), (0, x3), v4] [] h = if 4 ≤ x3 then some (.inl none, h) else vrun mX13_joinsLayers 294 [(1, 282), (0, x1), (0, x2), (0, x3), (0, h 2 301 x3 - 1)] [] (vup (vup (vup (vup h 2 306 x3 (h 2 306 x3 + (if h 2 305 x3 = x1 + 1 then x2 else 0))) 2 305 x3 (h 2 305 x3 - (if ¬ (h 2 305 x3 ≤ x1) then 1 else 0))) 2 309 x3 (h 2 309 x3 + (if h 2 308 x3 = x1 + 1 then x2 else 0))) 2 308 x3 (h 2 308 x3 - (if ¬ (h 2 308 x3 ≤ x1) then 1 else 0))) := by
  refine (rn_iload_n (pc := 179) (dd bX13_joinsLayers dX13_joinsLayers_179) rfl).trans ?_
  refine (rn_iconst (pc := 180) (dd bX13_joinsLayers dX13_joinsLayers_180) (by decide)).trans ?_
  refine (rn_icmp_ge (t := 345) (pc := 181) (dd bX13_joinsLayers dX13_joinsLayers_181) rfl).trans (itec (fun c1 => ?_) (fun c1 => ?_))
  · exact rn_return (pc := 345) (dd bX13_joinsLayers dX13_joinsLayers_345) rfl
  · refine (rn_aload_n (pc := 184) (dd bX13_joinsLayers dX13_joinsLayers_184) rfl).trans ?_
    refine (rg_gf (pc := 185) (dd bX13_joinsLayers dX13_joinsLayers_185) (ci := 14) (j := 25) rfl rfl (key := 1525) rfl (kc := 34) rfl s1.1 s1.2.2.2.2.2.2.2.2.2.2.2.2.2.2.2.2.2.2.2.2.2.2.2.2.2.2.2.2.2.2.2.2.2.2.2.2.2.2.2.2.2.2.2.2.2.2.2.2.2.2.2.2.2.2.2.2.2.2.2.2.2.2.2.2.2.2.2.2.2.2.1).trans ?_
    refine (rn_iload_n (pc := 188) (dd bX13_joinsLayers dX13_joinsLayers_188) rfl).trans ?_
    refine (rn_dup2 (pc := 189) (dd bX13_joinsLayers dX13_joinsLayers_189) (by decide)).trans ?_
    refine (rg_iaload (pc := 190) (dd bX13_joinsLayers dX13_joinsLayers_190) s1.2.2.2.2.2.2.2.2.2.2.2.2.2.2.2.2.2.2.2.2.2.2.2.2.2.2.2.2.2.2.2.2.2.2.2.2.2.2.2.2.2.2.2.2.2.2.2.2.2.2.2.2.2.2.2.2.2.2.2.2.2.2.2.2.2.2.2.2.2.2.2.1 s1.2.2.2.2.2.2.2.2.2.2.2.2.2.2.2.2.2.2.2.2.2.2.2.2.2.2.2.2.2.2.2.2.2.2.2.2.2.2.2.2.2.2.2.2.2.2.2.2.2.2.2.2.2.2.2.2.2.2.2.2.2.2.2.2.2.2.2.2.2.2.2.2.1 (p2 c1) (Int.not_le.mp c1) rfl).trans ?_
    refine (rn_aload_n (pc := 191) (dd bX13_joinsLayers dX13_joinsLayers_191) rfl).trans ?_
    refine (rg_gf (pc := 192) (dd bX13_joinsLayers dX13_joinsLayers_192) (ci := 14) (j := 24) rfl rfl (key := 1524) rfl (kc := 34) rfl s1.1 s1.2.2.2.2.2.2.2.2.2.2.2.2.2.2.2.2.2.2.2.2.2.2.2.2.2.2.2.2.2.2.2.2.2.2.2.2.2.2.2.2.2.2.2.2.2.2.2.2.2.2.2.2.2.2.2.2.2.2.2.2.2.2.2.2.2.2.2.1).trans ?_
    refine (rn_iload_n (pc := 195) (dd bX13_joinsLayers dX13_joinsLayers_195) rfl).trans ?_
    refine (rg_iaload (pc := 196) (dd bX13_joinsLayers dX13_joinsLayers_196) s1.2.2.2.2.2.2.2.2.2.2.2.2.2.2.2.2.2.2.2.2.2.2.2.2.2.2.2.2.2.2.2.2.2.2.2.2.2.2.2.2.2.2.2.2.2.2.2.2.2.2.2.2.2.2.2.2.2.2.2.2.2.2.2.2.2.2.2.2.1 s1.2.2.2.2.2.2.2.2.2.2.2.2.2.2.2.2.2.2.2.2.2.2.2.2.2.2.2.2.2.2.2.2.2.2.2.2.2.2.2.2.2.2.2.2.2.2.2.2.2.2.2.2.2.2.2.2.2.2.2.2.2.2.2.2.2.2.2.2.2.1 (by have z0 := p2 c1; omega) (Int.not_le.mp c1) rfl).trans ?_
    refine (rn_iload_n (pc := 197) (dd bX13_joinsLayers dX13_joinsLayers_197) rfl).trans ?_
    refine (rn_iconst (pc := 198) (dd bX13_joinsLayers dX13_joinsLayers_198) (by decide)).trans ?_
    refine (rg_iadd (pc := 199) (dd bX13_joinsLayers dX13_joinsLayers_199) (p3 c1) (p4 c1)).trans ?_
    have e1 : vrun mX13_joinsLayers 200 [(1, 282), (0, x1), (0, x2), (0, x3), v4] [(0, x1 + 1), (0, h 2 305 x3), (0, h 2 306 x3), (0, x3), (1, 306)] h = vrun mX13_joinsLayers 208 [(1, 282), (0, x1), (0, x2), (0, x3), v4] [(0, (if h 2 305 x3 = x1 + 1 then x2 else 0)), (0, h 2 306 x3), (0, x3), (1, 306)] h := by
      refine (rg_icmp_ne (t := 207) (pc := 200) (dd bX13_joinsLayers dX13_joinsLayers_200) rfl).trans ?_
      by_cases c2 : h 2 305 x3 = x1 + 1
      · refine (if_pos c2).trans ?_
        refine (rn_iload_n (pc := 203) (dd bX13_joinsLayers dX13_joinsLayers_203) rfl).trans ?_
        refine (rn_goto (t := 208) (pc := 204) (dd bX13_joinsLayers dX13_joinsLayers_204) rfl).trans ?_
        refine Eq.trans (b := vrun mX13_joinsLayers 208 [(1, 282), (0, x1), (0, x2), (0, x3), v4] [(0, x2), (0, h 2 306 x3), (0, x3), (1, 306)] h) rfl ?_
        simp only [if_pos c2]
      · refine (if_neg c2).trans ?_
        refine (rn_iconst (pc := 207) (dd bX13_joinsLayers dX13_joinsLayers_207) (by decide)).trans ?_
        refine Eq.trans (b := vrun mX13_joinsLayers 208 [(1, 282), (0, x1), (0, x2), (0, x3), v4] [(0, 0), (0, h 2 306 x3), (0, x3), (1, 306)] h) rfl ?_
        simp only [if_neg c2]
    refine e1.trans ?_
    refine (rg_iadd (pc := 208) (dd bX13_joinsLayers dX13_joinsLayers_208) (p5 c1) (p6 c1)).trans ?_
    refine (rg_iastore (pc := 209) (dd bX13_joinsLayers dX13_joinsLayers_209) s1.2.2.2.2.2.2.2.2.2.2.2.2.2.2.2.2.2.2.2.2.2.2.2.2.2.2.2.2.2.2.2.2.2.2.2.2.2.2.2.2.2.2.2.2.2.2.2.2.2.2.2.2.2.2.2.2.2.2.2.2.2.2.2.2.2.2.2.2.2.2.2.1 s1.2.2.2.2.2.2.2.2.2.2.2.2.2.2.2.2.2.2.2.2.2.2.2.2.2.2.2.2.2.2.2.2.2.2.2.2.2.2.2.2.2.2.2.2.2.2.2.2.2.2.2.2.2.2.2.2.2.2.2.2.2.2.2.2.2.2.2.2.2.2.2.2.1 (by have z0 := p2 c1; omega) (Int.not_le.mp c1)).trans ?_
    refine (rn_aload_n (pc := 210) (dd bX13_joinsLayers dX13_joinsLayers_210) rfl).trans ?_
    refine (rg_gf (pc := 211) (dd bX13_joinsLayers dX13_joinsLayers_211) (ci := 14) (j := 24) rfl rfl (key := 1524) rfl (kc := 34) rfl ((vup_k (by decide)).trans s1.1) ((vup_k (by decide)).trans s1.2.2.2.2.2.2.2.2.2.2.2.2.2.2.2.2.2.2.2.2.2.2.2.2.2.2.2.2.2.2.2.2.2.2.2.2.2.2.2.2.2.2.2.2.2.2.2.2.2.2.2.2.2.2.2.2.2.2.2.2.2.2.2.2.2.2.2.1)).trans ?_
    refine (rn_iload_n (pc := 214) (dd bX13_joinsLayers dX13_joinsLayers_214) rfl).trans ?_
    refine (rn_dup2 (pc := 215) (dd bX13_joinsLayers dX13_joinsLayers_215) (by decide)).trans ?_
    refine (rg_iaload (pc := 216) (dd bX13_joinsLayers dX13_joinsLayers_216) ((vup_k (by decide)).trans s1.2.2.2.2.2.2.2.2.2.2.2.2.2.2.2.2.2.2.2.2.2.2.2.2.2.2.2.2.2.2.2.2.2.2.2.2.2.2.2.2.2.2.2.2.2.2.2.2.2.2.2.2.2.2.2.2.2.2.2.2.2.2.2.2.2.2.2.2.1) ((vup_k (by decide)).trans s1.2.2.2.2.2.2.2.2.2.2.2.2.2.2.2.2.2.2.2.2.2.2.2.2.2.2.2.2.2.2.2.2.2.2.2.2.2.2.2.2.2.2.2.2.2.2.2.2.2.2.2.2.2.2.2.2.2.2.2.2.2.2.2.2.2.2.2.2.2.1) (by have z0 := p2 c1; omega) (Int.not_le.mp c1) ((vup_r (by omega)).trans rfl)).trans ?_
    refine (rn_aload_n (pc := 217) (dd bX13_joinsLayers dX13_joinsLayers_217) rfl).trans ?_
    refine (rg_gf (pc := 218) (dd bX13_joinsLayers dX13_joinsLayers_218) (ci := 14) (j := 24) rfl rfl (key := 1524) rfl (kc := 34) rfl ((vup_k (by decide)).trans s1.1) ((vup_k (by decide)).trans s1.2.2.2.2.2.2.2.2.2.2.2.2.2.2.2.2.2.2.2.2.2.2.2.2.2.2.2.2.2.2.2.2.2.2.2.2.2.2.2.2.2.2.2.2.2.2.2.2.2.2.2.2.2.2.2.2.2.2.2.2.2.2.2.2.2.2.2.1)).trans ?_
    refine (rn_iload_n (pc := 221) (dd bX13_joinsLayers dX13_joinsLayers_221) rfl).trans ?_
    refine (rg_iaload (pc := 222) (dd bX13_joinsLayers dX13_joinsLayers_222) ((vup_k (by decide)).trans s1.2.2.2.2.2.2.2.2.2.2.2.2.2.2.2.2.2.2.2.2.2.2.2.2.2.2.2.2.2.2.2.2.2.2.2.2.2.2.2.2.2.2.2.2.2.2.2.2.2.2.2.2.2.2.2.2.2.2.2.2.2.2.2.2.2.2.2.2.1) ((vup_k (by decide)).trans s1.2.2.2.2.2.2.2.2.2.2.2.2.2.2.2.2.2.2.2.2.2.2.2.2.2.2.2.2.2.2.2.2.2.2.2.2.2.2.2.2.2.2.2.2.2.2.2.2.2.2.2.2.2.2.2.2.2.2.2.2.2.2.2.2.2.2.2.2.2.1) (by have z0 := p2 c1; omega) (Int.not_le.mp c1) ((vup_r (by omega)).trans rfl)).trans ?_
    refine (rn_iload_n (pc := 223) (dd bX13_joinsLayers dX13_joinsLayers_223) rfl).trans ?_
    have e2 : vrun mX13_joinsLayers 224 [(1, 282), (0, x1), (0, x2), (0, x3), v4] [(0, x1), (0, h 2 305 x3), (0, h 2 305 x3), (0, x3), (1, 305)] (vup h 2 306 x3 (h 2 306 x3 + (if h 2 305 x3 = x1 + 1 then x2 else 0))) = vrun mX13_joinsLayers 232 [(1, 282), (0, x1), (0, x2), (0, x3), v4] [(0, (if ¬ (h 2 305 x3 ≤ x1) then 1 else 0)), (0, h 2 305 x3), (0, x3), (1, 305)] (vup h 2 306 x3 (h 2 306 x3 + (if h 2 305 x3 = x1 + 1 then x2 else 0))) := by
      refine (rn_icmp_le (t := 231) (pc := 224) (dd bX13_joinsLayers dX13_joinsLayers_224) rfl).trans ?_
      by_cases c3 : h 2 305 x3 ≤ x1
      · refine (if_pos c3).trans ?_
        refine (rn_iconst (pc := 231) (dd bX13_joinsLayers dX13_joinsLayers_231) (by decide)).trans ?_
        refine Eq.trans (b := vrun mX13_joinsLayers 232 [(1, 282), (0, x1), (0, x2), (0, x3), v4] [(0, 0), (0, h 2 305 x3), (0, x3), (1, 305)] (vup h 2 306 x3 (h 2 306 x3 + (if h 2 305 x3 = x1 + 1 then x2 else 0)))) rfl ?_
        simp only [c3, true_or, false_or, or_true, or_false, true_and, false_and, and_true, and_false, not_true_eq_false, not_false_eq_true, ne_eq, if_true, if_false, ↓reduceIte]
      · refine (if_neg c3).trans ?_
        refine (rn_iconst (pc := 227) (dd bX13_joinsLayers dX13_joinsLayers_227) (by decide)).trans ?_
        refine (rn_goto (t := 232) (pc := 228) (dd bX13_joinsLayers dX13_joinsLayers_228) rfl).trans ?_
        refine Eq.trans (b := vrun mX13_joinsLayers 232 [(1, 282), (0, x1), (0, x2), (0, x3), v4] [(0, 1), (0, h 2 305 x3), (0, x3), (1, 305)] (vup h 2 306 x3 (h 2 306 x3 + (if h 2 305 x3 = x1 + 1 then x2 else 0)))) rfl ?_
        simp only [c3, true_or, false_or, or_true, or_false, true_and, false_and, and_true, and_false, not_true_eq_false, not_false_eq_true, ne_eq, if_true, if_false, ↓reduceIte]
    refine e2.trans ?_
    refine (rg_isub (pc := 232) (dd bX13_joinsLayers dX13_joinsLayers_232) (p7 c1) (p8 c1)).trans ?_
    refine (rg_iastore (pc := 233) (dd bX13_joinsLayers dX13_joinsLayers_233) ((vup_k (by decide)).trans s1.2.2.2.2.2.2.2.2.2.2.2.2.2.2.2.2.2.2.2.2.2.2.2.2.2.2.2.2.2.2.2.2.2.2.2.2.2.2.2.2.2.2.2.2.2.2.2.2.2.2.2.2.2.2.2.2.2.2.2.2.2.2.2.2.2.2.2.2.1) ((vup_k (by decide)).trans s1.2.2.2.2.2.2.2.2.2.2.2.2.2.2.2.2.2.2.2.2.2.2.2.2.2.2.2.2.2.2.2.2.2.2.2.2.2.2.2.2.2.2.2.2.2.2.2.2.2.2.2.2.2.2.2.2.2.2.2.2.2.2.2.2.2.2.2.2.2.1) (by have z0 := p2 c1; omega) (Int.not_le.mp c1)).trans ?_
    refine (rn_aload_n (pc := 234) (dd bX13_joinsLayers dX13_joinsLayers_234) rfl).trans ?_
    refine (rg_gf (pc := 235) (dd bX13_joinsLayers dX13_joinsLayers_235) (ci := 14) (j := 28) rfl rfl (key := 1528) rfl (kc := 34) rfl ((vup_k (by decide)).trans ((vup_k (by decide)).trans s1.1)) ((vup_k (by decide)).trans ((vup_k (by decide)).trans s1.2.2.2.2.2.2.2.2.2.2.2.2.2.2.2.2.2.2.2.2.2.2.2.2.2.2.2.2.2.2.2.2.2.2.2.2.2.2.2.2.2.2.2.2.2.2.2.2.2.2.2.2.2.2.2.2.2.2.2.2.2.2.2.2.2.2.2.2.2.2.2.2.2.2.2.2.2.2.2.1))).trans ?_
    refine (rn_iload_n (pc := 238) (dd bX13_joinsLayers dX13_joinsLayers_238) rfl).trans ?_
    refine (rn_dup2 (pc := 239) (dd bX13_joinsLayers dX13_joinsLayers_239) (by decide)).trans ?_
    refine (rg_iaload (pc := 240) (dd bX13_joinsLayers dX13_joinsLayers_240) ((vup_k (by decide)).trans ((vup_k (by decide)).trans s1.2.2.2.2.2.2.2.2.2.2.2.2.2.2.2.2.2.2.2.2.2.2.2.2.2.2.2.2.2.2.2.2.2.2.2.2.2.2.2.2.2.2.2.2.2.2.2.2.2.2.2.2.2.2.2.2.2.2.2.2.2.2.2.2.2.2.2.2.2.2.2.2.2.2.2.2.2.2.2.2.1)) ((vup_k (by decide)).trans ((vup_k (by decide)).trans s1.2.2.2.2.2.2.2.2.2.2.2.2.2.2.2.2.2.2.2.2.2.2.2.2.2.2.2.2.2.2.2.2.2.2.2.2.2.2.2.2.2.2.2.2.2.2.2.2.2.2.2.2.2.2.2.2.2.2.2.2.2.2.2.2.2.2.2.2.2.2.2.2.2.2.2.2.2.2.2.2.2.1)) (by have z0 := p2 c1; omega) (Int.not_le.mp c1) ((vup_r (by omega)).trans ((vup_r (by omega)).trans rfl))).trans ?_
    refine (rn_aload_n (pc := 241) (dd bX13_joinsLayers dX13_joinsLayers_241) rfl).trans ?_
    refine (rg_gf (pc := 242) (dd bX13_joinsLayers dX13_joinsLayers_242) (ci := 14) (j := 27) rfl rfl (key := 1527) rfl (kc := 34) rfl ((vup_k (by decide)).trans ((vup_k (by decide)).trans s1.1)) ((vup_k (by decide)).trans ((vup_k (by decide)).trans s1.2.2.2.2.2.2.2.2.2.2.2.2.2.2.2.2.2.2.2.2.2.2.2.2.2.2.2.2.2.2.2.2.2.2.2.2.2.2.2.2.2.2.2.2.2.2.2.2.2.2.2.2.2.2.2.2.2.2.2.2.2.2.2.2.2.2.2.2.2.2.2.2.2.2.2.2.1))).trans ?_
    refine (rn_iload_n (pc := 245) (dd bX13_joinsLayers dX13_joinsLayers_245) rfl).trans ?_
    refine (rg_iaload (pc := 246) (dd bX13_joinsLayers dX13_joinsLayers_246) ((vup_k (by decide)).trans ((vup_k (by decide)).trans s1.2.2.2.2.2.2.2.2.2.2.2.2.2.2.2.2.2.2.2.2.2.2.2.2.2.2.2.2.2.2.2.2.2.2.2.2.2.2.2.2.2.2.2.2.2.2.2.2.2.2.2.2.2.2.2.2.2.2.2.2.2.2.2.2.2.2.2.2.2.2.2.2.2.2.2.2.2.1)) ((vup_k (by decide)).trans ((vup_k (by decide)).trans s1.2.2.2.2.2.2.2.2.2.2.2.2.2.2.2.2.2.2.2.2.2.2.2.2.2.2.2.2.2.2.2.2.2.2.2.2.2.2.2.2.2.2.2.2.2.2.2.2.2.2.2.2.2.2.2.2.2.2.2.2.2.2.2.2.2.2.2.2.2.2.2.2.2.2.2.2.2.2.1)) (by have z0 := p2 c1; omega) (Int.not_le.mp c1) ((vup_r (by omega)).trans ((vup_r (by omega)).trans rfl))).trans ?_
    refine (rn_iload_n (pc := 247) (dd bX13_joinsLayers dX13_joinsLayers_247) rfl).trans ?_
    refine (rn_iconst (pc := 248) (dd bX13_joinsLayers dX13_joinsLayers_248) (by decide)).trans ?_
    refine (rg_iadd (pc := 249) (dd bX13_joinsLayers dX13_joinsLayers_249) (by have z0 := p3 c1; have z1 := p4 c1; omega) (by have z0 := p3 c1; have z1 := p4 c1; omega)).trans ?_
    have e3 : vrun mX13_joinsLayers 250 [(1, 282), (0, x1), (0, x2), (0, x3), v4] [(0, x1 + 1), (0, h 2 308 x3), (0, h 2 309 x3), (0, x3), (1, 309)] (vup (vup h 2 306 x3 (h 2 306 x3 + (if h 2 305 x3 = x1 + 1 then x2 else 0))) 2 305 x3 (h 2 305 x3 - (if ¬ (h 2 305 x3 ≤ x1) then 1 else 0))) = vrun mX13_joinsLayers 258 [(1, 282), (0, x1), (0, x2), (0, x3), v4] [(0, (if h 2 308 x3 = x1 + 1 then x2 else 0)), (0, h 2 309 x3), (0, x3), (1, 309)] (vup (vup h 2 306 x3 (h 2 306 x3 + (if h 2 305 x3 = x1 + 1 then x2 else 0))) 2 305 x3 (h 2 305 x3 - (if ¬ (h 2 305 x3 ≤ x1) then 1 else 0))) := by
      refine (rg_icmp_ne (t := 257) (pc := 250) (dd bX13_joinsLayers dX13_joinsLayers_250) rfl).trans ?_
      by_cases c4 : h 2 308 x3 = x1 + 1
      · refine (if_pos c4).trans ?_
        refine (rn_iload_n (pc := 253) (dd bX13_joinsLayers dX13_joinsLayers_253) rfl).trans ?_
        refine (rn_goto (t := 258) (pc := 254) (dd bX13_joinsLayers dX13_joinsLayers_254) rfl).trans ?_
        refine Eq.trans (b := vrun mX13_joinsLayers 258 [(1, 282), (0, x1), (0, x2), (0, x3), v4] [(0, x2), (0, h 2 309 x3), (0, x3), (1, 309)] (vup (vup h 2 306 x3 (h 2 306 x3 + (if h 2 305 x3 = x1 + 1 then x2 else 0))) 2 305 x3 (h 2 305 x3 - (if ¬ (h 2 305 x3 ≤ x1) then 1 else 0)))) rfl ?_
        simp only [if_pos c4]
      · refine (if_neg c4).trans ?_
        refine (rn_iconst (pc := 257) (dd bX13_joinsLayers dX13_joinsLayers_257) (by decide)).trans ?_
        refine Eq.trans (b := vrun mX13_joinsLayers 258 [(1, 282), (0, x1), (0, x2), (0, x3), v4] [(0, 0), (0, h 2 309 x3), (0, x3), (1, 309)] (vup (vup h 2 306 x3 (h 2 306 x3 + (if h 2 305 x3 = x1 + 1 then x2 else 0))) 2 305 x3 (h 2 305 x3 - (if ¬ (h 2 305 x3 ≤ x1) then 1 else 0)))) rfl ?_
        simp only [if_neg c4]
    refine e3.trans ?_
    refine (rg_iadd (pc := 258) (dd bX13_joinsLayers dX13_joinsLayers_258) (p9 c1) (p10 c1)).trans ?_
    refine (rg_iastore (pc := 259) (dd bX13_joinsLayers dX13_joinsLayers_259) ((vup_k (by decide)).trans ((vup_k (by decide)).trans s1.2.2.2.2.2.2.2.2.2.2.2.2.2.2.2.2.2.2.2.2.2.2.2.2.2.2.2.2.2.2.2.2.2.2.2.2.2.2.2.2.2.2.2.2.2.2.2.2.2.2.2.2.2.2.2.2.2.2.2.2.2.2.2.2.2.2.2.2.2.2.2.2.2.2.2.2.2.2.2.2.1)) ((vup_k (by decide)).trans ((vup_k (by decide)).trans s1.2.2.2.2.2.2.2.2.2.2.2.2.2.2.2.2.2.2.2.2.2.2.2.2.2.2.2.2.2.2.2.2.2.2.2.2.2.2.2.2.2.2.2.2.2.2.2.2.2.2.2.2.2.2.2.2.2.2.2.2.2.2.2.2.2.2.2.2.2.2.2.2.2.2.2.2.2.2.2.2.2.1)) (by have z0 := p2 c1; omega) (Int.not_le.mp c1)).trans ?_
    refine (rn_aload_n (pc := 260) (dd bX13_joinsLayers dX13_joinsLayers_260) rfl).trans ?_
    refine (rg_gf (pc := 261) (dd bX13_joinsLayers dX13_joinsLayers_261) (ci := 14) (j := 27) rfl rfl (key := 1527) rfl (kc := 34) rfl ((vup_k (by decide)).trans ((vup_k (by decide)).trans ((vup_k (by decide)).trans s1.1))) ((vup_k (by decide)).trans ((vup_k (by decide)).trans ((vup_k (by decide)).trans s1.2.2.2.2.2.2.2.2.2.2.2.2.2.2.2.2.2.2.2.2.2.2.2.2.2.2.2.2.2.2.2.2.2.2.2.2.2.2.2.2.2.2.2.2.2.2.2.2.2.2.2.2.2.2.2.2.2.2.2.2.2.2.2.2.2.2.2.2.2.2.2.2.2.2.2.2.1)))).trans ?_
    refine (rn_iload_n (pc := 264) (dd bX13_joinsLayers dX13_joinsLayers_264) rfl).trans ?_
    refine (rn_dup2 (pc := 265) (dd bX13_joinsLayers dX13_joinsLayers_265) (by decide)).trans ?_
    refine (rg_iaload (pc := 266) (dd bX13_joinsLayers dX13_joinsLayers_266) ((vup_k (by decide)).trans ((vup_k (by decide)).trans ((vup_k (by decide)).trans s1.2.2.2.2.2.2.2.2.2.2.2.2.2.2.2.2.2.2.2.2.2.2.2.2.2.2.2.2.2.2.2.2.2.2.2.2.2.2.2.2.2.2.2.2.2.2.2.2.2.2.2.2.2.2.2.2.2.2.2.2.2.2.2.2.2.2.2.2.2.2.2.2.2.2.2.2.2.1))) ((vup_k (by decide)).trans ((vup_k (by decide)).trans ((vup_k (by decide)).trans s1.2.2.2.2.2.2.2.2.2.2.2.2.2.2.2.2.2.2.2.2.2.2.2.2.2.2.2.2.2.2.2.2.2.2.2.2.2.2.2.2.2.2.2.2.2.2.2.2.2.2.2.2.2.2.2.2.2.2.2.2.2.2.2.2.2.2.2.2.2.2.2.2.2.2.2.2.2.2.1))) (by have z0 := p2 c1; omega) (Int.not_le.mp c1) ((vup_r (by omega)).trans ((vup_r (by omega)).trans ((vup_r (by omega)).trans rfl)))).trans ?_
    refine (rn_aload_n (pc := 267) (dd bX13_joinsLayers dX13_joinsLayers_267) rfl).trans ?_
    refine (rg_gf (pc := 268) (dd bX13_joinsLayers dX13_joinsLayers_268) (ci := 14) (j := 27) rfl rfl (key := 1527) rfl (kc := 34) rfl ((vup_k (by decide)).trans ((vup_k (by decide)).trans ((vup_k (by decide)).trans s1.1))) ((vup_k (by decide)).trans ((vup_k (by decide)).trans ((vup_k (by decide)).trans s1.2.2.2.2.2.2.2.2.2.2.2.2.2.2.2.2.2.2.2.2.2.2.2.2.2.2.2.2.2.2.2.2.2.2.2.2.2.2.2.2.2.2.2.2.2.2.2.2.2.2.2.2.2.2.2.2.2.2.2.2.2.2.2.2.2.2.2.2.2.2.2.2.2.2.2.2.1)))).trans ?_
    refine (rn_iload_n (pc := 271) (dd bX13_joinsLayers dX13_joinsLayers_271) rfl).trans ?_
    refine (rg_iaload (pc := 272) (dd bX13_joinsLayers dX13_joinsLayers_272) ((vup_k (by decide)).trans ((vup_k (by decide)).trans ((vup_k (by decide)).trans s1.2.2.2.2.2.2.2.2.2.2.2.2.2.2.2.2.2.2.2.2.2.2.2.2.2.2.2.2.2.2.2.2.2.2.2.2.2.2.2.2.2.2.2.2.2.2.2.2.2.2.2.2.2.2.2.2.2.2.2.2.2.2.2.2.2.2.2.2.2.2.2.2.2.2.2.2.2.1))) ((vup_k (by decide)).trans ((vup_k (by decide)).trans ((vup_k (by decide)).trans s1.2.2.2.2.2.2.2.2.2.2.2.2.2.2.2.2.2.2.2.2.2.2.2.2.2.2.2.2.2.2.2.2.2.2.2.2.2.2.2.2.2.2.2.2.2.2.2.2.2.2.2.2.2.2.2.2.2.2.2.2.2.2.2.2.2.2.2.2.2.2.2.2.2.2.2.2.2.2.1))) (by have z0 := p2 c1; omega) (Int.not_le.mp c1) ((vup_r (by omega)).trans ((vup_r (by omega)).trans ((vup_r (by omega)).trans rfl)))).trans ?_
    refine (rn_iload_n (pc := 273) (dd bX13_joinsLayers dX13_joinsLayers_273) rfl).trans ?_
    have e4 : vrun mX13_joinsLayers 274 [(1, 282), (0, x1), (0, x2), (0, x3), v4] [(0, x1), (0, h 2 308 x3), (0, h 2 308 x3), (0, x3), (1, 308)] (vup (vup (vup h 2 306 x3 (h 2 306 x3 + (if h 2 305 x3 = x1 + 1 then x2 else 0))) 2 305 x3 (h 2 305 x3 - (if ¬ (h 2 305 x3 ≤ x1) then 1 else 0))) 2 309 x3 (h 2 309 x3 + (if h 2 308 x3 = x1 + 1 then x2 else 0))) = vrun mX13_joinsLayers 282 [(1, 282), (0, x1), (0, x2), (0, x3), v4] [(0, (if ¬ (h 2 308 x3 ≤ x1) then 1 else 0)), (0, h 2 308 x3), (0, x3), (1, 308)] (vup (vup (vup h 2 306 x3 (h 2 306 x3 + (if h 2 305 x3 = x1 + 1 then x2 else 0))) 2 305 x3 (h 2 305 x3 - (if ¬ (h 2 305 x3 ≤ x1) then 1 else 0))) 2 309 x3 (h 2 309 x3 + (if h 2 308 x3 = x1 + 1 then x2 else 0))) := by
      refine (rn_icmp_le (t := 281) (pc := 274) (dd bX13_joinsLayers dX13_joinsLayers_274) rfl).trans ?_
      by_cases c5 : h 2 308 x3 ≤ x1
      · refine (if_pos c5).trans ?_
        refine (rn_iconst (pc := 281) (dd bX13_joinsLayers dX13_joinsLayers_281) (by decide)).trans ?_
        refine Eq.trans (b := vrun mX13_joinsLayers 282 [(1, 282), (0, x1), (0, x2), (0, x3), v4] [(0, 0), (0, h 2 308 x3), (0, x3), (1, 308)] (vup (vup (vup h 2 306 x3 (h 2 306 x3 + (if h 2 305 x3 = x1 + 1 then x2 else 0))) 2 305 x3 (h 2 305 x3 - (if ¬ (h 2 305 x3 ≤ x1) then 1 else 0))) 2 309 x3 (h 2 309 x3 + (if h 2 308 x3 = x1 + 1 then x2 else 0)))) rfl ?_
        simp only [c5, true_or, false_or, or_true, or_false, true_and, false_and, and_true, and_false, not_true_eq_false, not_false_eq_true, ne_eq, if_true, if_false, ↓reduceIte]
      · refine (if_neg c5).trans ?_
        refine (rn_iconst (pc := 277) (dd bX13_joinsLayers dX13_joinsLayers_277) (by decide)).trans ?_
        refine (rn_goto (t := 282) (pc := 278) (dd bX13_joinsLayers dX13_joinsLayers_278) rfl).trans ?_
        refine Eq.trans (b := vrun mX13_joinsLayers 282 [(1, 282), (0, x1), (0, x2), (0, x3), v4] [(0, 1), (0, h 2 308 x3), (0, x3), (1, 308)] (vup (vup (vup h 2 306 x3 (h 2 306 x3 + (if h 2 305 x3 = x1 + 1 then x2 else 0))) 2 305 x3 (h 2 305 x3 - (if ¬ (h 2 305 x3 ≤ x1) then 1 else 0))) 2 309 x3 (h 2 309 x3 + (if h 2 308 x3 = x1 + 1 then x2 else 0)))) rfl ?_
        simp only [c5, true_or, false_or, or_true, or_false, true_and, false_and, and_true, and_false, not_true_eq_false, not_false_eq_true, ne_eq, if_true, if_false, ↓reduceIte]
    refine e4.trans ?_
    refine (rg_isub (pc := 282) (dd bX13_joinsLayers dX13_joinsLayers_282) (p11 c1) (p12 c1)).trans ?_
    refine (rg_iastore (pc := 283) (dd bX13_joinsLayers dX13_joinsLayers_283) ((vup_k (by decide)).trans ((vup_k (by decide)).trans ((vup_k (by decide)).trans s1.2.2.2.2.2.2.2.2.2.2.2.2.2.2.2.2.2.2.2.2.2.2.2.2.2.2.2.2.2.2.2.2.2.2.2.2.2.2.2.2.2.2.2.2.2.2.2.2.2.2.2.2.2.2.2.2.2.2.2.2.2.2.2.2.2.2.2.2.2.2.2.2.2.2.2.2.2.1))) ((vup_k (by decide)).trans ((vup_k (by decide)).trans ((vup_k (by decide)).trans s1.2.2.2.2.2.2.2.2.2.2.2.2.2.2.2.2.2.2.2.2.2.2.2.2.2.2.2.2.2.2.2.2.2.2.2.2.2.2.2.2.2.2.2.2.2.2.2.2.2.2.2.2.2.2.2.2.2.2.2.2.2.2.2.2.2.2.2.2.2.2.2.2.2.2.2.2.2.2.1))) (by have z0 := p2 c1; omega) (Int.not_le.mp c1)).trans ?_
    refine (rn_aload_n (pc := 284) (dd bX13_joinsLayers dX13_joinsLayers_284) rfl).trans ?_
    refine (rg_gf (pc := 285) (dd bX13_joinsLayers dX13_joinsLayers_285) (ci := 14) (j := 20) rfl rfl (key := 1520) rfl (kc := 34) rfl ((vup_k (by decide)).trans ((vup_k (by decide)).trans ((vup_k (by decide)).trans ((vup_k (by decide)).trans s1.1)))) ((vup_k (by decide)).trans ((vup_k (by decide)).trans ((vup_k (by decide)).trans ((vup_k (by decide)).trans s1.2.2.2.2.2.2.2.2.2.2.2.2.2.2.2.2.2.2.2.2.2.2.2.2.2.2.2.2.2.2.2.2.2.2.2.2.2.2.2.2.2.2.2.2.2.2.2.2.2.2.2.2.2.2.2.1))))).trans ?_
    refine (rn_iload_n (pc := 288) (dd bX13_joinsLayers dX13_joinsLayers_288) rfl).trans ?_
    refine (rg_iaload (pc := 289) (dd bX13_joinsLayers dX13_joinsLayers_289) ((vup_k (by decide)).trans ((vup_k (by decide)).trans ((vup_k (by decide)).trans ((vup_k (by decide)).trans s1.2.2.2.2.2.2.2.2.2.2.2.2.2.2.2.2.2.2.2.2.2.2.2.2.2.2.2.2.2.2.2.2.2.2.2.2.2.2.2.2.2.2.2.2.2.2.2.2.2.2.2.2.2.2.2.2.1)))) ((vup_k (by decide)).trans ((vup_k (by decide)).trans ((vup_k (by decide)).trans ((vup_k (by decide)).trans s1.2.2.2.2.2.2.2.2.2.2.2.2.2.2.2.2.2.2.2.2.2.2.2.2.2.2.2.2.2.2.2.2.2.2.2.2.2.2.2.2.2.2.2.2.2.2.2.2.2.2.2.2.2.2.2.2.2.1)))) (by have z0 := p2 c1; omega) (Int.not_le.mp c1) ((vup_r (by omega)).trans ((vup_r (by omega)).trans ((vup_r (by omega)).trans ((vup_r (by omega)).trans rfl))))).trans ?_
    refine (rn_iconst (pc := 290) (dd bX13_joinsLayers dX13_joinsLayers_290) (by decide)).trans ?_
    refine (rg_isub (pc := 291) (dd bX13_joinsLayers dX13_joinsLayers_291) (p13 c1) (p14 c1)).trans ?_
    refine (rn_istore (pc := 292) (dd bX13_joinsLayers dX13_joinsLayers_292) (Nat.le_of_ble_eq_true rfl) rfl).trans ?_
    rfl
theorem rX13_joinsLayers_294 {x1 : Int} {x2 : Int} {x3 : Int} {x4 : Int} {h : vH} (p1 : x4 < 0 → (-2147483648) ≤ x3 + 1) (p2 : x4 < 0 → x3 + 1 < 2147483648) (s3 : shModel h) (p4 : ¬ (x4 < 0) → (-2147483648) ≤ 6 * x3) (p5 : ¬ (x4 < 0) → 6 * x3 < 2147483648) (p6 : ¬ (x4 < 0) → 6 * x3 + x4 < 2147483648) (p7 : ¬ (x4 < 0) → 0 ≤ 6 * x3 + x4) (p8 : ¬ (x4 < 0) → 6 * x3 + x4 < 24) (p9 : ¬ (x4 < 0) → ¬ (h 2 302 (6 * x3 + x4) = h 2 303 (6 * x3 + x4)) → x4 + (-1) < 2147483648) : vrun mX13_joinsLayers 294 [(1, 282), (0, x1), (0, x2), (0, x3), (0, x4)] [] h = if x4 < 0 then vrun mX13_joinsLayers 179 [(1, 282), (0, x1), (0, x2), (0, x3 + 1), (0, x4)] [] h else if h 2 302 (6 * x3 + x4) = h 2 303 (6 * x3 + x4) then vret vrun mX13_joinsLayers 330 [(1, 282), (0, x1), (0, x2), (0, x3), (0, x4)] [] (vcl mX13_dropsFold [(1, 282), (0, x3), (0, x4)] h) else vrun mX13_joinsLayers 294 [(1, 282), (0, x1), (0, x2), (0, x3), (0, x4 + (-1))] [] h := by
  refine (rn_iload (pc := 294) (dd bX13_joinsLayers dX13_joinsLayers_294) rfl).trans ?_
  refine (rn_if_lt (t := 339) (pc := 296) (dd bX13_joinsLayers dX13_joinsLayers_296) rfl).trans (itec (fun c1 => ?_) (fun c1 => ?_))
  · refine (rg_iinc (pc := 339) (dd bX13_joinsLayers dX13_joinsLayers_339) rfl (Nat.le_of_ble_eq_true rfl) (p1 c1) (p2 c1) rfl).trans ?_
    refine (rn_goto (t := 179) (pc := 342) (dd bX13_joinsLayers dX13_joinsLayers_342) rfl).trans ?_
    rfl
  · refine (rn_aload_n (pc := 299) (dd bX13_joinsLayers dX13_joinsLayers_299) rfl).trans ?_
    refine (rg_gf (pc := 300) (dd bX13_joinsLayers dX13_joinsLayers_300) (ci := 14) (j := 21) rfl rfl (key := 1521) rfl (kc := 34) rfl s3.1 s3.2.2.2.2.2.2.2.2.2.2.2.2.2.2.2.2.2.2.2.2.2.2.2.2.2.2.2.2.2.2.2.2.2.2.2.2.2.2.2.2.2.2.2.2.2.2.2.2.2.2.2.2.2.2.2.2.2.2.1).trans ?_
    refine (rn_bipush (pc := 303) (dd bX13_joinsLayers dX13_joinsLayers_303) (by decide)).trans ?_
    refine (rn_iload_n (pc := 305) (dd bX13_joinsLayers dX13_joinsLayers_305) rfl).trans ?_
    refine (rg_imul (pc := 306) (dd bX13_joinsLayers dX13_joinsLayers_306) (p4 c1) (p5 c1)).trans ?_
    refine (rn_iload (pc := 307) (dd bX13_joinsLayers dX13_joinsLayers_307) rfl).trans ?_
    refine (rg_iadd (pc := 309) (dd bX13_joinsLayers dX13_joinsLayers_309) (by have z0 := p4 c1; have z1 := p5 c1; omega) (p6 c1)).trans ?_
    refine (rg_iaload (pc := 310) (dd bX13_joinsLayers dX13_joinsLayers_310) s3.2.2.2.2.2.2.2.2.2.2.2.2.2.2.2.2.2.2.2.2.2.2.2.2.2.2.2.2.2.2.2.2.2.2.2.2.2.2.2.2.2.2.2.2.2.2.2.2.2.2.2.2.2.2.2.2.2.2.2.1 s3.2.2.2.2.2.2.2.2.2.2.2.2.2.2.2.2.2.2.2.2.2.2.2.2.2.2.2.2.2.2.2.2.2.2.2.2.2.2.2.2.2.2.2.2.2.2.2.2.2.2.2.2.2.2.2.2.2.2.2.2.1 (p7 c1) (p8 c1) rfl).trans ?_
    refine (rn_aload_n (pc := 311) (dd bX13_joinsLayers dX13_joinsLayers_311) rfl).trans ?_
    refine (rg_gf (pc := 312) (dd bX13_joinsLayers dX13_joinsLayers_312) (ci := 14) (j := 22) rfl rfl (key := 1522) rfl (kc := 34) rfl s3.1 s3.2.2.2.2.2.2.2.2.2.2.2.2.2.2.2.2.2.2.2.2.2.2.2.2.2.2.2.2.2.2.2.2.2.2.2.2.2.2.2.2.2.2.2.2.2.2.2.2.2.2.2.2.2.2.2.2.2.2.2.2.2.1).trans ?_
    refine (rn_bipush (pc := 315) (dd bX13_joinsLayers dX13_joinsLayers_315) (by decide)).trans ?_
    refine (rn_iload_n (pc := 317) (dd bX13_joinsLayers dX13_joinsLayers_317) rfl).trans ?_
    refine (rg_imul (pc := 318) (dd bX13_joinsLayers dX13_joinsLayers_318) (by have z0 := p4 c1; have z1 := p5 c1; omega) (by have z0 := p4 c1; have z1 := p5 c1; omega)).trans ?_
    refine (rn_iload (pc := 319) (dd bX13_joinsLayers dX13_joinsLayers_319) rfl).trans ?_
    refine (rg_iadd (pc := 321) (dd bX13_joinsLayers dX13_joinsLayers_321) (by have z0 := p4 c1; have z1 := p5 c1; have z2 := p6 c1; have z3 := p7 c1; have z4 := p8 c1; omega) (by have z0 := p4 c1; have z1 := p5 c1; have z2 := p6 c1; have z3 := p7 c1; have z4 := p8 c1; omega)).trans ?_
    refine (rg_iaload (pc := 322) (dd bX13_joinsLayers dX13_joinsLayers_322) s3.2.2.2.2.2.2.2.2.2.2.2.2.2.2.2.2.2.2.2.2.2.2.2.2.2.2.2.2.2.2.2.2.2.2.2.2.2.2.2.2.2.2.2.2.2.2.2.2.2.2.2.2.2.2.2.2.2.2.2.2.2.2.1 s3.2.2.2.2.2.2.2.2.2.2.2.2.2.2.2.2.2.2.2.2.2.2.2.2.2.2.2.2.2.2.2.2.2.2.2.2.2.2.2.2.2.2.2.2.2.2.2.2.2.2.2.2.2.2.2.2.2.2.2.2.2.2.2.1 (by have z0 := p4 c1; have z1 := p5 c1; have z2 := p6 c1; have z3 := p7 c1; have z4 := p8 c1; omega) (by have z0 := p4 c1; have z1 := p5 c1; have z2 := p6 c1; have z3 := p7 c1; have z4 := p8 c1; omega) rfl).trans ?_
    refine (rg_icmp_ne (t := 333) (pc := 323) (dd bX13_joinsLayers dX13_joinsLayers_323) rfl).trans (itec (fun c2 => ?_) (fun c2 => ?_))
    · refine (rn_aload_n (pc := 326) (dd bX13_joinsLayers dX13_joinsLayers_326) rfl).trans ?_
      refine (rn_iload_n (pc := 327) (dd bX13_joinsLayers dX13_joinsLayers_327) rfl).trans ?_
      refine (rn_iload (pc := 328) (dd bX13_joinsLayers dX13_joinsLayers_328) rfl).trans ?_
      exact rg_virtual (pc := 330) (dd bX13_joinsLayers dX13_joinsLayers_330) rfl rfl (by decide) (kc := 34) rfl s3.1 (as := [(1, 282), (0, x3), (0, x4)]) rfl ⟨Nat.le_of_ble_eq_true rfl, Nat.le_of_ble_eq_true rfl, Nat.le_of_ble_eq_true rfl, Nat.le_of_ble_eq_true rfl⟩
    · refine (rg_iinc (pc := 333) (dd bX13_joinsLayers dX13_joinsLayers_333) rfl (Nat.le_of_ble_eq_true rfl) (by omega) (p9 c1 c2) rfl).trans ?_
      refine (rn_goto (t := 294) (pc := 336) (dd bX13_joinsLayers dX13_joinsLayers_336) rfl).trans ?_
      rfl
theorem rX13_joinsLayers_333 {x1 : Int} {x2 : Int} {x3 : Int} {x4 : Int} {h : vH} (p1 : (-2147483648) ≤ x4 + (-1)) (p2 : x4 + (-1) < 2147483648) : vrun mX13_joinsLayers 333 [(1, 282), (0, x1), (0, x2), (0, x3), (0, x4)] [] h = vrun mX13_joinsLayers 294 [(1, 282), (0, x1), (0, x2), (0, x3), (0, x4 + (-1))] [] h := by
  refine (rg_iinc (pc := 333) (dd bX13_joinsLayers dX13_joinsLayers_333) rfl (Nat.le_of_ble_eq_true rfl) p1 p2 rfl).trans ?_
  refine (rn_goto (t := 294) (pc := 336) (dd bX13_joinsLayers dX13_joinsLayers_336) rfl).trans ?_
  rfl
theorem bX13_join : vmB mX13_join = cX13_join := rfl
theorem rX13_join_0 {x1 : Int} {h : vH} (s1 : shModel h) (p2 : (-2147483648) ≤ h 1504 282 0 - 1) (p3 : h 1504 282 0 - 1 < 2147483648) (p4 : ¬ (fX13_isLine h x1 = 0) → (-2147483648) ≤ x1 + 1) (p5 : ¬ (fX13_isLine h x1 = 0) → x1 + 1 < 2147483648) (p6 : ¬ (fX13_isLine h x1 = 0) ∧ ¬ (fX13_isLine h (x1 + 1) = 0) → 0 ≤ x1) (p7 : ¬ (fX13_isLine h x1 = 0) ∧ ¬ (fX13_isLine h (x1 + 1) = 0) → x1 < 60) (p8 : ¬ (fX13_isLine h x1 = 0) ∧ ¬ (fX13_isLine h (x1 + 1) = 0) → x1 + 1 < 60) (p9 : ¬ (fX13_isLine h x1 = 0) ∧ ¬ (fX13_isLine h (x1 + 1) = 0) → (-2147483648) ≤ h 2 284 x1 + h 2 284 (x1 + 1)) (p10 : ¬ (fX13_isLine h x1 = 0) ∧ ¬ (fX13_isLine h (x1 + 1) = 0) → h 2 284 x1 + h 2 284 (x1 + 1) < 2147483648) : vrun mX13_join 0 [(1, 282), (0, x1), (9, 0), (9, 0), (9, 0)] [] h = vret vrun mX13_join 58 [(1, 282), (0, x1), (0, (if ¬ (fX13_isLine h x1 = 0) ∧ ¬ (fX13_isLine h (x1 + 1) = 0) then 1 else 0)), (9, 0), (9, 0)] [] (vcl mX13_isFine [(1, 282), (0, (if ¬ (fX13_isLine h x1 = 0) ∧ ¬ (fX13_isLine h (x1 + 1) = 0) then (if h 2 284 x1 + h 2 284 (x1 + 1) ≤ 80 then 0 else 2) else 1))] h) := by
  refine (rn_aload_n (pc := 0) (dd bX13_join dX13_join_0) rfl).trans ?_
  refine (rn_iload_n (pc := 1) (dd bX13_join dX13_join_1) rfl).trans ?_
  refine (rg_virtual (pc := 2) (dd bX13_join dX13_join_2) rfl rfl (by decide) (kc := 34) rfl s1.1 (as := [(1, 282), (0, x1)]) rfl ⟨Nat.le_of_ble_eq_true rfl, Nat.le_of_ble_eq_true rfl, Nat.le_of_ble_eq_true rfl, Nat.le_of_ble_eq_true rfl⟩).trans ?_
  refine (vret_v (spX13_isLine s1 p2 p3)).trans ?_
  have e2 : vrun mX13_join 5 [(1, 282), (0, x1), (9, 0), (9, 0), (9, 0)] [(0, fX13_isLine h x1)] h = vrun mX13_join 23 [(1, 282), (0, x1), (9, 0), (9, 0), (9, 0)] [(0, (if ¬ (fX13_isLine h x1 = 0) ∧ ¬ (fX13_isLine h (x1 + 1) = 0) then 1 else 0))] h := by
    refine (rn_if_eq (t := 22) (pc := 5) (dd bX13_join dX13_join_5) rfl).trans ?_
    by_cases c1 : fX13_isLine h x1 = 0
    · refine (if_pos c1).trans ?_
      refine (rn_iconst (pc := 22) (dd bX13_join dX13_join_22) (by decide)).trans ?_
      refine Eq.trans (b := vrun mX13_join 23 [(1, 282), (0, x1), (9, 0), (9, 0), (9, 0)] [(0, 0)] h) rfl ?_
      simp only [c1, true_or, false_or, or_true, or_false, true_and, false_and, and_true, and_false, not_true_eq_false, not_false_eq_true, ne_eq, if_true, if_false, ↓reduceIte]
    · refine (if_neg c1).trans ?_
      refine (rn_aload_n (pc := 8) (dd bX13_join dX13_join_8) rfl).trans ?_
      refine (rn_iload_n (pc := 9) (dd bX13_join dX13_join_9) rfl).trans ?_
      refine (rn_iconst (pc := 10) (dd bX13_join dX13_join_10) (by decide)).trans ?_
      refine (rg_iadd (pc := 11) (dd bX13_join dX13_join_11) (p4 c1) (p5 c1)).trans ?_
      refine (rg_virtual (pc := 12) (dd bX13_join dX13_join_12) rfl rfl (by decide) (kc := 34) rfl s1.1 (as := [(1, 282), (0, x1 + 1)]) rfl ⟨Nat.le_of_ble_eq_true rfl, Nat.le_of_ble_eq_true rfl, Nat.le_of_ble_eq_true rfl, Nat.le_of_ble_eq_true rfl⟩).trans ?_
      refine (vret_v (spX13_isLine s1 (by omega) (by omega))).trans ?_
      have e1 : vrun mX13_join 15 [(1, 282), (0, x1), (9, 0), (9, 0), (9, 0)] [(0, fX13_isLine h (x1 + 1))] h = vrun mX13_join 23 [(1, 282), (0, x1), (9, 0), (9, 0), (9, 0)] [(0, (if ¬ (fX13_isLine h (x1 + 1) = 0) then 1 else 0))] h := by
        refine (rn_if_eq (t := 22) (pc := 15) (dd bX13_join dX13_join_15) rfl).trans ?_
        by_cases c2 : fX13_isLine h (x1 + 1) = 0
        · refine (if_pos c2).trans ?_
          refine (rn_iconst (pc := 22) (dd bX13_join dX13_join_22) (by decide)).trans ?_
          refine Eq.trans (b := vrun mX13_join 23 [(1, 282), (0, x1), (9, 0), (9, 0), (9, 0)] [(0, 0)] h) rfl ?_
          simp only [c2, true_or, false_or, or_true, or_false, true_and, false_and, and_true, and_false, not_true_eq_false, not_false_eq_true, ne_eq, if_true, if_false, ↓reduceIte]
        · refine (if_neg c2).trans ?_
          refine (rn_iconst (pc := 18) (dd bX13_join dX13_join_18) (by decide)).trans ?_
          refine (rn_goto (t := 23) (pc := 19) (dd bX13_join dX13_join_19) rfl).trans ?_
          refine Eq.trans (b := vrun mX13_join 23 [(1, 282), (0, x1), (9, 0), (9, 0), (9, 0)] [(0, 1)] h) rfl ?_
          simp only [c2, true_or, false_or, or_true, or_false, true_and, false_and, and_true, and_false, not_true_eq_false, not_false_eq_true, ne_eq, if_true, if_false, ↓reduceIte]
      refine e1.trans ?_
      refine Eq.trans (b := vrun mX13_join 23 [(1, 282), (0, x1), (9, 0), (9, 0), (9, 0)] [(0, (if ¬ (fX13_isLine h (x1 + 1) = 0) then 1 else 0))] h) rfl ?_
      simp only [c1, true_or, false_or, or_true, or_false, true_and, false_and, and_true, and_false, not_true_eq_false, not_false_eq_true, ne_eq, if_true, if_false, ↓reduceIte]
  refine e2.trans ?_
  refine (rn_istore_n (pc := 23) (dd bX13_join dX13_join_23) (Nat.le_of_ble_eq_true rfl) rfl).trans ?_
  refine (rn_aload_n (pc := 24) (dd bX13_join dX13_join_24) rfl).trans ?_
  refine (rn_iload_n (pc := 25) (dd bX13_join dX13_join_25) rfl).trans ?_
  have e4 : vrun mX13_join 26 [(1, 282), (0, x1), (0, (if ¬ (fX13_isLine h x1 = 0) ∧ ¬ (fX13_isLine h (x1 + 1) = 0) then 1 else 0)), (9, 0), (9, 0)] [(0, (if ¬ (fX13_isLine h x1 = 0) ∧ ¬ (fX13_isLine h (x1 + 1) = 0) then 1 else 0)), (1, 282)] h = vrun mX13_join 58 [(1, 282), (0, x1), (0, (if ¬ (fX13_isLine h x1 = 0) ∧ ¬ (fX13_isLine h (x1 + 1) = 0) then 1 else 0)), (9, 0), (9, 0)] [(0, (if ¬ (fX13_isLine h x1 = 0) ∧ ¬ (fX13_isLine h (x1 + 1) = 0) then (if h 2 284 x1 + h 2 284 (x1 + 1) ≤ 80 then 0 else 2) else 1)), (1, 282)] h := by
    refine (rg_bne (t := 33) (pc := 26) (dd bX13_join dX13_join_26) rfl).trans ?_
    by_cases c3 : ¬ (fX13_isLine h x1 = 0) ∧ ¬ (fX13_isLine h (x1 + 1) = 0)
    · refine (if_pos c3).trans ?_
      refine (rn_aload_n (pc := 33) (dd bX13_join dX13_join_33) rfl).trans ?_
      refine (rg_gf (pc := 34) (dd bX13_join dX13_join_34) (ci := 14) (j := 2) rfl rfl (key := 1502) rfl (kc := 34) rfl s1.1 s1.2.2.2.2.1).trans ?_
      refine (rn_iload_n (pc := 37) (dd bX13_join dX13_join_37) rfl).trans ?_
      refine (rg_iaload (pc := 38) (dd bX13_join dX13_join_38) s1.2.2.2.2.2.1 s1.2.2.2.2.2.2.1 (p6 c3) (p7 c3) rfl).trans ?_
      refine (rn_aload_n (pc := 39) (dd bX13_join dX13_join_39) rfl).trans ?_
      refine (rg_gf (pc := 40) (dd bX13_join dX13_join_40) (ci := 14) (j := 2) rfl rfl (key := 1502) rfl (kc := 34) rfl s1.1 s1.2.2.2.2.1).trans ?_
      refine (rn_iload_n (pc := 43) (dd bX13_join dX13_join_43) rfl).trans ?_
      refine (rn_iconst (pc := 44) (dd bX13_join dX13_join_44) (by decide)).trans ?_
      refine (rg_iadd (pc := 45) (dd bX13_join dX13_join_45) (by have z0 := p6 c3; have z1 := p7 c3; omega) (by have z0 := p6 c3; have z1 := p7 c3; omega)).trans ?_
      refine (rg_iaload (pc := 46) (dd bX13_join dX13_join_46) s1.2.2.2.2.2.1 s1.2.2.2.2.2.2.1 (by have z0 := p6 c3; have z1 := p7 c3; omega) (p8 c3) rfl).trans ?_
      refine (rg_iadd (pc := 47) (dd bX13_join dX13_join_47) (p9 c3) (p10 c3)).trans ?_
      refine (rn_bipush (pc := 48) (dd bX13_join dX13_join_48) (by decide)).trans ?_
      have e3 : vrun mX13_join 50 [(1, 282), (0, x1), (0, (if ¬ (fX13_isLine h x1 = 0) ∧ ¬ (fX13_isLine h (x1 + 1) = 0) then 1 else 0)), (9, 0), (9, 0)] [(0, 80), (0, h 2 284 x1 + h 2 284 (x1 + 1)), (1, 282)] h = vrun mX13_join 58 [(1, 282), (0, x1), (0, (if ¬ (fX13_isLine h x1 = 0) ∧ ¬ (fX13_isLine h (x1 + 1) = 0) then 1 else 0)), (9, 0), (9, 0)] [(0, (if h 2 284 x1 + h 2 284 (x1 + 1) ≤ 80 then 0 else 2)), (1, 282)] h := by
        refine (rn_icmp_le (t := 57) (pc := 50) (dd bX13_join dX13_join_50) rfl).trans ?_
        by_cases c4 : h 2 284 x1 + h 2 284 (x1 + 1) ≤ 80
        · refine (if_pos c4).trans ?_
          refine (rn_iconst (pc := 57) (dd bX13_join dX13_join_57) (by decide)).trans ?_
          refine Eq.trans (b := vrun mX13_join 58 [(1, 282), (0, x1), (0, (if ¬ (fX13_isLine h x1 = 0) ∧ ¬ (fX13_isLine h (x1 + 1) = 0) then 1 else 0)), (9, 0), (9, 0)] [(0, 0), (1, 282)] h) rfl ?_
          simp only [if_pos c4]
        · refine (if_neg c4).trans ?_
          refine (rn_iconst (pc := 53) (dd bX13_join dX13_join_53) (by decide)).trans ?_
          refine (rn_goto (t := 58) (pc := 54) (dd bX13_join dX13_join_54) rfl).trans ?_
          refine Eq.trans (b := vrun mX13_join 58 [(1, 282), (0, x1), (0, (if ¬ (fX13_isLine h x1 = 0) ∧ ¬ (fX13_isLine h (x1 + 1) = 0) then 1 else 0)), (9, 0), (9, 0)] [(0, 2), (1, 282)] h) rfl ?_
          simp only [if_neg c4]
      refine e3.trans ?_
      refine Eq.trans (b := vrun mX13_join 58 [(1, 282), (0, x1), (0, (if ¬ (fX13_isLine h x1 = 0) ∧ ¬ (fX13_isLine h (x1 + 1) = 0) then 1 else 0)), (9, 0), (9, 0)] [(0, (if h 2 284 x1 + h 2 284 (x1 + 1) ≤ 80 then 0 else 2)), (1, 282)] h) rfl ?_
      simp only [if_pos c3]
    · refine (if_neg c3).trans ?_
      refine (rn_iconst (pc := 29) (dd bX13_join dX13_join_29) (by decide)).trans ?_
      refine (rn_goto (t := 58) (pc := 30) (dd bX13_join dX13_join_30) rfl).trans ?_
      refine Eq.trans (b := vrun mX13_join 58 [(1, 282), (0, x1), (0, (if ¬ (fX13_isLine h x1 = 0) ∧ ¬ (fX13_isLine h (x1 + 1) = 0) then 1 else 0)), (9, 0), (9, 0)] [(0, 1), (1, 282)] h) rfl ?_
      simp only [if_neg c3]
  refine e4.trans ?_
  exact rg_virtual (pc := 58) (dd bX13_join dX13_join_58) rfl rfl (by decide) (kc := 34) rfl s1.1 (as := [(1, 282), (0, (if ¬ (fX13_isLine h x1 = 0) ∧ ¬ (fX13_isLine h (x1 + 1) = 0) then (if h 2 284 x1 + h 2 284 (x1 + 1) ≤ 80 then 0 else 2) else 1))]) rfl ⟨Nat.le_of_ble_eq_true rfl, Nat.le_of_ble_eq_true rfl, Nat.le_of_ble_eq_true rfl, Nat.le_of_ble_eq_true rfl⟩
theorem rX13_join_61 {x1 : Int} {x2 : Int} {y0 : Int} {h : vH} (s1 : shModel h) (p2 : ¬ (y0 = 0) → 0 ≤ x1) (p3 : ¬ (y0 = 0) → x1 < 60) : vrun mX13_join 61 [(1, 282), (0, x1), (0, x2), (9, 0), (9, 0)] [(0, y0)] h = if y0 = 0 then some (.inl (some (0, 0)), h) else vrun mX13_join 76 [(1, 282), (0, x1), (0, x2), (0, h 2 284 x1), (0, 0)] [] h := by
  refine (rg_if_ne (t := 66) (pc := 61) (dd bX13_join dX13_join_61) rfl).trans (itec (fun c1 => ?_) (fun c1 => ?_))
  · refine (rn_iconst (pc := 64) (dd bX13_join dX13_join_64) (by decide)).trans ?_
    exact rn_ireturn (pc := 65) (dd bX13_join dX13_join_65) (Or.inl rfl)
  · refine (rn_aload_n (pc := 66) (dd bX13_join dX13_join_66) rfl).trans ?_
    refine (rg_gf (pc := 67) (dd bX13_join dX13_join_67) (ci := 14) (j := 2) rfl rfl (key := 1502) rfl (kc := 34) rfl s1.1 s1.2.2.2.2.1).trans ?_
    refine (rn_iload_n (pc := 70) (dd bX13_join dX13_join_70) rfl).trans ?_
    refine (rg_iaload (pc := 71) (dd bX13_join dX13_join_71) s1.2.2.2.2.2.1 s1.2.2.2.2.2.2.1 (p2 c1) (p3 c1) rfl).trans ?_
    refine (rn_istore_n (pc := 72) (dd bX13_join dX13_join_72) (Nat.le_of_ble_eq_true rfl) rfl).trans ?_
    refine (rn_iconst (pc := 73) (dd bX13_join dX13_join_73) (by decide)).trans ?_
    refine (rn_istore (pc := 74) (dd bX13_join dX13_join_74) (Nat.le_of_ble_eq_true rfl) rfl).trans ?_
    rfl
theorem rX13_join_76 {x1 : Int} {x2 : Int} {x3 : Int} {x4 : Int} {h : vH} (s1 : shModel h) (p2 : (-2147483648) ≤ x1 + 1) (p3 : x1 + 1 < 2147483648) (p4 : 0 ≤ x1 + 1) (p5 : x1 + 1 < 60) (p6 : h 2 284 (x1 + 1) ≤ x4 → 0 ≤ x1) (p7 : h 2 284 (x1 + 1) ≤ x4 → x1 < 60) (p8 : h 2 284 (x1 + 1) ≤ x4 → (-2147483648) ≤ h 2 284 x1 + h 2 284 (x1 + 1)) (p9 : h 2 284 (x1 + 1) ≤ x4 → h 2 284 x1 + h 2 284 (x1 + 1) < 2147483648) (p10 : h 2 284 (x1 + 1) ≤ x4 → (-2147483648) ≤ h 1504 282 0 - 1) (p11 : h 2 284 (x1 + 1) ≤ x4 → h 1504 282 0 - 1 < 2147483648) (p12 : ¬ (h 2 284 (x1 + 1) ≤ x4) → (-2147483648) ≤ 80 * x1) (p13 : ¬ (h 2 284 (x1 + 1) ≤ x4) → 80 * x1 < 2147483648) (p14 : ¬ (h 2 284 (x1 + 1) ≤ x4) → (-2147483648) ≤ 80 * x1 + x3) (p15 : ¬ (h 2 284 (x1 + 1) ≤ x4) → 80 * x1 + x3 < 2147483648) (p16 : ¬ (h 2 284 (x1 + 1) ≤ x4) → (-2147483648) ≤ 80 * x1 + x3 + x4) (p17 : ¬ (h 2 284 (x1 + 1) ≤ x4) → 80 * x1 + x3 + x4 < 2147483648) (p18 : ¬ (h 2 284 (x1 + 1) ≤ x4) → (-2147483648) ≤ 80 * (x1 + 1)) (p19 : ¬ (h 2 284 (x1 + 1) ≤ x4) → 80 * (x1 + 1) < 2147483648) (p20 : ¬ (h 2 284 (x1 + 1) ≤ x4) → (-2147483648) ≤ 80 * (x1 + 1) + x4) (p21 : ¬ (h 2 284 (x1 + 1) ≤ x4) → 80 * (x1 + 1) + x4 < 2147483648) (p22 : ¬ (h 2 284 (x1 + 1) ≤ x4) → 0 ≤ 80 * (x1 + 1) + x4) (p23 : ¬ (h 2 284 (x1 + 1) ≤ x4) → 80 * (x1 + 1) + x4 < 4800) (p24 : ¬ (h 2 284 (x1 + 1) ≤ x4) → 0 ≤ 80 * x1 + x3 + x4) (p25 : ¬ (h 2 284 (x1 + 1) ≤ x4) → 80 * x1 + x3 + x4 < 4800) (p26 : ¬ (h 2 284 (x1 + 1) ≤ x4) → (-2147483648) ≤ x4 + 1) (p27 : ¬ (h 2 284 (x1 + 1) ≤ x4) → x4 + 1 < 2147483648) : vrun mX13_join 76 [(1, 282), (0, x1), (0, x2), (0, x3), (0, x4)] [] h = if h 2 284 (x1 + 1) ≤ x4 then vrun mX13_join 186 [(1, 282), (0, x1), (0, x2), (0, x3), (0, x1 + 1)] [] (vup (vup (vup h 2 284 x1 (h 2 284 x1 + h 2 284 (x1 + 1))) 2 285 x1 (if ¬ (h 2 285 x1 = 0) ∨ ¬ (h 2 285 (x1 + 1) = 0) then 1 else 0)) 1504 282 0 (h 1504 282 0 - 1)) else vrun mX13_join 76 [(1, 282), (0, x1), (0, x2), (0, x3), (0, x4 + 1)] [] (vup h 2 283 (80 * x1 + x3 + x4) (h 2 283 (80 * (x1 + 1) + x4))) := by
  refine (rn_iload (pc := 76) (dd bX13_join dX13_join_76) rfl).trans ?_
  refine (rn_aload_n (pc := 78) (dd bX13_join dX13_join_78) rfl).trans ?_
  refine (rg_gf (pc := 79) (dd bX13_join dX13_join_79) (ci := 14) (j := 2) rfl rfl (key := 1502) rfl (kc := 34) rfl s1.1 s1.2.2.2.2.1).trans ?_
  refine (rn_iload_n (pc := 82) (dd bX13_join dX13_join_82) rfl).trans ?_
  refine (rn_iconst (pc := 83) (dd bX13_join dX13_join_83) (by decide)).trans ?_
  refine (rg_iadd (pc := 84) (dd bX13_join dX13_join_84) p2 p3).trans ?_
  refine (rg_iaload (pc := 85) (dd bX13_join dX13_join_85) s1.2.2.2.2.2.1 s1.2.2.2.2.2.2.1 p4 p5 rfl).trans ?_
  refine (rn_icmp_ge (t := 123) (pc := 86) (dd bX13_join dX13_join_86) rfl).trans (itec (fun c1 => ?_) (fun c1 => ?_))
  · refine (rn_aload_n (pc := 123) (dd bX13_join dX13_join_123) rfl).trans ?_
    refine (rg_gf (pc := 124) (dd bX13_join dX13_join_124) (ci := 14) (j := 2) rfl rfl (key := 1502) rfl (kc := 34) rfl s1.1 s1.2.2.2.2.1).trans ?_
    refine (rn_iload_n (pc := 127) (dd bX13_join dX13_join_127) rfl).trans ?_
    refine (rn_dup2 (pc := 128) (dd bX13_join dX13_join_128) (by decide)).trans ?_
    refine (rg_iaload (pc := 129) (dd bX13_join dX13_join_129) s1.2.2.2.2.2.1 s1.2.2.2.2.2.2.1 (p6 c1) (p7 c1) rfl).trans ?_
    refine (rn_aload_n (pc := 130) (dd bX13_join dX13_join_130) rfl).trans ?_
    refine (rg_gf (pc := 131) (dd bX13_join dX13_join_131) (ci := 14) (j := 2) rfl rfl (key := 1502) rfl (kc := 34) rfl s1.1 s1.2.2.2.2.1).trans ?_
    refine (rn_iload_n (pc := 134) (dd bX13_join dX13_join_134) rfl).trans ?_
    refine (rn_iconst (pc := 135) (dd bX13_join dX13_join_135) (by decide)).trans ?_
    refine (rg_iadd (pc := 136) (dd bX13_join dX13_join_136) (by have z0 := p6 c1; have z1 := p7 c1; omega) (by have z0 := p6 c1; have z1 := p7 c1; omega)).trans ?_
    refine (rg_iaload (pc := 137) (dd bX13_join dX13_join_137) s1.2.2.2.2.2.1 s1.2.2.2.2.2.2.1 (by have z0 := p6 c1; have z1 := p7 c1; omega) (by have z0 := p6 c1; have z1 := p7 c1; omega) rfl).trans ?_
    refine (rg_iadd (pc := 138) (dd bX13_join dX13_join_138) (p8 c1) (p9 c1)).trans ?_
    refine (rg_iastore (pc := 139) (dd bX13_join dX13_join_139) s1.2.2.2.2.2.1 s1.2.2.2.2.2.2.1 (by have z0 := p6 c1; have z1 := p7 c1; omega) (by have z0 := p6 c1; have z1 := p7 c1; omega)).trans ?_
    refine (rn_aload_n (pc := 140) (dd bX13_join dX13_join_140) rfl).trans ?_
    refine (rg_gf (pc := 141) (dd bX13_join dX13_join_141) (ci := 14) (j := 3) rfl rfl (key := 1503) rfl (kc := 34) rfl ((vup_k (by decide)).trans s1.1) ((vup_k (by decide)).trans s1.2.2.2.2.2.2.2.1)).trans ?_
    refine (rn_iload_n (pc := 144) (dd bX13_join dX13_join_144) rfl).trans ?_
    refine (rn_aload_n (pc := 145) (dd bX13_join dX13_join_145) rfl).trans ?_
    refine (rg_gf (pc := 146) (dd bX13_join dX13_join_146) (ci := 14) (j := 3) rfl rfl (key := 1503) rfl (kc := 34) rfl ((vup_k (by decide)).trans s1.1) ((vup_k (by decide)).trans s1.2.2.2.2.2.2.2.1)).trans ?_
    refine (rn_iload_n (pc := 149) (dd bX13_join dX13_join_149) rfl).trans ?_
    refine (rg_baload (pc := 150) (dd bX13_join dX13_join_150) ((vup_k (by decide)).trans s1.2.2.2.2.2.2.2.2.1) ((vup_k (by decide)).trans s1.2.2.2.2.2.2.2.2.2.1) (by have z0 := p6 c1; have z1 := p7 c1; omega) (by have z0 := p6 c1; have z1 := p7 c1; omega) ((vup_r (by omega)).trans rfl)).trans ?_
    have e2 : vrun mX13_join 151 [(1, 282), (0, x1), (0, x2), (0, x3), (0, x4)] [(0, h 2 285 x1), (0, x1), (1, 285)] (vup h 2 284 x1 (h 2 284 x1 + h 2 284 (x1 + 1))) = vrun mX13_join 170 [(1, 282), (0, x1), (0, x2), (0, x3), (0, x4)] [(0, (if ¬ (h 2 285 x1 = 0) ∨ ¬ (h 2 285 (x1 + 1) = 0) then 1 else 0)), (0, x1), (1, 285)] (vup h 2 284 x1 (h 2 284 x1 + h 2 284 (x1 + 1))) := by
      refine (rg_if_ne (t := 165) (pc := 151) (dd bX13_join dX13_join_151) rfl).trans ?_
      by_cases c2 : h 2 285 x1 = 0
      · refine (if_pos c2).trans ?_
        refine (rn_aload_n (pc := 154) (dd bX13_join dX13_join_154) rfl).trans ?_
        refine (rg_gf (pc := 155) (dd bX13_join dX13_join_155) (ci := 14) (j := 3) rfl rfl (key := 1503) rfl (kc := 34) rfl ((vup_k (by decide)).trans s1.1) ((vup_k (by decide)).trans s1.2.2.2.2.2.2.2.1)).trans ?_
        refine (rn_iload_n (pc := 158) (dd bX13_join dX13_join_158) rfl).trans ?_
        refine (rn_iconst (pc := 159) (dd bX13_join dX13_join_159) (by decide)).trans ?_
        refine (rg_iadd (pc := 160) (dd bX13_join dX13_join_160) (by have z0 := p6 c1; have z1 := p7 c1; omega) (by have z0 := p6 c1; have z1 := p7 c1; omega)).trans ?_
        refine (rg_baload (pc := 161) (dd bX13_join dX13_join_161) ((vup_k (by decide)).trans s1.2.2.2.2.2.2.2.2.1) ((vup_k (by decide)).trans s1.2.2.2.2.2.2.2.2.2.1) (by have z0 := p6 c1; have z1 := p7 c1; omega) (by have z0 := p6 c1; have z1 := p7 c1; omega) ((vup_r (by omega)).trans rfl)).trans ?_
        have e1 : vrun mX13_join 162 [(1, 282), (0, x1), (0, x2), (0, x3), (0, x4)] [(0, h 2 285 (x1 + 1)), (0, x1), (1, 285)] (vup h 2 284 x1 (h 2 284 x1 + h 2 284 (x1 + 1))) = vrun mX13_join 170 [(1, 282), (0, x1), (0, x2), (0, x3), (0, x4)] [(0, (if ¬ (h 2 285 (x1 + 1) = 0) then 1 else 0)), (0, x1), (1, 285)] (vup h 2 284 x1 (h 2 284 x1 + h 2 284 (x1 + 1))) := by
          refine (rn_if_eq (t := 169) (pc := 162) (dd bX13_join dX13_join_162) rfl).trans ?_
          by_cases c3 : h 2 285 (x1 + 1) = 0
          · refine (if_pos c3).trans ?_
            refine (rn_iconst (pc := 169) (dd bX13_join dX13_join_169) (by decide)).trans ?_
            refine Eq.trans (b := vrun mX13_join 170 [(1, 282), (0, x1), (0, x2), (0, x3), (0, x4)] [(0, 0), (0, x1), (1, 285)] (vup h 2 284 x1 (h 2 284 x1 + h 2 284 (x1 + 1)))) rfl ?_
            simp only [c3, true_or, false_or, or_true, or_false, true_and, false_and, and_true, and_false, not_true_eq_false, not_false_eq_true, ne_eq, if_true, if_false, ↓reduceIte]
          · refine (if_neg c3).trans ?_
            refine (rn_iconst (pc := 165) (dd bX13_join dX13_join_165) (by decide)).trans ?_
            refine (rn_goto (t := 170) (pc := 166) (dd bX13_join dX13_join_166) rfl).trans ?_
            refine Eq.trans (b := vrun mX13_join 170 [(1, 282), (0, x1), (0, x2), (0, x3), (0, x4)] [(0, 1), (0, x1), (1, 285)] (vup h 2 284 x1 (h 2 284 x1 + h 2 284 (x1 + 1)))) rfl ?_
            simp only [c3, true_or, false_or, or_true, or_false, true_and, false_and, and_true, and_false, not_true_eq_false, not_false_eq_true, ne_eq, if_true, if_false, ↓reduceIte]
        refine e1.trans ?_
        refine Eq.trans (b := vrun mX13_join 170 [(1, 282), (0, x1), (0, x2), (0, x3), (0, x4)] [(0, (if ¬ (h 2 285 (x1 + 1) = 0) then 1 else 0)), (0, x1), (1, 285)] (vup h 2 284 x1 (h 2 284 x1 + h 2 284 (x1 + 1)))) rfl ?_
        simp only [c2, true_or, false_or, or_true, or_false, true_and, false_and, and_true, and_false, not_true_eq_false, not_false_eq_true, ne_eq, if_true, if_false, ↓reduceIte]
      · refine (if_neg c2).trans ?_
        refine (rn_iconst (pc := 165) (dd bX13_join dX13_join_165) (by decide)).trans ?_
        refine (rn_goto (t := 170) (pc := 166) (dd bX13_join dX13_join_166) rfl).trans ?_
        refine Eq.trans (b := vrun mX13_join 170 [(1, 282), (0, x1), (0, x2), (0, x3), (0, x4)] [(0, 1), (0, x1), (1, 285)] (vup h 2 284 x1 (h 2 284 x1 + h 2 284 (x1 + 1)))) rfl ?_
        simp only [c2, true_or, false_or, or_true, or_false, true_and, false_and, and_true, and_false, not_true_eq_false, not_false_eq_true, ne_eq, if_true, if_false, ↓reduceIte]
    refine e2.trans ?_
    refine (rg_bastore (pc := 170) (dd bX13_join dX13_join_170) ((vup_k (by decide)).trans s1.2.2.2.2.2.2.2.2.1) ((vup_k (by decide)).trans s1.2.2.2.2.2.2.2.2.2.1) (by have z0 := p6 c1; have z1 := p7 c1; omega) (by have z0 := p6 c1; have z1 := p7 c1; omega) b01).trans ?_
    refine (rn_aload_n (pc := 171) (dd bX13_join dX13_join_171) rfl).trans ?_
    refine (rn_dup (pc := 172) (dd bX13_join dX13_join_172) (by decide)).trans ?_
    refine (rg_gf (pc := 173) (dd bX13_join dX13_join_173) (ci := 14) (j := 4) rfl rfl (key := 1504) rfl (kc := 34) rfl ((vup_k (by decide)).trans ((vup_k (by decide)).trans s1.1)) ((vup_k (by decide)).trans ((vup_k (by decide)).trans rfl))).trans ?_
    refine (rn_iconst (pc := 176) (dd bX13_join dX13_join_176) (by decide)).trans ?_
    refine (rg_isub (pc := 177) (dd bX13_join dX13_join_177) (p10 c1) (p11 c1)).trans ?_
    refine (rg_pf (pc := 178) (dd bX13_join dX13_join_178) (ci := 14) (j := 4) rfl (key := 1504) rfl (kc := 34) rfl ((vup_k (by decide)).trans ((vup_k (by decide)).trans s1.1)) rfl (by intro z; cases z) (by decide)).trans ?_
    refine (rn_iload_n (pc := 181) (dd bX13_join dX13_join_181) rfl).trans ?_
    refine (rn_iconst (pc := 182) (dd bX13_join dX13_join_182) (by decide)).trans ?_
    refine (rg_iadd (pc := 183) (dd bX13_join dX13_join_183) (by have z0 := p6 c1; have z1 := p7 c1; omega) (by have z0 := p6 c1; have z1 := p7 c1; omega)).trans ?_
    refine (rn_istore (pc := 184) (dd bX13_join dX13_join_184) (Nat.le_of_ble_eq_true rfl) rfl).trans ?_
    rfl
  · refine (rn_aload_n (pc := 89) (dd bX13_join dX13_join_89) rfl).trans ?_
    refine (rg_gf (pc := 90) (dd bX13_join dX13_join_90) (ci := 14) (j := 1) rfl rfl (key := 1501) rfl (kc := 34) rfl s1.1 s1.2.1).trans ?_
    refine (rn_bipush (pc := 93) (dd bX13_join dX13_join_93) (by decide)).trans ?_
    refine (rn_iload_n (pc := 95) (dd bX13_join dX13_join_95) rfl).trans ?_
    refine (rg_imul (pc := 96) (dd bX13_join dX13_join_96) (p12 c1) (p13 c1)).trans ?_
    refine (rn_iload_n (pc := 97) (dd bX13_join dX13_join_97) rfl).trans ?_
    refine (rg_iadd (pc := 98) (dd bX13_join dX13_join_98) (p14 c1) (p15 c1)).trans ?_
    refine (rn_iload (pc := 99) (dd bX13_join dX13_join_99) rfl).trans ?_
    refine (rg_iadd (pc := 101) (dd bX13_join dX13_join_101) (p16 c1) (p17 c1)).trans ?_
    refine (rn_aload_n (pc := 102) (dd bX13_join dX13_join_102) rfl).trans ?_
    refine (rg_gf (pc := 103) (dd bX13_join dX13_join_103) (ci := 14) (j := 1) rfl rfl (key := 1501) rfl (kc := 34) rfl s1.1 s1.2.1).trans ?_
    refine (rn_bipush (pc := 106) (dd bX13_join dX13_join_106) (by decide)).trans ?_
    refine (rn_iload_n (pc := 108) (dd bX13_join dX13_join_108) rfl).trans ?_
    refine (rn_iconst (pc := 109) (dd bX13_join dX13_join_109) (by decide)).trans ?_
    refine (rg_iadd (pc := 110) (dd bX13_join dX13_join_110) (by omega) (by omega)).trans ?_
    refine (rg_imul (pc := 111) (dd bX13_join dX13_join_111) (p18 c1) (p19 c1)).trans ?_
    refine (rn_iload (pc := 112) (dd bX13_join dX13_join_112) rfl).trans ?_
    refine (rg_iadd (pc := 114) (dd bX13_join dX13_join_114) (p20 c1) (p21 c1)).trans ?_
    refine (rg_iaload (pc := 115) (dd bX13_join dX13_join_115) s1.2.2.1 s1.2.2.2.1 (p22 c1) (p23 c1) rfl).trans ?_
    refine (rg_iastore (pc := 116) (dd bX13_join dX13_join_116) s1.2.2.1 s1.2.2.2.1 (p24 c1) (p25 c1)).trans ?_
    refine (rg_iinc (pc := 117) (dd bX13_join dX13_join_117) rfl (Nat.le_of_ble_eq_true rfl) (p26 c1) (p27 c1) rfl).trans ?_
    refine (rn_goto (t := 76) (pc := 120) (dd bX13_join dX13_join_120) rfl).trans ?_
    rfl
theorem rX13_join_186 {x1 : Int} {x2 : Int} {x3 : Int} {x4 : Int} {h : vH} (s1 : shModel h) (p2 : ¬ (h 1504 282 0 ≤ x4) → (-2147483648) ≤ x4 + 1) (p3 : ¬ (h 1504 282 0 ≤ x4) → x4 + 1 < 2147483648) : vrun mX13_join 186 [(1, 282), (0, x1), (0, x2), (0, x3), (0, x4)] [] h = if h 1504 282 0 ≤ x4 then vret vrun mX13_join 214 [(1, 282), (0, x1), (0, x2), (0, x3), (0, x4)] [] (vcl mX13_joinsLayers [(1, 282), (0, x1), (0, x3)] h) else vret vrun mX13_join 202 [(1, 282), (0, x1), (0, x2), (0, x3), (0, x4)] [] (vcl mX13_copiesLine [(1, 282), (0, x4 + 1), (0, x4)] h) := by
  refine (rn_iload (pc := 186) (dd bX13_join dX13_join_186) rfl).trans ?_
  refine (rn_aload_n (pc := 188) (dd bX13_join dX13_join_188) rfl).trans ?_
  refine (rg_gf (pc := 189) (dd bX13_join dX13_join_189) (ci := 14) (j := 4) rfl rfl (key := 1504) rfl (kc := 34) rfl s1.1 rfl).trans ?_
  refine (rn_icmp_ge (t := 211) (pc := 192) (dd bX13_join dX13_join_192) rfl).trans (itec (fun c1 => ?_) (fun c1 => ?_))
  · refine (rn_aload_n (pc := 211) (dd bX13_join dX13_join_211) rfl).trans ?_
    refine (rn_iload_n (pc := 212) (dd bX13_join dX13_join_212) rfl).trans ?_
    refine (rn_iload_n (pc := 213) (dd bX13_join dX13_join_213) rfl).trans ?_
    exact rg_virtual (pc := 214) (dd bX13_join dX13_join_214) rfl rfl (by decide) (kc := 34) rfl s1.1 (as := [(1, 282), (0, x1), (0, x3)]) rfl ⟨Nat.le_of_ble_eq_true rfl, Nat.le_of_ble_eq_true rfl, Nat.le_of_ble_eq_true rfl, Nat.le_of_ble_eq_true rfl⟩
  · refine (rn_aload_n (pc := 195) (dd bX13_join dX13_join_195) rfl).trans ?_
    refine (rn_iload (pc := 196) (dd bX13_join dX13_join_196) rfl).trans ?_
    refine (rn_iconst (pc := 198) (dd bX13_join dX13_join_198) (by decide)).trans ?_
    refine (rg_iadd (pc := 199) (dd bX13_join dX13_join_199) (p2 c1) (p3 c1)).trans ?_
    refine (rn_iload (pc := 200) (dd bX13_join dX13_join_200) rfl).trans ?_
    exact rg_virtual (pc := 202) (dd bX13_join dX13_join_202) rfl rfl (by decide) (kc := 34) rfl s1.1 (as := [(1, 282), (0, x4 + 1), (0, x4)]) rfl ⟨Nat.le_of_ble_eq_true rfl, Nat.le_of_ble_eq_true rfl, Nat.le_of_ble_eq_true rfl, Nat.le_of_ble_eq_true rfl⟩
theorem rX13_join_217 {x1 : Int} {x2 : Int} {x3 : Int} {x4 : Int} {h : vH} (s1 : shModel h) (p2 : 0 ≤ x1) (p3 : x1 < 60) : vrun mX13_join 217 [(1, 282), (0, x1), (0, x2), (0, x3), (0, x4)] [] h = some (.inl (some (0, h 2 284 x1)), h) := by
  refine (rn_aload_n (pc := 217) (dd bX13_join dX13_join_217) rfl).trans ?_
  refine (rg_gf (pc := 218) (dd bX13_join dX13_join_218) (ci := 14) (j := 2) rfl rfl (key := 1502) rfl (kc := 34) rfl s1.1 s1.2.2.2.2.1).trans ?_
  refine (rn_iload_n (pc := 221) (dd bX13_join dX13_join_221) rfl).trans ?_
  refine (rg_iaload (pc := 222) (dd bX13_join dX13_join_222) s1.2.2.2.2.2.1 s1.2.2.2.2.2.2.1 p2 p3 rfl).trans ?_
  exact rn_ireturn (pc := 223) (dd bX13_join dX13_join_223) (Or.inl rfl)
theorem rX13_join_205 {x1 : Int} {x2 : Int} {x3 : Int} {x4 : Int} {h : vH} (p1 : (-2147483648) ≤ x4 + 1) (p2 : x4 + 1 < 2147483648) : vrun mX13_join 205 [(1, 282), (0, x1), (0, x2), (0, x3), (0, x4)] [] h = vrun mX13_join 186 [(1, 282), (0, x1), (0, x2), (0, x3), (0, x4 + 1)] [] h := by
  refine (rg_iinc (pc := 205) (dd bX13_join dX13_join_205) rfl (Nat.le_of_ble_eq_true rfl) p1 p2 rfl).trans ?_
  refine (rn_goto (t := 186) (pc := 208) (dd bX13_join dX13_join_208) rfl).trans ?_
  rfl
theorem bX13_setMark : vmB mX13_setMark = cX13_setMark := rfl
theorem rX13_setMark_0 {x1 : Int} {x2 : Int} {h : vH} (s1 : shModel h) (p2 : (-2147483648) ≤ h 1504 282 0 - 1) (p3 : h 1504 282 0 - 1 < 2147483648) : vrun mX13_setMark 0 [(1, 282), (0, x1), (0, x2), (9, 0)] [] h = vret vrun mX13_setMark 14 [(1, 282), (0, x1), (0, x2), (9, 0)] [] (vcl mX13_isFine [(1, 282), (0, (if fX13_isLine h x1 = 0 then 1 else 0))] h) := by
  refine (rn_aload_n (pc := 0) (dd bX13_setMark dX13_setMark_0) rfl).trans ?_
  refine (rn_aload_n (pc := 1) (dd bX13_setMark dX13_setMark_1) rfl).trans ?_
  refine (rn_iload_n (pc := 2) (dd bX13_setMark dX13_setMark_2) rfl).trans ?_
  refine (rg_virtual (pc := 3) (dd bX13_setMark dX13_setMark_3) rfl rfl (by decide) (kc := 34) rfl s1.1 (as := [(1, 282), (0, x1)]) rfl ⟨Nat.le_of_ble_eq_true rfl, Nat.le_of_ble_eq_true rfl, Nat.le_of_ble_eq_true rfl, Nat.le_of_ble_eq_true rfl⟩).trans ?_
  refine (vret_v (spX13_isLine s1 p2 p3)).trans ?_
  have e1 : vrun mX13_setMark 6 [(1, 282), (0, x1), (0, x2), (9, 0)] [(0, fX13_isLine h x1), (1, 282)] h = vrun mX13_setMark 14 [(1, 282), (0, x1), (0, x2), (9, 0)] [(0, (if fX13_isLine h x1 = 0 then 1 else 0)), (1, 282)] h := by
    refine (rn_if_eq (t := 13) (pc := 6) (dd bX13_setMark dX13_setMark_6) rfl).trans ?_
    by_cases c1 : fX13_isLine h x1 = 0
    · refine (if_pos c1).trans ?_
      refine (rn_iconst (pc := 13) (dd bX13_setMark dX13_setMark_13) (by decide)).trans ?_
      refine Eq.trans (b := vrun mX13_setMark 14 [(1, 282), (0, x1), (0, x2), (9, 0)] [(0, 1), (1, 282)] h) rfl ?_
      simp only [c1, true_or, false_or, or_true, or_false, true_and, false_and, and_true, and_false, not_true_eq_false, not_false_eq_true, ne_eq, if_true, if_false, ↓reduceIte]
    · refine (if_neg c1).trans ?_
      refine (rn_iconst (pc := 9) (dd bX13_setMark dX13_setMark_9) (by decide)).trans ?_
      refine (rn_goto (t := 14) (pc := 10) (dd bX13_setMark dX13_setMark_10) rfl).trans ?_
      refine Eq.trans (b := vrun mX13_setMark 14 [(1, 282), (0, x1), (0, x2), (9, 0)] [(0, 0), (1, 282)] h) rfl ?_
      simp only [c1, true_or, false_or, or_true, or_false, true_and, false_and, and_true, and_false, not_true_eq_false, not_false_eq_true, ne_eq, if_true, if_false, ↓reduceIte]
  refine e1.trans ?_
  exact rg_virtual (pc := 14) (dd bX13_setMark dX13_setMark_14) rfl rfl (by decide) (kc := 34) rfl s1.1 (as := [(1, 282), (0, (if fX13_isLine h x1 = 0 then 1 else 0))]) rfl ⟨Nat.le_of_ble_eq_true rfl, Nat.le_of_ble_eq_true rfl, Nat.le_of_ble_eq_true rfl, Nat.le_of_ble_eq_true rfl⟩
theorem rX13_setMark_17 {x1 : Int} {x2 : Int} {y0 : Int} {h : vH} (s1 : shModel h) (p2 : ¬ (y0 = 0) → 0 ≤ x1) (p3 : ¬ (y0 = 0) → x1 < 60) (p4 : ¬ (y0 = 0) → x2 = 0 ∨ x2 = 1) (p5 : ¬ (y0 = 0) → h 2 285 x1 = 0 ∨ h 2 285 x1 = 1) : vrun mX13_setMark 17 [(1, 282), (0, x1), (0, x2), (9, 0)] [(0, y0)] h = if y0 = 0 then some (.inl (some (0, 0)), h) else some (.inl (some (0, h 2 285 x1)), vup h 2 285 x1 x2) := by
  refine (rg_if_ne (t := 22) (pc := 17) (dd bX13_setMark dX13_setMark_17) rfl).trans (itec (fun c1 => ?_) (fun c1 => ?_))
  · refine (rn_iconst (pc := 20) (dd bX13_setMark dX13_setMark_20) (by decide)).trans ?_
    exact rn_ireturn (pc := 21) (dd bX13_setMark dX13_setMark_21) (Or.inr ⟨rfl, (by decide)⟩)
  · refine (rn_aload_n (pc := 22) (dd bX13_setMark dX13_setMark_22) rfl).trans ?_
    refine (rg_gf (pc := 23) (dd bX13_setMark dX13_setMark_23) (ci := 14) (j := 3) rfl rfl (key := 1503) rfl (kc := 34) rfl s1.1 s1.2.2.2.2.2.2.2.1).trans ?_
    refine (rn_iload_n (pc := 26) (dd bX13_setMark dX13_setMark_26) rfl).trans ?_
    refine (rg_baload (pc := 27) (dd bX13_setMark dX13_setMark_27) s1.2.2.2.2.2.2.2.2.1 s1.2.2.2.2.2.2.2.2.2.1 (p2 c1) (p3 c1) rfl).trans ?_
    refine (rn_istore_n (pc := 28) (dd bX13_setMark dX13_setMark_28) (Nat.le_of_ble_eq_true rfl) rfl).trans ?_
    refine (rn_aload_n (pc := 29) (dd bX13_setMark dX13_setMark_29) rfl).trans ?_
    refine (rg_gf (pc := 30) (dd bX13_setMark dX13_setMark_30) (ci := 14) (j := 3) rfl rfl (key := 1503) rfl (kc := 34) rfl s1.1 s1.2.2.2.2.2.2.2.1).trans ?_
    refine (rn_iload_n (pc := 33) (dd bX13_setMark dX13_setMark_33) rfl).trans ?_
    refine (rn_iload_n (pc := 34) (dd bX13_setMark dX13_setMark_34) rfl).trans ?_
    refine (rg_bastore (pc := 35) (dd bX13_setMark dX13_setMark_35) s1.2.2.2.2.2.2.2.2.1 s1.2.2.2.2.2.2.2.2.2.1 (by have z0 := p2 c1; have z1 := p3 c1; omega) (by have z0 := p2 c1; have z1 := p3 c1; omega) (p4 c1)).trans ?_
    refine (rn_iload_n (pc := 36) (dd bX13_setMark dX13_setMark_36) rfl).trans ?_
    exact rn_ireturn (pc := 37) (dd bX13_setMark dX13_setMark_37) (Or.inr ⟨rfl, (p5 c1)⟩)
theorem bX13_isPane : vmB mX13_isPane = cX13_isPane := rfl
theorem rX13_isPane_0 {x0 : Int} {h : vH} : vrun mX13_isPane 0 [(0, x0)] [] h = some (.inl (some (0, (if ¬ (x0 < 0) ∧ ¬ (3 < x0) then 1 else 0))), h) := by
  refine (rn_iload_n (pc := 0) (dd bX13_isPane dX13_isPane_0) rfl).trans ?_
  refine (rn_iconst (pc := 1) (dd bX13_isPane dX13_isPane_1) (by decide)).trans ?_
  refine (rn_iconst (pc := 2) (dd bX13_isPane dX13_isPane_2) (by decide)).trans ?_
  refine (rg_static (pc := 3) (dd bX13_isPane dX13_isPane_3) rfl (by decide) (Nat.le_of_ble_eq_true rfl) (as := [(0, x0), (0, 0), (0, 3)]) rfl rfl ⟨Nat.le_of_ble_eq_true rfl, Nat.le_of_ble_eq_true rfl, Nat.le_of_ble_eq_true rfl, Nat.le_of_ble_eq_true rfl⟩).trans ?_
  refine (vret_v spX13_isIn).trans ?_
  exact rn_ireturn (pc := 6) (dd bX13_isPane dX13_isPane_6) (Or.inr ⟨rfl, b01⟩)
theorem spX13_isPane {x0 : Int} {h : vH} : vcl mX13_isPane [(0, x0)] h = some (.inl (some (0, (if ¬ (x0 < 0) ∧ ¬ (3 < x0) then 1 else 0))), h) := by
  refine (show _ = _ from rX13_isPane_0).trans ?_
  rfl
theorem bX13_shape : vmB mX13_shape = cX13_shape := rfl
theorem rX13_shape_0 {x1 : Int} {x2 : Int} {x3 : Int} {x4 : Int} {h : vH} (s1 : shModel h) : vrun mX13_shape 0 [(1, 282), (0, x1), (0, x2), (0, x3), (0, x4), (9, 0)] [] h = vret vrun mX13_shape 59 [(1, 282), (0, x1), (0, x2), (0, x3), (0, x4), (0, (if (¬ (x2 < 10) ∧ ¬ (40 < x2)) ∧ (¬ (x3 < 0) ∧ ¬ (4 < x3)) ∧ ¬ (x4 < 0) ∧ ¬ (3 < x4) then 1 else 0))] [] (vcl mX13_isFine [(1, 282), (0, (if ¬ (x1 < 0) ∧ ¬ (3 < x1) then (if (¬ (x2 < 10) ∧ ¬ (40 < x2)) ∧ (¬ (x3 < 0) ∧ ¬ (4 < x3)) ∧ ¬ (x4 < 0) ∧ ¬ (3 < x4) then 0 else 2) else 1))] h) := by
  refine (rn_iload_n (pc := 0) (dd bX13_shape dX13_shape_0) rfl).trans ?_
  refine (rn_bipush (pc := 1) (dd bX13_shape dX13_shape_1) (by decide)).trans ?_
  refine (rn_bipush (pc := 3) (dd bX13_shape dX13_shape_3) (by decide)).trans ?_
  refine (rg_static (pc := 5) (dd bX13_shape dX13_shape_5) rfl (by decide) (Nat.le_of_ble_eq_true rfl) (as := [(0, x2), (0, 10), (0, 40)]) rfl rfl ⟨Nat.le_of_ble_eq_true rfl, Nat.le_of_ble_eq_true rfl, Nat.le_of_ble_eq_true rfl, Nat.le_of_ble_eq_true rfl⟩).trans ?_
  refine (vret_v spX13_isIn).trans ?_
  have e3 : vrun mX13_shape 8 [(1, 282), (0, x1), (0, x2), (0, x3), (0, x4), (9, 0)] [(0, (if ¬ (x2 < 10) ∧ ¬ (40 < x2) then 1 else 0))] h = vrun mX13_shape 35 [(1, 282), (0, x1), (0, x2), (0, x3), (0, x4), (9, 0)] [(0, (if (¬ (x2 < 10) ∧ ¬ (40 < x2)) ∧ (¬ (x3 < 0) ∧ ¬ (4 < x3)) ∧ ¬ (x4 < 0) ∧ ¬ (3 < x4) then 1 else 0))] h := by
    refine (rg_beq (t := 34) (pc := 8) (dd bX13_shape dX13_shape_8) rfl).trans ?_
    by_cases c1 : ¬ (x2 < 10) ∧ ¬ (40 < x2)
    · refine (if_pos c1).trans ?_
      refine (rn_iload_n (pc := 11) (dd bX13_shape dX13_shape_11) rfl).trans ?_
      refine (rn_iconst (pc := 12) (dd bX13_shape dX13_shape_12) (by decide)).trans ?_
      refine (rn_iconst (pc := 13) (dd bX13_shape dX13_shape_13) (by decide)).trans ?_
      refine (rg_static (pc := 14) (dd bX13_shape dX13_shape_14) rfl (by decide) (Nat.le_of_ble_eq_true rfl) (as := [(0, x3), (0, 0), (0, 4)]) rfl rfl ⟨Nat.le_of_ble_eq_true rfl, Nat.le_of_ble_eq_true rfl, Nat.le_of_ble_eq_true rfl, Nat.le_of_ble_eq_true rfl⟩).trans ?_
      refine (vret_v spX13_isIn).trans ?_
      have e2 : vrun mX13_shape 17 [(1, 282), (0, x1), (0, x2), (0, x3), (0, x4), (9, 0)] [(0, (if ¬ (x3 < 0) ∧ ¬ (4 < x3) then 1 else 0))] h = vrun mX13_shape 35 [(1, 282), (0, x1), (0, x2), (0, x3), (0, x4), (9, 0)] [(0, (if (¬ (x3 < 0) ∧ ¬ (4 < x3)) ∧ ¬ (x4 < 0) ∧ ¬ (3 < x4) then 1 else 0))] h := by
        refine (rg_beq (t := 34) (pc := 17) (dd bX13_shape dX13_shape_17) rfl).trans ?_
        by_cases c2 : ¬ (x3 < 0) ∧ ¬ (4 < x3)
        · refine (if_pos c2).trans ?_
          refine (rn_iload (pc := 20) (dd bX13_shape dX13_shape_20) rfl).trans ?_
          refine (rn_iconst (pc := 22) (dd bX13_shape dX13_shape_22) (by decide)).trans ?_
          refine (rn_iconst (pc := 23) (dd bX13_shape dX13_shape_23) (by decide)).trans ?_
          refine (rg_static (pc := 24) (dd bX13_shape dX13_shape_24) rfl (by decide) (Nat.le_of_ble_eq_true rfl) (as := [(0, x4), (0, 0), (0, 3)]) rfl rfl ⟨Nat.le_of_ble_eq_true rfl, Nat.le_of_ble_eq_true rfl, Nat.le_of_ble_eq_true rfl, Nat.le_of_ble_eq_true rfl⟩).trans ?_
          refine (vret_v spX13_isIn).trans ?_
          have e1 : vrun mX13_shape 27 [(1, 282), (0, x1), (0, x2), (0, x3), (0, x4), (9, 0)] [(0, (if ¬ (x4 < 0) ∧ ¬ (3 < x4) then 1 else 0))] h = vrun mX13_shape 35 [(1, 282), (0, x1), (0, x2), (0, x3), (0, x4), (9, 0)] [(0, (if ¬ (x4 < 0) ∧ ¬ (3 < x4) then 1 else 0))] h := by
            refine (rg_beq (t := 34) (pc := 27) (dd bX13_shape dX13_shape_27) rfl).trans ?_
            by_cases c3 : ¬ (x4 < 0) ∧ ¬ (3 < x4)
            · refine (if_pos c3).trans ?_
              refine (rn_iconst (pc := 30) (dd bX13_shape dX13_shape_30) (by decide)).trans ?_
              refine (rn_goto (t := 35) (pc := 31) (dd bX13_shape dX13_shape_31) rfl).trans ?_
              refine Eq.trans (b := vrun mX13_shape 35 [(1, 282), (0, x1), (0, x2), (0, x3), (0, x4), (9, 0)] [(0, 1)] h) rfl ?_
              simp only [c3, true_or, false_or, or_true, or_false, true_and, false_and, and_true, and_false, not_true_eq_false, not_false_eq_true, ne_eq, if_true, if_false, ↓reduceIte]
            · refine (if_neg c3).trans ?_
              refine (rn_iconst (pc := 34) (dd bX13_shape dX13_shape_34) (by decide)).trans ?_
              refine Eq.trans (b := vrun mX13_shape 35 [(1, 282), (0, x1), (0, x2), (0, x3), (0, x4), (9, 0)] [(0, 0)] h) rfl ?_
              simp only [c3, true_or, false_or, or_true, or_false, true_and, false_and, and_true, and_false, not_true_eq_false, not_false_eq_true, ne_eq, if_true, if_false, ↓reduceIte]
          refine e1.trans ?_
          refine Eq.trans (b := vrun mX13_shape 35 [(1, 282), (0, x1), (0, x2), (0, x3), (0, x4), (9, 0)] [(0, (if ¬ (x4 < 0) ∧ ¬ (3 < x4) then 1 else 0))] h) rfl ?_
          simp only [c2, true_or, false_or, or_true, or_false, true_and, false_and, and_true, and_false, not_true_eq_false, not_false_eq_true, ne_eq, if_true, if_false, ↓reduceIte]
        · refine (if_neg c2).trans ?_
          refine (rn_iconst (pc := 34) (dd bX13_shape dX13_shape_34) (by decide)).trans ?_
          refine Eq.trans (b := vrun mX13_shape 35 [(1, 282), (0, x1), (0, x2), (0, x3), (0, x4), (9, 0)] [(0, 0)] h) rfl ?_
          simp only [c2, true_or, false_or, or_true, or_false, true_and, false_and, and_true, and_false, not_true_eq_false, not_false_eq_true, ne_eq, if_true, if_false, ↓reduceIte]
      refine e2.trans ?_
      refine Eq.trans (b := vrun mX13_shape 35 [(1, 282), (0, x1), (0, x2), (0, x3), (0, x4), (9, 0)] [(0, (if (¬ (x3 < 0) ∧ ¬ (4 < x3)) ∧ ¬ (x4 < 0) ∧ ¬ (3 < x4) then 1 else 0))] h) rfl ?_
      simp only [c1, true_or, false_or, or_true, or_false, true_and, false_and, and_true, and_false, not_true_eq_false, not_false_eq_true, ne_eq, if_true, if_false, ↓reduceIte]
    · refine (if_neg c1).trans ?_
      refine (rn_iconst (pc := 34) (dd bX13_shape dX13_shape_34) (by decide)).trans ?_
      refine Eq.trans (b := vrun mX13_shape 35 [(1, 282), (0, x1), (0, x2), (0, x3), (0, x4), (9, 0)] [(0, 0)] h) rfl ?_
      simp only [c1, true_or, false_or, or_true, or_false, true_and, false_and, and_true, and_false, not_true_eq_false, not_false_eq_true, ne_eq, if_true, if_false, ↓reduceIte]
  refine e3.trans ?_
  refine (rn_istore (pc := 35) (dd bX13_shape dX13_shape_35) (Nat.le_of_ble_eq_true rfl) rfl).trans ?_
  refine (rn_aload_n (pc := 37) (dd bX13_shape dX13_shape_37) rfl).trans ?_
  refine (rn_iload_n (pc := 38) (dd bX13_shape dX13_shape_38) rfl).trans ?_
  refine (rg_static (pc := 39) (dd bX13_shape dX13_shape_39) rfl (by decide) (Nat.le_of_ble_eq_true rfl) (as := [(0, x1)]) rfl rfl ⟨Nat.le_of_ble_eq_true rfl, Nat.le_of_ble_eq_true rfl, Nat.le_of_ble_eq_true rfl, Nat.le_of_ble_eq_true rfl⟩).trans ?_
  refine (vret_v spX13_isPane).trans ?_
  have e5 : vrun mX13_shape 42 [(1, 282), (0, x1), (0, x2), (0, x3), (0, x4), (0, (if (¬ (x2 < 10) ∧ ¬ (40 < x2)) ∧ (¬ (x3 < 0) ∧ ¬ (4 < x3)) ∧ ¬ (x4 < 0) ∧ ¬ (3 < x4) then 1 else 0))] [(0, (if ¬ (x1 < 0) ∧ ¬ (3 < x1) then 1 else 0)), (1, 282)] h = vrun mX13_shape 59 [(1, 282), (0, x1), (0, x2), (0, x3), (0, x4), (0, (if (¬ (x2 < 10) ∧ ¬ (40 < x2)) ∧ (¬ (x3 < 0) ∧ ¬ (4 < x3)) ∧ ¬ (x4 < 0) ∧ ¬ (3 < x4) then 1 else 0))] [(0, (if ¬ (x1 < 0) ∧ ¬ (3 < x1) then (if (¬ (x2 < 10) ∧ ¬ (40 < x2)) ∧ (¬ (x3 < 0) ∧ ¬ (4 < x3)) ∧ ¬ (x4 < 0) ∧ ¬ (3 < x4) then 0 else 2) else 1)), (1, 282)] h := by
    refine (rg_bne (t := 49) (pc := 42) (dd bX13_shape dX13_shape_42) rfl).trans ?_
    by_cases c4 : ¬ (x1 < 0) ∧ ¬ (3 < x1)
    · refine (if_pos c4).trans ?_
      refine (rn_iload (pc := 49) (dd bX13_shape dX13_shape_49) rfl).trans ?_
      have e4 : vrun mX13_shape 51 [(1, 282), (0, x1), (0, x2), (0, x3), (0, x4), (0, (if (¬ (x2 < 10) ∧ ¬ (40 < x2)) ∧ (¬ (x3 < 0) ∧ ¬ (4 < x3)) ∧ ¬ (x4 < 0) ∧ ¬ (3 < x4) then 1 else 0))] [(0, (if (¬ (x2 < 10) ∧ ¬ (40 < x2)) ∧ (¬ (x3 < 0) ∧ ¬ (4 < x3)) ∧ ¬ (x4 < 0) ∧ ¬ (3 < x4) then 1 else 0)), (1, 282)] h = vrun mX13_shape 59 [(1, 282), (0, x1), (0, x2), (0, x3), (0, x4), (0, (if (¬ (x2 < 10) ∧ ¬ (40 < x2)) ∧ (¬ (x3 < 0) ∧ ¬ (4 < x3)) ∧ ¬ (x4 < 0) ∧ ¬ (3 < x4) then 1 else 0))] [(0, (if (¬ (x2 < 10) ∧ ¬ (40 < x2)) ∧ (¬ (x3 < 0) ∧ ¬ (4 < x3)) ∧ ¬ (x4 < 0) ∧ ¬ (3 < x4) then 0 else 2)), (1, 282)] h := by
        refine (rg_bne (t := 58) (pc := 51) (dd bX13_shape dX13_shape_51) rfl).trans ?_
        by_cases c5 : (¬ (x2 < 10) ∧ ¬ (40 < x2)) ∧ (¬ (x3 < 0) ∧ ¬ (4 < x3)) ∧ ¬ (x4 < 0) ∧ ¬ (3 < x4)
        · refine (if_pos c5).trans ?_
          refine (rn_iconst (pc := 58) (dd bX13_shape dX13_shape_58) (by decide)).trans ?_
          refine Eq.trans (b := vrun mX13_shape 59 [(1, 282), (0, x1), (0, x2), (0, x3), (0, x4), (0, (if (¬ (x2 < 10) ∧ ¬ (40 < x2)) ∧ (¬ (x3 < 0) ∧ ¬ (4 < x3)) ∧ ¬ (x4 < 0) ∧ ¬ (3 < x4) then 1 else 0))] [(0, 0), (1, 282)] h) rfl ?_
          simp only [if_pos c5]
        · refine (if_neg c5).trans ?_
          refine (rn_iconst (pc := 54) (dd bX13_shape dX13_shape_54) (by decide)).trans ?_
          refine (rn_goto (t := 59) (pc := 55) (dd bX13_shape dX13_shape_55) rfl).trans ?_
          refine Eq.trans (b := vrun mX13_shape 59 [(1, 282), (0, x1), (0, x2), (0, x3), (0, x4), (0, (if (¬ (x2 < 10) ∧ ¬ (40 < x2)) ∧ (¬ (x3 < 0) ∧ ¬ (4 < x3)) ∧ ¬ (x4 < 0) ∧ ¬ (3 < x4) then 1 else 0))] [(0, 2), (1, 282)] h) rfl ?_
          simp only [if_neg c5]
      refine e4.trans ?_
      refine Eq.trans (b := vrun mX13_shape 59 [(1, 282), (0, x1), (0, x2), (0, x3), (0, x4), (0, (if (¬ (x2 < 10) ∧ ¬ (40 < x2)) ∧ (¬ (x3 < 0) ∧ ¬ (4 < x3)) ∧ ¬ (x4 < 0) ∧ ¬ (3 < x4) then 1 else 0))] [(0, (if (¬ (x2 < 10) ∧ ¬ (40 < x2)) ∧ (¬ (x3 < 0) ∧ ¬ (4 < x3)) ∧ ¬ (x4 < 0) ∧ ¬ (3 < x4) then 0 else 2)), (1, 282)] h) rfl ?_
      simp only [if_pos c4]
    · refine (if_neg c4).trans ?_
      refine (rn_iconst (pc := 45) (dd bX13_shape dX13_shape_45) (by decide)).trans ?_
      refine (rn_goto (t := 59) (pc := 46) (dd bX13_shape dX13_shape_46) rfl).trans ?_
      refine Eq.trans (b := vrun mX13_shape 59 [(1, 282), (0, x1), (0, x2), (0, x3), (0, x4), (0, (if (¬ (x2 < 10) ∧ ¬ (40 < x2)) ∧ (¬ (x3 < 0) ∧ ¬ (4 < x3)) ∧ ¬ (x4 < 0) ∧ ¬ (3 < x4) then 1 else 0))] [(0, 1), (1, 282)] h) rfl ?_
      simp only [if_neg c4]
  refine e5.trans ?_
  exact rg_virtual (pc := 59) (dd bX13_shape dX13_shape_59) rfl rfl (by decide) (kc := 34) rfl s1.1 (as := [(1, 282), (0, (if ¬ (x1 < 0) ∧ ¬ (3 < x1) then (if (¬ (x2 < 10) ∧ ¬ (40 < x2)) ∧ (¬ (x3 < 0) ∧ ¬ (4 < x3)) ∧ ¬ (x4 < 0) ∧ ¬ (3 < x4) then 0 else 2) else 1))]) rfl ⟨Nat.le_of_ble_eq_true rfl, Nat.le_of_ble_eq_true rfl, Nat.le_of_ble_eq_true rfl, Nat.le_of_ble_eq_true rfl⟩
theorem rX13_shape_62 {x1 : Int} {x2 : Int} {x3 : Int} {x4 : Int} {x5 : Int} {y0 : Int} {h : vH} (s1 : shModel h) (p2 : ¬ (y0 = 0) → 0 ≤ x1) (p3 : ¬ (y0 = 0) → x1 < 4) : vrun mX13_shape 62 [(1, 282), (0, x1), (0, x2), (0, x3), (0, x4), (0, x5)] [(0, y0)] h = some (.inl none, (if y0 = 0 then h else vup (vup (vup h 2 286 x1 x2) 2 287 x1 x3) 2 288 x1 x4)) := by
  have e1 : vrun mX13_shape 62 [(1, 282), (0, x1), (0, x2), (0, x3), (0, x4), (0, x5)] [(0, y0)] h = vrun mX13_shape 87 [(1, 282), (0, x1), (0, x2), (0, x3), (0, x4), (0, x5)] [] (if y0 = 0 then h else vup (vup (vup h 2 286 x1 x2) 2 287 x1 x3) 2 288 x1 x4) := by
    refine (rn_if_eq (t := 87) (pc := 62) (dd bX13_shape dX13_shape_62) rfl).trans ?_
    by_cases c1 : y0 = 0
    · refine (if_pos c1).trans ?_
      refine Eq.trans (b := vrun mX13_shape 87 [(1, 282), (0, x1), (0, x2), (0, x3), (0, x4), (0, x5)] [] h) rfl ?_
      simp only [if_pos c1]
    · refine (if_neg c1).trans ?_
      refine (rn_aload_n (pc := 65) (dd bX13_shape dX13_shape_65) rfl).trans ?_
      refine (rg_gf (pc := 66) (dd bX13_shape dX13_shape_66) (ci := 14) (j := 5) rfl rfl (key := 1505) rfl (kc := 34) rfl s1.1 s1.2.2.2.2.2.2.2.2.2.2.1).trans ?_
      refine (rn_iload_n (pc := 69) (dd bX13_shape dX13_shape_69) rfl).trans ?_
      refine (rn_iload_n (pc := 70) (dd bX13_shape dX13_shape_70) rfl).trans ?_
      refine (rg_iastore (pc := 71) (dd bX13_shape dX13_shape_71) s1.2.2.2.2.2.2.2.2.2.2.2.1 s1.2.2.2.2.2.2.2.2.2.2.2.2.1 (p2 c1) (p3 c1)).trans ?_
      refine (rn_aload_n (pc := 72) (dd bX13_shape dX13_shape_72) rfl).trans ?_
      refine (rg_gf (pc := 73) (dd bX13_shape dX13_shape_73) (ci := 14) (j := 6) rfl rfl (key := 1506) rfl (kc := 34) rfl ((vup_k (by decide)).trans s1.1) ((vup_k (by decide)).trans s1.2.2.2.2.2.2.2.2.2.2.2.2.2.1)).trans ?_
      refine (rn_iload_n (pc := 76) (dd bX13_shape dX13_shape_76) rfl).trans ?_
      refine (rn_iload_n (pc := 77) (dd bX13_shape dX13_shape_77) rfl).trans ?_
      refine (rg_iastore (pc := 78) (dd bX13_shape dX13_shape_78) ((vup_k (by decide)).trans s1.2.2.2.2.2.2.2.2.2.2.2.2.2.2.1) ((vup_k (by decide)).trans s1.2.2.2.2.2.2.2.2.2.2.2.2.2.2.2.1) (by have z0 := p2 c1; have z1 := p3 c1; omega) (by have z0 := p2 c1; have z1 := p3 c1; omega)).trans ?_
      refine (rn_aload_n (pc := 79) (dd bX13_shape dX13_shape_79) rfl).trans ?_
      refine (rg_gf (pc := 80) (dd bX13_shape dX13_shape_80) (ci := 14) (j := 7) rfl rfl (key := 1507) rfl (kc := 34) rfl ((vup_k (by decide)).trans ((vup_k (by decide)).trans s1.1)) ((vup_k (by decide)).trans ((vup_k (by decide)).trans s1.2.2.2.2.2.2.2.2.2.2.2.2.2.2.2.2.1))).trans ?_
      refine (rn_iload_n (pc := 83) (dd bX13_shape dX13_shape_83) rfl).trans ?_
      refine (rn_iload (pc := 84) (dd bX13_shape dX13_shape_84) rfl).trans ?_
      refine (rg_iastore (pc := 86) (dd bX13_shape dX13_shape_86) ((vup_k (by decide)).trans ((vup_k (by decide)).trans s1.2.2.2.2.2.2.2.2.2.2.2.2.2.2.2.2.2.1)) ((vup_k (by decide)).trans ((vup_k (by decide)).trans s1.2.2.2.2.2.2.2.2.2.2.2.2.2.2.2.2.2.2.1)) (by have z0 := p2 c1; have z1 := p3 c1; omega) (by have z0 := p2 c1; have z1 := p3 c1; omega)).trans ?_
      refine Eq.trans (b := vrun mX13_shape 87 [(1, 282), (0, x1), (0, x2), (0, x3), (0, x4), (0, x5)] [] (vup (vup (vup h 2 286 x1 x2) 2 287 x1 x3) 2 288 x1 x4)) rfl ?_
      simp only [if_neg c1]
  refine e1.trans ?_
  exact rn_return (pc := 87) (dd bX13_shape dX13_shape_87) rfl
theorem bX13_hide : vmB mX13_hide = cX13_hide := rfl
theorem rX13_hide_0 {x1 : Int} {x2 : Int} {x3 : Int} {x4 : Int} {h : vH} (s1 : shModel h) (p2 : ¬ (x1 < 0) ∧ ¬ (3 < x1) → (-2147483648) ≤ h 1504 282 0 - 1) (p3 : ¬ (x1 < 0) ∧ ¬ (3 < x1) → h 1504 282 0 - 1 < 2147483648) (p4 : (¬ (x1 < 0) ∧ ¬ (3 < x1)) ∧ ¬ (fX13_isLine h x2 = 0) → 0 ≤ x2) (p5 : (¬ (x1 < 0) ∧ ¬ (3 < x1)) ∧ ¬ (fX13_isLine h x2 = 0) → x2 < 60) (p6 : (¬ (x1 < 0) ∧ ¬ (3 < x1)) ∧ ¬ (fX13_isLine h x2 = 0) → ¬ (x4 < 1) ∧ ¬ (h 2 284 x2 < x4) → (-2147483648) ≤ x4 - 1) (p7 : (¬ (x1 < 0) ∧ ¬ (3 < x1)) ∧ ¬ (fX13_isLine h x2 = 0) → ¬ (x4 < 1) ∧ ¬ (h 2 284 x2 < x4) → x4 - 1 < 2147483648) (p8 : (¬ (x1 < 0) ∧ ¬ (3 < x1)) ∧ ¬ (fX13_isLine h x2 = 0) → ((¬ (x1 < 0) ∧ ¬ (3 < x1)) ∧ ¬ (fX13_isLine h x2 = 0)) ∧ (¬ (x4 < 1) ∧ ¬ (h 2 284 x2 < x4)) ∧ ¬ (x3 < 0) ∧ ¬ (x4 - 1 < x3) → 0 ≤ x1) (p9 : (¬ (x1 < 0) ∧ ¬ (3 < x1)) ∧ ¬ (fX13_isLine h x2 = 0) → ((¬ (x1 < 0) ∧ ¬ (3 < x1)) ∧ ¬ (fX13_isLine h x2 = 0)) ∧ (¬ (x4 < 1) ∧ ¬ (h 2 284 x2 < x4)) ∧ ¬ (x3 < 0) ∧ ¬ (x4 - 1 < x3) → x1 < 4) : vrun mX13_hide 0 [(1, 282), (0, x1), (0, x2), (0, x3), (0, x4), (9, 0), (9, 0), (9, 0)] [] h = vret vrun mX13_hide 96 [(1, 282), (0, x1), (0, x2), (0, x3), (0, x4), (0, (if (¬ (x1 < 0) ∧ ¬ (3 < x1)) ∧ ¬ (fX13_isLine h x2 = 0) then 1 else 0)), (0, (if ((¬ (x1 < 0) ∧ ¬ (3 < x1)) ∧ ¬ (fX13_isLine h x2 = 0)) ∧ (¬ (x4 < 1) ∧ ¬ (h 2 284 x2 < x4)) ∧ ¬ (x3 < 0) ∧ ¬ (x4 - 1 < x3) then 1 else 0)), (9, 0)] [] (vcl mX13_isFine [(1, 282), (0, (if (¬ (x1 < 0) ∧ ¬ (3 < x1)) ∧ ¬ (fX13_isLine h x2 = 0) then (if ((¬ (x1 < 0) ∧ ¬ (3 < x1)) ∧ ¬ (fX13_isLine h x2 = 0)) ∧ (¬ (x4 < 1) ∧ ¬ (h 2 284 x2 < x4)) ∧ ¬ (x3 < 0) ∧ ¬ (x4 - 1 < x3) then (if h 2 293 x1 = 6 then 3 else 0) else 2) else 1))] h) := by
  refine (rn_iload_n (pc := 0) (dd bX13_hide dX13_hide_0) rfl).trans ?_
  refine (rg_static (pc := 1) (dd bX13_hide dX13_hide_1) rfl (by decide) (Nat.le_of_ble_eq_true rfl) (as := [(0, x1)]) rfl rfl ⟨Nat.le_of_ble_eq_true rfl, Nat.le_of_ble_eq_true rfl, Nat.le_of_ble_eq_true rfl, Nat.le_of_ble_eq_true rfl⟩).trans ?_
  refine (vret_v spX13_isPane).trans ?_
  have e2 : vrun mX13_hide 4 [(1, 282), (0, x1), (0, x2), (0, x3), (0, x4), (9, 0), (9, 0), (9, 0)] [(0, (if ¬ (x1 < 0) ∧ ¬ (3 < x1) then 1 else 0))] h = vrun mX13_hide 20 [(1, 282), (0, x1), (0, x2), (0, x3), (0, x4), (9, 0), (9, 0), (9, 0)] [(0, (if (¬ (x1 < 0) ∧ ¬ (3 < x1)) ∧ ¬ (fX13_isLine h x2 = 0) then 1 else 0))] h := by
    refine (rg_beq (t := 19) (pc := 4) (dd bX13_hide dX13_hide_4) rfl).trans ?_
    by_cases c1 : ¬ (x1 < 0) ∧ ¬ (3 < x1)
    · refine (if_pos c1).trans ?_
      refine (rn_aload_n (pc := 7) (dd bX13_hide dX13_hide_7) rfl).trans ?_
      refine (rn_iload_n (pc := 8) (dd bX13_hide dX13_hide_8) rfl).trans ?_
      refine (rg_virtual (pc := 9) (dd bX13_hide dX13_hide_9) rfl rfl (by decide) (kc := 34) rfl s1.1 (as := [(1, 282), (0, x2)]) rfl ⟨Nat.le_of_ble_eq_true rfl, Nat.le_of_ble_eq_true rfl, Nat.le_of_ble_eq_true rfl, Nat.le_of_ble_eq_true rfl⟩).trans ?_
      refine (vret_v (spX13_isLine s1 (p2 c1) (p3 c1))).trans ?_
      have e1 : vrun mX13_hide 12 [(1, 282), (0, x1), (0, x2), (0, x3), (0, x4), (9, 0), (9, 0), (9, 0)] [(0, fX13_isLine h x2)] h = vrun mX13_hide 20 [(1, 282), (0, x1), (0, x2), (0, x3), (0, x4), (9, 0), (9, 0), (9, 0)] [(0, (if ¬ (fX13_isLine h x2 = 0) then 1 else 0))] h := by
        refine (rn_if_eq (t := 19) (pc := 12) (dd bX13_hide dX13_hide_12) rfl).trans ?_
        by_cases c2 : fX13_isLine h x2 = 0
        · refine (if_pos c2).trans ?_
          refine (rn_iconst (pc := 19) (dd bX13_hide dX13_hide_19) (by decide)).trans ?_
          refine Eq.trans (b := vrun mX13_hide 20 [(1, 282), (0, x1), (0, x2), (0, x3), (0, x4), (9, 0), (9, 0), (9, 0)] [(0, 0)] h) rfl ?_
          simp only [c2, true_or, false_or, or_true, or_false, true_and, false_and, and_true, and_false, not_true_eq_false, not_false_eq_true, ne_eq, if_true, if_false, ↓reduceIte]
        · refine (if_neg c2).trans ?_
          refine (rn_iconst (pc := 15) (dd bX13_hide dX13_hide_15) (by decide)).trans ?_
          refine (rn_goto (t := 20) (pc := 16) (dd bX13_hide dX13_hide_16) rfl).trans ?_
          refine Eq.trans (b := vrun mX13_hide 20 [(1, 282), (0, x1), (0, x2), (0, x3), (0, x4), (9, 0), (9, 0), (9, 0)] [(0, 1)] h) rfl ?_
          simp only [c2, true_or, false_or, or_true, or_false, true_and, false_and, and_true, and_false, not_true_eq_false, not_false_eq_true, ne_eq, if_true, if_false, ↓reduceIte]
      refine e1.trans ?_
      refine Eq.trans (b := vrun mX13_hide 20 [(1, 282), (0, x1), (0, x2), (0, x3), (0, x4), (9, 0), (9, 0), (9, 0)] [(0, (if ¬ (fX13_isLine h x2 = 0) then 1 else 0))] h) rfl ?_
      simp only [c1, true_or, false_or, or_true, or_false, true_and, false_and, and_true, and_false, not_true_eq_false, not_false_eq_true, ne_eq, if_true, if_false, ↓reduceIte]
    · refine (if_neg c1).trans ?_
      refine (rn_iconst (pc := 19) (dd bX13_hide dX13_hide_19) (by decide)).trans ?_
      refine Eq.trans (b := vrun mX13_hide 20 [(1, 282), (0, x1), (0, x2), (0, x3), (0, x4), (9, 0), (9, 0), (9, 0)] [(0, 0)] h) rfl ?_
      simp only [c1, true_or, false_or, or_true, or_false, true_and, false_and, and_true, and_false, not_true_eq_false, not_false_eq_true, ne_eq, if_true, if_false, ↓reduceIte]
  refine e2.trans ?_
  refine (rn_istore (pc := 20) (dd bX13_hide dX13_hide_20) (Nat.le_of_ble_eq_true rfl) rfl).trans ?_
  refine (rn_iload (pc := 22) (dd bX13_hide dX13_hide_22) rfl).trans ?_
  have e5 : vrun mX13_hide 24 [(1, 282), (0, x1), (0, x2), (0, x3), (0, x4), (0, (if (¬ (x1 < 0) ∧ ¬ (3 < x1)) ∧ ¬ (fX13_isLine h x2 = 0) then 1 else 0)), (9, 0), (9, 0)] [(0, (if (¬ (x1 < 0) ∧ ¬ (3 < x1)) ∧ ¬ (fX13_isLine h x2 = 0) then 1 else 0))] h = vrun mX13_hide 59 [(1, 282), (0, x1), (0, x2), (0, x3), (0, x4), (0, (if (¬ (x1 < 0) ∧ ¬ (3 < x1)) ∧ ¬ (fX13_isLine h x2 = 0) then 1 else 0)), (9, 0), (9, 0)] [(0, (if ((¬ (x1 < 0) ∧ ¬ (3 < x1)) ∧ ¬ (fX13_isLine h x2 = 0)) ∧ (¬ (x4 < 1) ∧ ¬ (h 2 284 x2 < x4)) ∧ ¬ (x3 < 0) ∧ ¬ (x4 - 1 < x3) then 1 else 0))] h := by
    refine (rg_beq (t := 58) (pc := 24) (dd bX13_hide dX13_hide_24) rfl).trans ?_
    by_cases c3 : (¬ (x1 < 0) ∧ ¬ (3 < x1)) ∧ ¬ (fX13_isLine h x2 = 0)
    · refine (if_pos c3).trans ?_
      refine (rn_iload (pc := 27) (dd bX13_hide dX13_hide_27) rfl).trans ?_
      refine (rn_iconst (pc := 29) (dd bX13_hide dX13_hide_29) (by decide)).trans ?_
      refine (rn_aload_n (pc := 30) (dd bX13_hide dX13_hide_30) rfl).trans ?_
      refine (rg_gf (pc := 31) (dd bX13_hide dX13_hide_31) (ci := 14) (j := 2) rfl rfl (key := 1502) rfl (kc := 34) rfl s1.1 s1.2.2.2.2.1).trans ?_
      refine (rn_iload_n (pc := 34) (dd bX13_hide dX13_hide_34) rfl).trans ?_
      refine (rg_iaload (pc := 35) (dd bX13_hide dX13_hide_35) s1.2.2.2.2.2.1 s1.2.2.2.2.2.2.1 (p4 c3) (p5 c3) rfl).trans ?_
      refine (rg_static (pc := 36) (dd bX13_hide dX13_hide_36) rfl (by decide) (Nat.le_of_ble_eq_true rfl) (as := [(0, x4), (0, 1), (0, h 2 284 x2)]) rfl rfl ⟨Nat.le_of_ble_eq_true rfl, Nat.le_of_ble_eq_true rfl, Nat.le_of_ble_eq_true rfl, Nat.le_of_ble_eq_true rfl⟩).trans ?_
      refine (vret_v spX13_isIn).trans ?_
      have e4 : vrun mX13_hide 39 [(1, 282), (0, x1), (0, x2), (0, x3), (0, x4), (0, (if (¬ (x1 < 0) ∧ ¬ (3 < x1)) ∧ ¬ (fX13_isLine h x2 = 0) then 1 else 0)), (9, 0), (9, 0)] [(0, (if ¬ (x4 < 1) ∧ ¬ (h 2 284 x2 < x4) then 1 else 0))] h = vrun mX13_hide 59 [(1, 282), (0, x1), (0, x2), (0, x3), (0, x4), (0, (if (¬ (x1 < 0) ∧ ¬ (3 < x1)) ∧ ¬ (fX13_isLine h x2 = 0) then 1 else 0)), (9, 0), (9, 0)] [(0, (if (¬ (x4 < 1) ∧ ¬ (h 2 284 x2 < x4)) ∧ ¬ (x3 < 0) ∧ ¬ (x4 - 1 < x3) then 1 else 0))] h := by
        refine (rg_beq (t := 58) (pc := 39) (dd bX13_hide dX13_hide_39) rfl).trans ?_
        by_cases c4 : ¬ (x4 < 1) ∧ ¬ (h 2 284 x2 < x4)
        · refine (if_pos c4).trans ?_
          refine (rn_iload_n (pc := 42) (dd bX13_hide dX13_hide_42) rfl).trans ?_
          refine (rn_iconst (pc := 43) (dd bX13_hide dX13_hide_43) (by decide)).trans ?_
          refine (rn_iload (pc := 44) (dd bX13_hide dX13_hide_44) rfl).trans ?_
          refine (rn_iconst (pc := 46) (dd bX13_hide dX13_hide_46) (by decide)).trans ?_
          refine (rg_isub (pc := 47) (dd bX13_hide dX13_hide_47) (p6 c3 c4) (p7 c3 c4)).trans ?_
          refine (rg_static (pc := 48) (dd bX13_hide dX13_hide_48) rfl (by decide) (Nat.le_of_ble_eq_true rfl) (as := [(0, x3), (0, 0), (0, x4 - 1)]) rfl rfl ⟨Nat.le_of_ble_eq_true rfl, Nat.le_of_ble_eq_true rfl, Nat.le_of_ble_eq_true rfl, Nat.le_of_ble_eq_true rfl⟩).trans ?_
          refine (vret_v spX13_isIn).trans ?_
          have e3 : vrun mX13_hide 51 [(1, 282), (0, x1), (0, x2), (0, x3), (0, x4), (0, (if (¬ (x1 < 0) ∧ ¬ (3 < x1)) ∧ ¬ (fX13_isLine h x2 = 0) then 1 else 0)), (9, 0), (9, 0)] [(0, (if ¬ (x3 < 0) ∧ ¬ (x4 - 1 < x3) then 1 else 0))] h = vrun mX13_hide 59 [(1, 282), (0, x1), (0, x2), (0, x3), (0, x4), (0, (if (¬ (x1 < 0) ∧ ¬ (3 < x1)) ∧ ¬ (fX13_isLine h x2 = 0) then 1 else 0)), (9, 0), (9, 0)] [(0, (if ¬ (x3 < 0) ∧ ¬ (x4 - 1 < x3) then 1 else 0))] h := by
            refine (rg_beq (t := 58) (pc := 51) (dd bX13_hide dX13_hide_51) rfl).trans ?_
            by_cases c5 : ¬ (x3 < 0) ∧ ¬ (x4 - 1 < x3)
            · refine (if_pos c5).trans ?_
              refine (rn_iconst (pc := 54) (dd bX13_hide dX13_hide_54) (by decide)).trans ?_
              refine (rn_goto (t := 59) (pc := 55) (dd bX13_hide dX13_hide_55) rfl).trans ?_
              refine Eq.trans (b := vrun mX13_hide 59 [(1, 282), (0, x1), (0, x2), (0, x3), (0, x4), (0, (if (¬ (x1 < 0) ∧ ¬ (3 < x1)) ∧ ¬ (fX13_isLine h x2 = 0) then 1 else 0)), (9, 0), (9, 0)] [(0, 1)] h) rfl ?_
              simp only [c5, true_or, false_or, or_true, or_false, true_and, false_and, and_true, and_false, not_true_eq_false, not_false_eq_true, ne_eq, if_true, if_false, ↓reduceIte]
            · refine (if_neg c5).trans ?_
              refine (rn_iconst (pc := 58) (dd bX13_hide dX13_hide_58) (by decide)).trans ?_
              refine Eq.trans (b := vrun mX13_hide 59 [(1, 282), (0, x1), (0, x2), (0, x3), (0, x4), (0, (if (¬ (x1 < 0) ∧ ¬ (3 < x1)) ∧ ¬ (fX13_isLine h x2 = 0) then 1 else 0)), (9, 0), (9, 0)] [(0, 0)] h) rfl ?_
              simp only [c5, true_or, false_or, or_true, or_false, true_and, false_and, and_true, and_false, not_true_eq_false, not_false_eq_true, ne_eq, if_true, if_false, ↓reduceIte]
          refine e3.trans ?_
          refine Eq.trans (b := vrun mX13_hide 59 [(1, 282), (0, x1), (0, x2), (0, x3), (0, x4), (0, (if (¬ (x1 < 0) ∧ ¬ (3 < x1)) ∧ ¬ (fX13_isLine h x2 = 0) then 1 else 0)), (9, 0), (9, 0)] [(0, (if ¬ (x3 < 0) ∧ ¬ (x4 - 1 < x3) then 1 else 0))] h) rfl ?_
          simp only [c4, true_or, false_or, or_true, or_false, true_and, false_and, and_true, and_false, not_true_eq_false, not_false_eq_true, ne_eq, if_true, if_false, ↓reduceIte]
        · refine (if_neg c4).trans ?_
          refine (rn_iconst (pc := 58) (dd bX13_hide dX13_hide_58) (by decide)).trans ?_
          refine Eq.trans (b := vrun mX13_hide 59 [(1, 282), (0, x1), (0, x2), (0, x3), (0, x4), (0, (if (¬ (x1 < 0) ∧ ¬ (3 < x1)) ∧ ¬ (fX13_isLine h x2 = 0) then 1 else 0)), (9, 0), (9, 0)] [(0, 0)] h) rfl ?_
          simp only [c4, true_or, false_or, or_true, or_false, true_and, false_and, and_true, and_false, not_true_eq_false, not_false_eq_true, ne_eq, if_true, if_false, ↓reduceIte]
      refine e4.trans ?_
      refine Eq.trans (b := vrun mX13_hide 59 [(1, 282), (0, x1), (0, x2), (0, x3), (0, x4), (0, (if (¬ (x1 < 0) ∧ ¬ (3 < x1)) ∧ ¬ (fX13_isLine h x2 = 0) then 1 else 0)), (9, 0), (9, 0)] [(0, (if (¬ (x4 < 1) ∧ ¬ (h 2 284 x2 < x4)) ∧ ¬ (x3 < 0) ∧ ¬ (x4 - 1 < x3) then 1 else 0))] h) rfl ?_
      simp only [c3, true_or, false_or, or_true, or_false, true_and, false_and, and_true, and_false, not_true_eq_false, not_false_eq_true, ne_eq, if_true, if_false, ↓reduceIte]
    · refine (if_neg c3).trans ?_
      refine (rn_iconst (pc := 58) (dd bX13_hide dX13_hide_58) (by decide)).trans ?_
      refine Eq.trans (b := vrun mX13_hide 59 [(1, 282), (0, x1), (0, x2), (0, x3), (0, x4), (0, (if (¬ (x1 < 0) ∧ ¬ (3 < x1)) ∧ ¬ (fX13_isLine h x2 = 0) then 1 else 0)), (9, 0), (9, 0)] [(0, 0)] h) rfl ?_
      simp only [c3, true_or, false_or, or_true, or_false, true_and, false_and, and_true, and_false, not_true_eq_false, not_false_eq_true, ne_eq, if_true, if_false, ↓reduceIte]
  refine e5.trans ?_
  refine (rn_istore (pc := 59) (dd bX13_hide dX13_hide_59) (Nat.le_of_ble_eq_true rfl) rfl).trans ?_
  refine (rn_aload_n (pc := 61) (dd bX13_hide dX13_hide_61) rfl).trans ?_
  refine (rn_iload (pc := 62) (dd bX13_hide dX13_hide_62) rfl).trans ?_
  have e8 : vrun mX13_hide 64 [(1, 282), (0, x1), (0, x2), (0, x3), (0, x4), (0, (if (¬ (x1 < 0) ∧ ¬ (3 < x1)) ∧ ¬ (fX13_isLine h x2 = 0) then 1 else 0)), (0, (if ((¬ (x1 < 0) ∧ ¬ (3 < x1)) ∧ ¬ (fX13_isLine h x2 = 0)) ∧ (¬ (x4 < 1) ∧ ¬ (h 2 284 x2 < x4)) ∧ ¬ (x3 < 0) ∧ ¬ (x4 - 1 < x3) then 1 else 0)), (9, 0)] [(0, (if (¬ (x1 < 0) ∧ ¬ (3 < x1)) ∧ ¬ (fX13_isLine h x2 = 0) then 1 else 0)), (1, 282)] h = vrun mX13_hide 96 [(1, 282), (0, x1), (0, x2), (0, x3), (0, x4), (0, (if (¬ (x1 < 0) ∧ ¬ (3 < x1)) ∧ ¬ (fX13_isLine h x2 = 0) then 1 else 0)), (0, (if ((¬ (x1 < 0) ∧ ¬ (3 < x1)) ∧ ¬ (fX13_isLine h x2 = 0)) ∧ (¬ (x4 < 1) ∧ ¬ (h 2 284 x2 < x4)) ∧ ¬ (x3 < 0) ∧ ¬ (x4 - 1 < x3) then 1 else 0)), (9, 0)] [(0, (if (¬ (x1 < 0) ∧ ¬ (3 < x1)) ∧ ¬ (fX13_isLine h x2 = 0) then (if ((¬ (x1 < 0) ∧ ¬ (3 < x1)) ∧ ¬ (fX13_isLine h x2 = 0)) ∧ (¬ (x4 < 1) ∧ ¬ (h 2 284 x2 < x4)) ∧ ¬ (x3 < 0) ∧ ¬ (x4 - 1 < x3) then (if h 2 293 x1 = 6 then 3 else 0) else 2) else 1)), (1, 282)] h := by
    refine (rg_bne (t := 71) (pc := 64) (dd bX13_hide dX13_hide_64) rfl).trans ?_
    by_cases c6 : (¬ (x1 < 0) ∧ ¬ (3 < x1)) ∧ ¬ (fX13_isLine h x2 = 0)
    · refine (if_pos c6).trans ?_
      refine (rn_iload (pc := 71) (dd bX13_hide dX13_hide_71) rfl).trans ?_
      have e7 : vrun mX13_hide 73 [(1, 282), (0, x1), (0, x2), (0, x3), (0, x4), (0, (if (¬ (x1 < 0) ∧ ¬ (3 < x1)) ∧ ¬ (fX13_isLine h x2 = 0) then 1 else 0)), (0, (if ((¬ (x1 < 0) ∧ ¬ (3 < x1)) ∧ ¬ (fX13_isLine h x2 = 0)) ∧ (¬ (x4 < 1) ∧ ¬ (h 2 284 x2 < x4)) ∧ ¬ (x3 < 0) ∧ ¬ (x4 - 1 < x3) then 1 else 0)), (9, 0)] [(0, (if ((¬ (x1 < 0) ∧ ¬ (3 < x1)) ∧ ¬ (fX13_isLine h x2 = 0)) ∧ (¬ (x4 < 1) ∧ ¬ (h 2 284 x2 < x4)) ∧ ¬ (x3 < 0) ∧ ¬ (x4 - 1 < x3) then 1 else 0)), (1, 282)] h = vrun mX13_hide 96 [(1, 282), (0, x1), (0, x2), (0, x3), (0, x4), (0, (if (¬ (x1 < 0) ∧ ¬ (3 < x1)) ∧ ¬ (fX13_isLine h x2 = 0) then 1 else 0)), (0, (if ((¬ (x1 < 0) ∧ ¬ (3 < x1)) ∧ ¬ (fX13_isLine h x2 = 0)) ∧ (¬ (x4 < 1) ∧ ¬ (h 2 284 x2 < x4)) ∧ ¬ (x3 < 0) ∧ ¬ (x4 - 1 < x3) then 1 else 0)), (9, 0)] [(0, (if ((¬ (x1 < 0) ∧ ¬ (3 < x1)) ∧ ¬ (fX13_isLine h x2 = 0)) ∧ (¬ (x4 < 1) ∧ ¬ (h 2 284 x2 < x4)) ∧ ¬ (x3 < 0) ∧ ¬ (x4 - 1 < x3) then (if h 2 293 x1 = 6 then 3 else 0) else 2)), (1, 282)] h := by
        refine (rg_bne (t := 80) (pc := 73) (dd bX13_hide dX13_hide_73) rfl).trans ?_
        by_cases c7 : ((¬ (x1 < 0) ∧ ¬ (3 < x1)) ∧ ¬ (fX13_isLine h x2 = 0)) ∧ (¬ (x4 < 1) ∧ ¬ (h 2 284 x2 < x4)) ∧ ¬ (x3 < 0) ∧ ¬ (x4 - 1 < x3)
        · refine (if_pos c7).trans ?_
          refine (rn_aload_n (pc := 80) (dd bX13_hide dX13_hide_80) rfl).trans ?_
          refine (rg_gf (pc := 81) (dd bX13_hide dX13_hide_81) (ci := 14) (j := 12) rfl rfl (key := 1512) rfl (kc := 34) rfl s1.1 s1.2.2.2.2.2.2.2.2.2.2.2.2.2.2.2.2.2.2.2.2.2.2.2.2.2.2.2.2.2.2.2.1).trans ?_
          refine (rn_iload_n (pc := 84) (dd bX13_hide dX13_hide_84) rfl).trans ?_
          refine (rg_iaload (pc := 85) (dd bX13_hide dX13_hide_85) s1.2.2.2.2.2.2.2.2.2.2.2.2.2.2.2.2.2.2.2.2.2.2.2.2.2.2.2.2.2.2.2.2.1 s1.2.2.2.2.2.2.2.2.2.2.2.2.2.2.2.2.2.2.2.2.2.2.2.2.2.2.2.2.2.2.2.2.2.1 (p8 c6 c7) (p9 c6 c7) rfl).trans ?_
          refine (rn_bipush (pc := 86) (dd bX13_hide dX13_hide_86) (by decide)).trans ?_
          have e6 : vrun mX13_hide 88 [(1, 282), (0, x1), (0, x2), (0, x3), (0, x4), (0, (if (¬ (x1 < 0) ∧ ¬ (3 < x1)) ∧ ¬ (fX13_isLine h x2 = 0) then 1 else 0)), (0, (if ((¬ (x1 < 0) ∧ ¬ (3 < x1)) ∧ ¬ (fX13_isLine h x2 = 0)) ∧ (¬ (x4 < 1) ∧ ¬ (h 2 284 x2 < x4)) ∧ ¬ (x3 < 0) ∧ ¬ (x4 - 1 < x3) then 1 else 0)), (9, 0)] [(0, 6), (0, h 2 293 x1), (1, 282)] h = vrun mX13_hide 96 [(1, 282), (0, x1), (0, x2), (0, x3), (0, x4), (0, (if (¬ (x1 < 0) ∧ ¬ (3 < x1)) ∧ ¬ (fX13_isLine h x2 = 0) then 1 else 0)), (0, (if ((¬ (x1 < 0) ∧ ¬ (3 < x1)) ∧ ¬ (fX13_isLine h x2 = 0)) ∧ (¬ (x4 < 1) ∧ ¬ (h 2 284 x2 < x4)) ∧ ¬ (x3 < 0) ∧ ¬ (x4 - 1 < x3) then 1 else 0)), (9, 0)] [(0, (if h 2 293 x1 = 6 then 3 else 0)), (1, 282)] h := by
            refine (rg_icmp_ne (t := 95) (pc := 88) (dd bX13_hide dX13_hide_88) rfl).trans ?_
            by_cases c8 : h 2 293 x1 = 6
            · refine (if_pos c8).trans ?_
              refine (rn_iconst (pc := 91) (dd bX13_hide dX13_hide_91) (by decide)).trans ?_
              refine (rn_goto (t := 96) (pc := 92) (dd bX13_hide dX13_hide_92) rfl).trans ?_
              refine Eq.trans (b := vrun mX13_hide 96 [(1, 282), (0, x1), (0, x2), (0, x3), (0, x4), (0, (if (¬ (x1 < 0) ∧ ¬ (3 < x1)) ∧ ¬ (fX13_isLine h x2 = 0) then 1 else 0)), (0, (if ((¬ (x1 < 0) ∧ ¬ (3 < x1)) ∧ ¬ (fX13_isLine h x2 = 0)) ∧ (¬ (x4 < 1) ∧ ¬ (h 2 284 x2 < x4)) ∧ ¬ (x3 < 0) ∧ ¬ (x4 - 1 < x3) then 1 else 0)), (9, 0)] [(0, 3), (1, 282)] h) rfl ?_
              simp only [if_pos c8]
            · refine (if_neg c8).trans ?_
              refine (rn_iconst (pc := 95) (dd bX13_hide dX13_hide_95) (by decide)).trans ?_
              refine Eq.trans (b := vrun mX13_hide 96 [(1, 282), (0, x1), (0, x2), (0, x3), (0, x4), (0, (if (¬ (x1 < 0) ∧ ¬ (3 < x1)) ∧ ¬ (fX13_isLine h x2 = 0) then 1 else 0)), (0, (if ((¬ (x1 < 0) ∧ ¬ (3 < x1)) ∧ ¬ (fX13_isLine h x2 = 0)) ∧ (¬ (x4 < 1) ∧ ¬ (h 2 284 x2 < x4)) ∧ ¬ (x3 < 0) ∧ ¬ (x4 - 1 < x3) then 1 else 0)), (9, 0)] [(0, 0), (1, 282)] h) rfl ?_
              simp only [if_neg c8]
          refine e6.trans ?_
          refine Eq.trans (b := vrun mX13_hide 96 [(1, 282), (0, x1), (0, x2), (0, x3), (0, x4), (0, (if (¬ (x1 < 0) ∧ ¬ (3 < x1)) ∧ ¬ (fX13_isLine h x2 = 0) then 1 else 0)), (0, (if ((¬ (x1 < 0) ∧ ¬ (3 < x1)) ∧ ¬ (fX13_isLine h x2 = 0)) ∧ (¬ (x4 < 1) ∧ ¬ (h 2 284 x2 < x4)) ∧ ¬ (x3 < 0) ∧ ¬ (x4 - 1 < x3) then 1 else 0)), (9, 0)] [(0, (if h 2 293 x1 = 6 then 3 else 0)), (1, 282)] h) rfl ?_
          simp only [if_pos c7]
        · refine (if_neg c7).trans ?_
          refine (rn_iconst (pc := 76) (dd bX13_hide dX13_hide_76) (by decide)).trans ?_
          refine (rn_goto (t := 96) (pc := 77) (dd bX13_hide dX13_hide_77) rfl).trans ?_
          refine Eq.trans (b := vrun mX13_hide 96 [(1, 282), (0, x1), (0, x2), (0, x3), (0, x4), (0, (if (¬ (x1 < 0) ∧ ¬ (3 < x1)) ∧ ¬ (fX13_isLine h x2 = 0) then 1 else 0)), (0, (if ((¬ (x1 < 0) ∧ ¬ (3 < x1)) ∧ ¬ (fX13_isLine h x2 = 0)) ∧ (¬ (x4 < 1) ∧ ¬ (h 2 284 x2 < x4)) ∧ ¬ (x3 < 0) ∧ ¬ (x4 - 1 < x3) then 1 else 0)), (9, 0)] [(0, 2), (1, 282)] h) rfl ?_
          simp only [if_neg c7]
      refine e7.trans ?_
      refine Eq.trans (b := vrun mX13_hide 96 [(1, 282), (0, x1), (0, x2), (0, x3), (0, x4), (0, (if (¬ (x1 < 0) ∧ ¬ (3 < x1)) ∧ ¬ (fX13_isLine h x2 = 0) then 1 else 0)), (0, (if ((¬ (x1 < 0) ∧ ¬ (3 < x1)) ∧ ¬ (fX13_isLine h x2 = 0)) ∧ (¬ (x4 < 1) ∧ ¬ (h 2 284 x2 < x4)) ∧ ¬ (x3 < 0) ∧ ¬ (x4 - 1 < x3) then 1 else 0)), (9, 0)] [(0, (if ((¬ (x1 < 0) ∧ ¬ (3 < x1)) ∧ ¬ (fX13_isLine h x2 = 0)) ∧ (¬ (x4 < 1) ∧ ¬ (h 2 284 x2 < x4)) ∧ ¬ (x3 < 0) ∧ ¬ (x4 - 1 < x3) then (if h 2 293 x1 = 6 then 3 else 0) else 2)), (1, 282)] h) rfl ?_
      simp only [if_pos c6]
    · refine (if_neg c6).trans ?_
      refine (rn_iconst (pc := 67) (dd bX13_hide dX13_hide_67) (by decide)).trans ?_
      refine (rn_goto (t := 96) (pc := 68) (dd bX13_hide dX13_hide_68) rfl).trans ?_
      refine Eq.trans (b := vrun mX13_hide 96 [(1, 282), (0, x1), (0, x2), (0, x3), (0, x4), (0, (if (¬ (x1 < 0) ∧ ¬ (3 < x1)) ∧ ¬ (fX13_isLine h x2 = 0) then 1 else 0)), (0, (if ((¬ (x1 < 0) ∧ ¬ (3 < x1)) ∧ ¬ (fX13_isLine h x2 = 0)) ∧ (¬ (x4 < 1) ∧ ¬ (h 2 284 x2 < x4)) ∧ ¬ (x3 < 0) ∧ ¬ (x4 - 1 < x3) then 1 else 0)), (9, 0)] [(0, 1), (1, 282)] h) rfl ?_
      simp only [if_neg c6]
  refine e8.trans ?_
  exact rg_virtual (pc := 96) (dd bX13_hide dX13_hide_96) rfl rfl (by decide) (kc := 34) rfl s1.1 (as := [(1, 282), (0, (if (¬ (x1 < 0) ∧ ¬ (3 < x1)) ∧ ¬ (fX13_isLine h x2 = 0) then (if ((¬ (x1 < 0) ∧ ¬ (3 < x1)) ∧ ¬ (fX13_isLine h x2 = 0)) ∧ (¬ (x4 < 1) ∧ ¬ (h 2 284 x2 < x4)) ∧ ¬ (x3 < 0) ∧ ¬ (x4 - 1 < x3) then (if h 2 293 x1 = 6 then 3 else 0) else 2) else 1))]) rfl ⟨Nat.le_of_ble_eq_true rfl, Nat.le_of_ble_eq_true rfl, Nat.le_of_ble_eq_true rfl, Nat.le_of_ble_eq_true rfl⟩
theorem rX13_hide_99 {x1 : Int} {x2 : Int} {x3 : Int} {x4 : Int} {x5 : Int} {x6 : Int} {y0 : Int} {h : vH} (p1 : ¬ (y0 = 0) → (-2147483648) ≤ 6 * x1) (p2 : ¬ (y0 = 0) → 6 * x1 < 2147483648) (s3 : shModel h) (p4 : ¬ (y0 = 0) → 0 ≤ x1) (p5 : ¬ (y0 = 0) → x1 < 4) (p6 : ¬ (y0 = 0) → (-2147483648) ≤ 6 * x1 + h 2 293 x1) (p7 : ¬ (y0 = 0) → 6 * x1 + h 2 293 x1 < 2147483648) (p8 : ¬ (y0 = 0) → 0 ≤ 6 * x1 + h 2 293 x1) (p9 : ¬ (y0 = 0) → 6 * x1 + h 2 293 x1 < 24) (p10 : ¬ (y0 = 0) → (-2147483648) ≤ h 2 293 x1 + 1) (p11 : ¬ (y0 = 0) → h 2 293 x1 + 1 < 2147483648) : vrun mX13_hide 99 [(1, 282), (0, x1), (0, x2), (0, x3), (0, x4), (0, x5), (0, x6), (9, 0)] [(0, y0)] h = if y0 = 0 then some (.inl (some (0, 0)), h) else some (.inl (some (0, (vup (vup (vup (vup h 2 294 (6 * x1 + h 2 293 x1) x2) 2 295 (6 * x1 + h 2 293 x1) x3) 2 296 (6 * x1 + h 2 293 x1) x4) 2 293 x1 (h 2 293 x1 + 1)) 2 293 x1)), vup (vup (vup (vup h 2 294 (6 * x1 + h 2 293 x1) x2) 2 295 (6 * x1 + h 2 293 x1) x3) 2 296 (6 * x1 + h 2 293 x1) x4) 2 293 x1 (h 2 293 x1 + 1)) := by
  refine (rg_if_ne (t := 104) (pc := 99) (dd bX13_hide dX13_hide_99) rfl).trans (itec (fun c1 => ?_) (fun c1 => ?_))
  · refine (rn_iconst (pc := 102) (dd bX13_hide dX13_hide_102) (by decide)).trans ?_
    exact rn_ireturn (pc := 103) (dd bX13_hide dX13_hide_103) (Or.inl rfl)
  · refine (rn_bipush (pc := 104) (dd bX13_hide dX13_hide_104) (by decide)).trans ?_
    refine (rn_iload_n (pc := 106) (dd bX13_hide dX13_hide_106) rfl).trans ?_
    refine (rg_imul (pc := 107) (dd bX13_hide dX13_hide_107) (p1 c1) (p2 c1)).trans ?_
    refine (rn_aload_n (pc := 108) (dd bX13_hide dX13_hide_108) rfl).trans ?_
    refine (rg_gf (pc := 109) (dd bX13_hide dX13_hide_109) (ci := 14) (j := 12) rfl rfl (key := 1512) rfl (kc := 34) rfl s3.1 s3.2.2.2.2.2.2.2.2.2.2.2.2.2.2.2.2.2.2.2.2.2.2.2.2.2.2.2.2.2.2.2.1).trans ?_
    refine (rn_iload_n (pc := 112) (dd bX13_hide dX13_hide_112) rfl).trans ?_
    refine (rg_iaload (pc := 113) (dd bX13_hide dX13_hide_113) s3.2.2.2.2.2.2.2.2.2.2.2.2.2.2.2.2.2.2.2.2.2.2.2.2.2.2.2.2.2.2.2.2.1 s3.2.2.2.2.2.2.2.2.2.2.2.2.2.2.2.2.2.2.2.2.2.2.2.2.2.2.2.2.2.2.2.2.2.1 (p4 c1) (p5 c1) rfl).trans ?_
    refine (rg_iadd (pc := 114) (dd bX13_hide dX13_hide_114) (p6 c1) (p7 c1)).trans ?_
    refine (rn_istore (pc := 115) (dd bX13_hide dX13_hide_115) (Nat.le_of_ble_eq_true rfl) rfl).trans ?_
    refine (rn_aload_n (pc := 117) (dd bX13_hide dX13_hide_117) rfl).trans ?_
    refine (rg_gf (pc := 118) (dd bX13_hide dX13_hide_118) (ci := 14) (j := 13) rfl rfl (key := 1513) rfl (kc := 34) rfl s3.1 s3.2.2.2.2.2.2.2.2.2.2.2.2.2.2.2.2.2.2.2.2.2.2.2.2.2.2.2.2.2.2.2.2.2.2.1).trans ?_
    refine (rn_iload (pc := 121) (dd bX13_hide dX13_hide_121) rfl).trans ?_
    refine (rn_iload_n (pc := 123) (dd bX13_hide dX13_hide_123) rfl).trans ?_
    refine (rg_iastore (pc := 124) (dd bX13_hide dX13_hide_124) s3.2.2.2.2.2.2.2.2.2.2.2.2.2.2.2.2.2.2.2.2.2.2.2.2.2.2.2.2.2.2.2.2.2.2.2.1 s3.2.2.2.2.2.2.2.2.2.2.2.2.2.2.2.2.2.2.2.2.2.2.2.2.2.2.2.2.2.2.2.2.2.2.2.2.1 (p8 c1) (p9 c1)).trans ?_
    refine (rn_aload_n (pc := 125) (dd bX13_hide dX13_hide_125) rfl).trans ?_
    refine (rg_gf (pc := 126) (dd bX13_hide dX13_hide_126) (ci := 14) (j := 14) rfl rfl (key := 1514) rfl (kc := 34) rfl ((vup_k (by decide)).trans s3.1) ((vup_k (by decide)).trans s3.2.2.2.2.2.2.2.2.2.2.2.2.2.2.2.2.2.2.2.2.2.2.2.2.2.2.2.2.2.2.2.2.2.2.2.2.2.1)).trans ?_
    refine (rn_iload (pc := 129) (dd bX13_hide dX13_hide_129) rfl).trans ?_
    refine (rn_iload_n (pc := 131) (dd bX13_hide dX13_hide_131) rfl).trans ?_
    refine (rg_iastore (pc := 132) (dd bX13_hide dX13_hide_132) ((vup_k (by decide)).trans s3.2.2.2.2.2.2.2.2.2.2.2.2.2.2.2.2.2.2.2.2.2.2.2.2.2.2.2.2.2.2.2.2.2.2.2.2.2.2.1) ((vup_k (by decide)).trans s3.2.2.2.2.2.2.2.2.2.2.2.2.2.2.2.2.2.2.2.2.2.2.2.2.2.2.2.2.2.2.2.2.2.2.2.2.2.2.2.1) (by have z0 := p1 c1; have z1 := p2 c1; have z2 := p6 c1; have z3 := p7 c1; have z4 := p8 c1; have z5 := p9 c1; omega) (by have z0 := p1 c1; have z1 := p2 c1; have z2 := p6 c1; have z3 := p7 c1; have z4 := p8 c1; have z5 := p9 c1; omega)).trans ?_
    refine (rn_aload_n (pc := 133) (dd bX13_hide dX13_hide_133) rfl).trans ?_
    refine (rg_gf (pc := 134) (dd bX13_hide dX13_hide_134) (ci := 14) (j := 15) rfl rfl (key := 1515) rfl (kc := 34) rfl ((vup_k (by decide)).trans ((vup_k (by decide)).trans s3.1)) ((vup_k (by decide)).trans ((vup_k (by decide)).trans s3.2.2.2.2.2.2.2.2.2.2.2.2.2.2.2.2.2.2.2.2.2.2.2.2.2.2.2.2.2.2.2.2.2.2.2.2.2.2.2.2.1))).trans ?_
    refine (rn_iload (pc := 137) (dd bX13_hide dX13_hide_137) rfl).trans ?_
    refine (rn_iload (pc := 139) (dd bX13_hide dX13_hide_139) rfl).trans ?_
    refine (rg_iastore (pc := 141) (dd bX13_hide dX13_hide_141) ((vup_k (by decide)).trans ((vup_k (by decide)).trans s3.2.2.2.2.2.2.2.2.2.2.2.2.2.2.2.2.2.2.2.2.2.2.2.2.2.2.2.2.2.2.2.2.2.2.2.2.2.2.2.2.2.1)) ((vup_k (by decide)).trans ((vup_k (by decide)).trans s3.2.2.2.2.2.2.2.2.2.2.2.2.2.2.2.2.2.2.2.2.2.2.2.2.2.2.2.2.2.2.2.2.2.2.2.2.2.2.2.2.2.2.1)) (by have z0 := p1 c1; have z1 := p2 c1; have z2 := p6 c1; have z3 := p7 c1; have z4 := p8 c1; have z5 := p9 c1; omega) (by have z0 := p1 c1; have z1 := p2 c1; have z2 := p6 c1; have z3 := p7 c1; have z4 := p8 c1; have z5 := p9 c1; omega)).trans ?_
    refine (rn_aload_n (pc := 142) (dd bX13_hide dX13_hide_142) rfl).trans ?_
    refine (rg_gf (pc := 143) (dd bX13_hide dX13_hide_143) (ci := 14) (j := 12) rfl rfl (key := 1512) rfl (kc := 34) rfl ((vup_k (by decide)).trans ((vup_k (by decide)).trans ((vup_k (by decide)).trans s3.1))) ((vup_k (by decide)).trans ((vup_k (by decide)).trans ((vup_k (by decide)).trans s3.2.2.2.2.2.2.2.2.2.2.2.2.2.2.2.2.2.2.2.2.2.2.2.2.2.2.2.2.2.2.2.1)))).trans ?_
    refine (rn_iload_n (pc := 146) (dd bX13_hide dX13_hide_146) rfl).trans ?_
    refine (rn_dup2 (pc := 147) (dd bX13_hide dX13_hide_147) (by decide)).trans ?_
    refine (rg_iaload (pc := 148) (dd bX13_hide dX13_hide_148) ((vup_k (by decide)).trans ((vup_k (by decide)).trans ((vup_k (by decide)).trans s3.2.2.2.2.2.2.2.2.2.2.2.2.2.2.2.2.2.2.2.2.2.2.2.2.2.2.2.2.2.2.2.2.1))) ((vup_k (by decide)).trans ((vup_k (by decide)).trans ((vup_k (by decide)).trans s3.2.2.2.2.2.2.2.2.2.2.2.2.2.2.2.2.2.2.2.2.2.2.2.2.2.2.2.2.2.2.2.2.2.1))) (by have z0 := p4 c1; have z1 := p5 c1; omega) (by have z0 := p4 c1; have z1 := p5 c1; omega) ((vup_r (by omega)).trans ((vup_r (by omega)).trans ((vup_r (by omega)).trans rfl)))).trans ?_
    refine (rn_iconst (pc := 149) (dd bX13_hide dX13_hide_149) (by decide)).trans ?_
    refine (rg_iadd (pc := 150) (dd bX13_hide dX13_hide_150) (p10 c1) (p11 c1)).trans ?_
    refine (rg_iastore (pc := 151) (dd bX13_hide dX13_hide_151) ((vup_k (by decide)).trans ((vup_k (by decide)).trans ((vup_k (by decide)).trans s3.2.2.2.2.2.2.2.2.2.2.2.2.2.2.2.2.2.2.2.2.2.2.2.2.2.2.2.2.2.2.2.2.1))) ((vup_k (by decide)).trans ((vup_k (by decide)).trans ((vup_k (by decide)).trans s3.2.2.2.2.2.2.2.2.2.2.2.2.2.2.2.2.2.2.2.2.2.2.2.2.2.2.2.2.2.2.2.2.2.1))) (by have z0 := p4 c1; have z1 := p5 c1; omega) (by have z0 := p4 c1; have z1 := p5 c1; omega)).trans ?_
    refine (rn_aload_n (pc := 152) (dd bX13_hide dX13_hide_152) rfl).trans ?_
    refine (rg_gf (pc := 153) (dd bX13_hide dX13_hide_153) (ci := 14) (j := 12) rfl rfl (key := 1512) rfl (kc := 34) rfl ((vup_k (by decide)).trans ((vup_k (by decide)).trans ((vup_k (by decide)).trans ((vup_k (by decide)).trans s3.1)))) ((vup_k (by decide)).trans ((vup_k (by decide)).trans ((vup_k (by decide)).trans ((vup_k (by decide)).trans s3.2.2.2.2.2.2.2.2.2.2.2.2.2.2.2.2.2.2.2.2.2.2.2.2.2.2.2.2.2.2.2.1))))).trans ?_
    refine (rn_iload_n (pc := 156) (dd bX13_hide dX13_hide_156) rfl).trans ?_
    refine (rg_iaload (pc := 157) (dd bX13_hide dX13_hide_157) ((vup_k (by decide)).trans ((vup_k (by decide)).trans ((vup_k (by decide)).trans ((vup_k (by decide)).trans s3.2.2.2.2.2.2.2.2.2.2.2.2.2.2.2.2.2.2.2.2.2.2.2.2.2.2.2.2.2.2.2.2.1)))) ((vup_k (by decide)).trans ((vup_k (by decide)).trans ((vup_k (by decide)).trans ((vup_k (by decide)).trans s3.2.2.2.2.2.2.2.2.2.2.2.2.2.2.2.2.2.2.2.2.2.2.2.2.2.2.2.2.2.2.2.2.2.1)))) (by have z0 := p4 c1; have z1 := p5 c1; omega) (by have z0 := p4 c1; have z1 := p5 c1; omega) rfl).trans ?_
    exact rn_ireturn (pc := 158) (dd bX13_hide dX13_hide_158) (Or.inl rfl)
theorem bX13_show : vmB mX13_show = cX13_show := rfl
theorem rX13_show_0 {x1 : Int} {x2 : Int} {h : vH} (s1 : shModel h) (p2 : ¬ (x1 < 0) ∧ ¬ (3 < x1) → 0 ≤ x1) (p3 : ¬ (x1 < 0) ∧ ¬ (3 < x1) → x1 < 4) (p4 : ¬ (x1 < 0) ∧ ¬ (3 < x1) → (-2147483648) ≤ h 2 293 x1 - 1) (p5 : ¬ (x1 < 0) ∧ ¬ (3 < x1) → h 2 293 x1 - 1 < 2147483648) : vrun mX13_show 0 [(1, 282), (0, x1), (0, x2), (9, 0)] [] h = vret vrun mX13_show 39 [(1, 282), (0, x1), (0, x2), (0, (if (¬ (x1 < 0) ∧ ¬ (3 < x1)) ∧ ¬ (x2 < 0) ∧ ¬ (h 2 293 x1 - 1 < x2) then 1 else 0))] [] (vcl mX13_isFine [(1, 282), (0, (if ¬ ((¬ (x1 < 0) ∧ ¬ (3 < x1)) ∧ ¬ (x2 < 0) ∧ ¬ (h 2 293 x1 - 1 < x2)) then 1 else 0))] h) := by
  refine (rn_iload_n (pc := 0) (dd bX13_show dX13_show_0) rfl).trans ?_
  refine (rg_static (pc := 1) (dd bX13_show dX13_show_1) rfl (by decide) (Nat.le_of_ble_eq_true rfl) (as := [(0, x1)]) rfl rfl ⟨Nat.le_of_ble_eq_true rfl, Nat.le_of_ble_eq_true rfl, Nat.le_of_ble_eq_true rfl, Nat.le_of_ble_eq_true rfl⟩).trans ?_
  refine (vret_v spX13_isPane).trans ?_
  have e2 : vrun mX13_show 4 [(1, 282), (0, x1), (0, x2), (9, 0)] [(0, (if ¬ (x1 < 0) ∧ ¬ (3 < x1) then 1 else 0))] h = vrun mX13_show 28 [(1, 282), (0, x1), (0, x2), (9, 0)] [(0, (if (¬ (x1 < 0) ∧ ¬ (3 < x1)) ∧ ¬ (x2 < 0) ∧ ¬ (h 2 293 x1 - 1 < x2) then 1 else 0))] h := by
    refine (rg_beq (t := 27) (pc := 4) (dd bX13_show dX13_show_4) rfl).trans ?_
    by_cases c1 : ¬ (x1 < 0) ∧ ¬ (3 < x1)
    · refine (if_pos c1).trans ?_
      refine (rn_iload_n (pc := 7) (dd bX13_show dX13_show_7) rfl).trans ?_
      refine (rn_iconst (pc := 8) (dd bX13_show dX13_show_8) (by decide)).trans ?_
      refine (rn_aload_n (pc := 9) (dd bX13_show dX13_show_9) rfl).trans ?_
      refine (rg_gf (pc := 10) (dd bX13_show dX13_show_10) (ci := 14) (j := 12) rfl rfl (key := 1512) rfl (kc := 34) rfl s1.1 s1.2.2.2.2.2.2.2.2.2.2.2.2.2.2.2.2.2.2.2.2.2.2.2.2.2.2.2.2.2.2.2.1).trans ?_
      refine (rn_iload_n (pc := 13) (dd bX13_show dX13_show_13) rfl).trans ?_
      refine (rg_iaload (pc := 14) (dd bX13_show dX13_show_14) s1.2.2.2.2.2.2.2.2.2.2.2.2.2.2.2.2.2.2.2.2.2.2.2.2.2.2.2.2.2.2.2.2.1 s1.2.2.2.2.2.2.2.2.2.2.2.2.2.2.2.2.2.2.2.2.2.2.2.2.2.2.2.2.2.2.2.2.2.1 (p2 c1) (p3 c1) rfl).trans ?_
      refine (rn_iconst (pc := 15) (dd bX13_show dX13_show_15) (by decide)).trans ?_
      refine (rg_isub (pc := 16) (dd bX13_show dX13_show_16) (p4 c1) (p5 c1)).trans ?_
      refine (rg_static (pc := 17) (dd bX13_show dX13_show_17) rfl (by decide) (Nat.le_of_ble_eq_true rfl) (as := [(0, x2), (0, 0), (0, h 2 293 x1 - 1)]) rfl rfl ⟨Nat.le_of_ble_eq_true rfl, Nat.le_of_ble_eq_true rfl, Nat.le_of_ble_eq_true rfl, Nat.le_of_ble_eq_true rfl⟩).trans ?_
      refine (vret_v spX13_isIn).trans ?_
      have e1 : vrun mX13_show 20 [(1, 282), (0, x1), (0, x2), (9, 0)] [(0, (if ¬ (x2 < 0) ∧ ¬ (h 2 293 x1 - 1 < x2) then 1 else 0))] h = vrun mX13_show 28 [(1, 282), (0, x1), (0, x2), (9, 0)] [(0, (if ¬ (x2 < 0) ∧ ¬ (h 2 293 x1 - 1 < x2) then 1 else 0))] h := by
        refine (rg_beq (t := 27) (pc := 20) (dd bX13_show dX13_show_20) rfl).trans ?_
        by_cases c2 : ¬ (x2 < 0) ∧ ¬ (h 2 293 x1 - 1 < x2)
        · refine (if_pos c2).trans ?_
          refine (rn_iconst (pc := 23) (dd bX13_show dX13_show_23) (by decide)).trans ?_
          refine (rn_goto (t := 28) (pc := 24) (dd bX13_show dX13_show_24) rfl).trans ?_
          refine Eq.trans (b := vrun mX13_show 28 [(1, 282), (0, x1), (0, x2), (9, 0)] [(0, 1)] h) rfl ?_
          simp only [c2, true_or, false_or, or_true, or_false, true_and, false_and, and_true, and_false, not_true_eq_false, not_false_eq_true, ne_eq, if_true, if_false, ↓reduceIte]
        · refine (if_neg c2).trans ?_
          refine (rn_iconst (pc := 27) (dd bX13_show dX13_show_27) (by decide)).trans ?_
          refine Eq.trans (b := vrun mX13_show 28 [(1, 282), (0, x1), (0, x2), (9, 0)] [(0, 0)] h) rfl ?_
          simp only [c2, true_or, false_or, or_true, or_false, true_and, false_and, and_true, and_false, not_true_eq_false, not_false_eq_true, ne_eq, if_true, if_false, ↓reduceIte]
      refine e1.trans ?_
      refine Eq.trans (b := vrun mX13_show 28 [(1, 282), (0, x1), (0, x2), (9, 0)] [(0, (if ¬ (x2 < 0) ∧ ¬ (h 2 293 x1 - 1 < x2) then 1 else 0))] h) rfl ?_
      simp only [c1, true_or, false_or, or_true, or_false, true_and, false_and, and_true, and_false, not_true_eq_false, not_false_eq_true, ne_eq, if_true, if_false, ↓reduceIte]
    · refine (if_neg c1).trans ?_
      refine (rn_iconst (pc := 27) (dd bX13_show dX13_show_27) (by decide)).trans ?_
      refine Eq.trans (b := vrun mX13_show 28 [(1, 282), (0, x1), (0, x2), (9, 0)] [(0, 0)] h) rfl ?_
      simp only [c1, true_or, false_or, or_true, or_false, true_and, false_and, and_true, and_false, not_true_eq_false, not_false_eq_true, ne_eq, if_true, if_false, ↓reduceIte]
  refine e2.trans ?_
  refine (rn_istore_n (pc := 28) (dd bX13_show dX13_show_28) (Nat.le_of_ble_eq_true rfl) rfl).trans ?_
  refine (rn_aload_n (pc := 29) (dd bX13_show dX13_show_29) rfl).trans ?_
  refine (rn_iload_n (pc := 30) (dd bX13_show dX13_show_30) rfl).trans ?_
  have e3 : vrun mX13_show 31 [(1, 282), (0, x1), (0, x2), (0, (if (¬ (x1 < 0) ∧ ¬ (3 < x1)) ∧ ¬ (x2 < 0) ∧ ¬ (h 2 293 x1 - 1 < x2) then 1 else 0))] [(0, (if (¬ (x1 < 0) ∧ ¬ (3 < x1)) ∧ ¬ (x2 < 0) ∧ ¬ (h 2 293 x1 - 1 < x2) then 1 else 0)), (1, 282)] h = vrun mX13_show 39 [(1, 282), (0, x1), (0, x2), (0, (if (¬ (x1 < 0) ∧ ¬ (3 < x1)) ∧ ¬ (x2 < 0) ∧ ¬ (h 2 293 x1 - 1 < x2) then 1 else 0))] [(0, (if ¬ ((¬ (x1 < 0) ∧ ¬ (3 < x1)) ∧ ¬ (x2 < 0) ∧ ¬ (h 2 293 x1 - 1 < x2)) then 1 else 0)), (1, 282)] h := by
    refine (rg_beq (t := 38) (pc := 31) (dd bX13_show dX13_show_31) rfl).trans ?_
    by_cases c3 : (¬ (x1 < 0) ∧ ¬ (3 < x1)) ∧ ¬ (x2 < 0) ∧ ¬ (h 2 293 x1 - 1 < x2)
    · refine (if_pos c3).trans ?_
      refine (rn_iconst (pc := 34) (dd bX13_show dX13_show_34) (by decide)).trans ?_
      refine (rn_goto (t := 39) (pc := 35) (dd bX13_show dX13_show_35) rfl).trans ?_
      refine Eq.trans (b := vrun mX13_show 39 [(1, 282), (0, x1), (0, x2), (0, (if (¬ (x1 < 0) ∧ ¬ (3 < x1)) ∧ ¬ (x2 < 0) ∧ ¬ (h 2 293 x1 - 1 < x2) then 1 else 0))] [(0, 0), (1, 282)] h) rfl ?_
      simp only [c3, true_or, false_or, or_true, or_false, true_and, false_and, and_true, and_false, not_true_eq_false, not_false_eq_true, ne_eq, if_true, if_false, ↓reduceIte]
    · refine (if_neg c3).trans ?_
      refine (rn_iconst (pc := 38) (dd bX13_show dX13_show_38) (by decide)).trans ?_
      refine Eq.trans (b := vrun mX13_show 39 [(1, 282), (0, x1), (0, x2), (0, (if (¬ (x1 < 0) ∧ ¬ (3 < x1)) ∧ ¬ (x2 < 0) ∧ ¬ (h 2 293 x1 - 1 < x2) then 1 else 0))] [(0, 1), (1, 282)] h) rfl ?_
      simp only [c3, true_or, false_or, or_true, or_false, true_and, false_and, and_true, and_false, not_true_eq_false, not_false_eq_true, ne_eq, if_true, if_false, ↓reduceIte]
  refine e3.trans ?_
  exact rg_virtual (pc := 39) (dd bX13_show dX13_show_39) rfl rfl (by decide) (kc := 34) rfl s1.1 (as := [(1, 282), (0, (if ¬ ((¬ (x1 < 0) ∧ ¬ (3 < x1)) ∧ ¬ (x2 < 0) ∧ ¬ (h 2 293 x1 - 1 < x2)) then 1 else 0))]) rfl ⟨Nat.le_of_ble_eq_true rfl, Nat.le_of_ble_eq_true rfl, Nat.le_of_ble_eq_true rfl, Nat.le_of_ble_eq_true rfl⟩
theorem rX13_show_42 {x1 : Int} {x2 : Int} {x3 : Int} {y0 : Int} {h : vH} (s1 : shModel h) : vrun mX13_show 42 [(1, 282), (0, x1), (0, x2), (0, x3)] [(0, y0)] h = if y0 = 0 then some (.inl (some (0, 0)), h) else vret vrun mX13_show 50 [(1, 282), (0, x1), (0, x2), (0, x3)] [] (vcl mX13_dropsSpan [(1, 282), (0, x1), (0, x2)] h) := by
  refine (rg_if_ne (t := 47) (pc := 42) (dd bX13_show dX13_show_42) rfl).trans (itec (fun c1 => ?_) (fun c1 => ?_))
  · refine (rn_iconst (pc := 45) (dd bX13_show dX13_show_45) (by decide)).trans ?_
    exact rn_ireturn (pc := 46) (dd bX13_show dX13_show_46) (Or.inl rfl)
  · refine (rn_aload_n (pc := 47) (dd bX13_show dX13_show_47) rfl).trans ?_
    refine (rn_iload_n (pc := 48) (dd bX13_show dX13_show_48) rfl).trans ?_
    refine (rn_iload_n (pc := 49) (dd bX13_show dX13_show_49) rfl).trans ?_
    exact rg_virtual (pc := 50) (dd bX13_show dX13_show_50) rfl rfl (by decide) (kc := 34) rfl s1.1 (as := [(1, 282), (0, x1), (0, x2)]) rfl ⟨Nat.le_of_ble_eq_true rfl, Nat.le_of_ble_eq_true rfl, Nat.le_of_ble_eq_true rfl, Nat.le_of_ble_eq_true rfl⟩
theorem rX13_show_53 {x1 : Int} {x2 : Int} {x3 : Int} {h : vH} (s1 : shModel h) (p2 : 0 ≤ x1) (p3 : x1 < 4) : vrun mX13_show 53 [(1, 282), (0, x1), (0, x2), (0, x3)] [] h = some (.inl (some (0, h 2 293 x1)), h) := by
  refine (rn_aload_n (pc := 53) (dd bX13_show dX13_show_53) rfl).trans ?_
  refine (rg_gf (pc := 54) (dd bX13_show dX13_show_54) (ci := 14) (j := 12) rfl rfl (key := 1512) rfl (kc := 34) rfl s1.1 s1.2.2.2.2.2.2.2.2.2.2.2.2.2.2.2.2.2.2.2.2.2.2.2.2.2.2.2.2.2.2.2.1).trans ?_
  refine (rn_iload_n (pc := 57) (dd bX13_show dX13_show_57) rfl).trans ?_
  refine (rg_iaload (pc := 58) (dd bX13_show dX13_show_58) s1.2.2.2.2.2.2.2.2.2.2.2.2.2.2.2.2.2.2.2.2.2.2.2.2.2.2.2.2.2.2.2.2.1 s1.2.2.2.2.2.2.2.2.2.2.2.2.2.2.2.2.2.2.2.2.2.2.2.2.2.2.2.2.2.2.2.2.2.1 p2 p3 rfl).trans ?_
  exact rn_ireturn (pc := 59) (dd bX13_show dX13_show_59) (Or.inl rfl)
theorem bX13_countOf : vmB mX13_countOf = cX13_countOf := rfl
theorem rX13_countOf_0 {x0 : Int} {h : vH} : vrun mX13_countOf 0 [(2, x0), (8, 0), (9, 0), (9, 0), (9, 0), (9, 0)] [] h = vrun mX13_countOf 7 [(2, x0), (8, 0), (0, 0), (0, 1), (0, 0), (9, 0)] [] h := by
  refine (rn_iconst (pc := 0) (dd bX13_countOf dX13_countOf_0) (by decide)).trans ?_
  refine (rn_istore_n (pc := 1) (dd bX13_countOf dX13_countOf_1) (Nat.le_of_ble_eq_true rfl) rfl).trans ?_
  refine (rn_iconst (pc := 2) (dd bX13_countOf dX13_countOf_2) (by decide)).trans ?_
  refine (rn_istore_n (pc := 3) (dd bX13_countOf dX13_countOf_3) (Nat.le_of_ble_eq_true rfl) rfl).trans ?_
  refine (rn_iconst (pc := 4) (dd bX13_countOf dX13_countOf_4) (by decide)).trans ?_
  refine (rn_istore (pc := 5) (dd bX13_countOf dX13_countOf_5) (Nat.le_of_ble_eq_true rfl) rfl).trans ?_
  rfl
theorem rX13_countOf_7 {x0 : Int} {x2 : Int} {x3 : Int} {x4 : Int} {v5 : vv} {h : vH} (p1 : ¬ (64 ≤ x4) → ¬ (x3 = 0) → ¬ (w32 (bland (blshr x0 x4) 255) = 0) → 0 ≤ x4) (p2 : ¬ (64 ≤ x4) → (-2147483648) ≤ x2 + (if ¬ (w32 (bland (blshr x0 x4) 255) = 0) then 1 else 0)) (p3 : ¬ (64 ≤ x4) → x2 + (if ¬ (w32 (bland (blshr x0 x4) 255) = 0) then 1 else 0) < 2147483648) (p4 : ¬ (64 ≤ x4) → (-2147483648) ≤ x4 + 8) : vrun mX13_countOf 7 [(2, x0), (8, 0), (0, x2), (0, x3), (0, x4), v5] [] h = if 64 ≤ x4 then some (.inl (some (0, (if x3 = 0 then 0 else x2))), h) else vrun mX13_countOf 7 [(2, x0), (8, 0), (0, x2 + (if ¬ (w32 (bland (blshr x0 x4) 255) = 0) then 1 else 0)), (0, (if ¬ (x3 = 0) ∧ (w32 (bland (blshr x0 x4) 255) = 0 ∨ x2 = x4 / 8 ∧ ¬ (w32 (bland (blshr x0 x4) 255) < 32) ∧ ¬ (125 < w32 (bland (blshr x0 x4) 255))) then 1 else 0)), (0, x4 + 8), (0, w32 (bland (blshr x0 x4) 255))] [] h := by
  refine (rn_iload (pc := 7) (dd bX13_countOf dX13_countOf_7) rfl).trans ?_
  refine (rn_bipush (pc := 9) (dd bX13_countOf dX13_countOf_9) (by decide)).trans ?_
  refine (rn_icmp_ge (t := 80) (pc := 11) (dd bX13_countOf dX13_countOf_11) rfl).trans (itec (fun c1 => ?_) (fun c1 => ?_))
  · refine (rn_iload_n (pc := 80) (dd bX13_countOf dX13_countOf_80) rfl).trans ?_
    have e1 : vrun mX13_countOf 81 [(2, x0), (8, 0), (0, x2), (0, x3), (0, x4), v5] [(0, x3)] h = vrun mX13_countOf 89 [(2, x0), (8, 0), (0, x2), (0, x3), (0, x4), v5] [(0, (if x3 = 0 then 0 else x2))] h := by
      refine (rn_if_eq (t := 88) (pc := 81) (dd bX13_countOf dX13_countOf_81) rfl).trans ?_
      by_cases c2 : x3 = 0
      · refine (if_pos c2).trans ?_
        refine (rn_iconst (pc := 88) (dd bX13_countOf dX13_countOf_88) (by decide)).trans ?_
        refine Eq.trans (b := vrun mX13_countOf 89 [(2, x0), (8, 0), (0, x2), (0, x3), (0, x4), v5] [(0, 0)] h) rfl ?_
        simp only [if_pos c2]
      · refine (if_neg c2).trans ?_
        refine (rn_iload_n (pc := 84) (dd bX13_countOf dX13_countOf_84) rfl).trans ?_
        refine (rn_goto (t := 89) (pc := 85) (dd bX13_countOf dX13_countOf_85) rfl).trans ?_
        refine Eq.trans (b := vrun mX13_countOf 89 [(2, x0), (8, 0), (0, x2), (0, x3), (0, x4), v5] [(0, x2)] h) rfl ?_
        simp only [if_neg c2]
    refine e1.trans ?_
    exact rn_ireturn (pc := 89) (dd bX13_countOf dX13_countOf_89) (Or.inl rfl)
  · refine (rn_lload_n (pc := 14) (dd bX13_countOf dX13_countOf_14) rfl).trans ?_
    refine (rn_iload (pc := 15) (dd bX13_countOf dX13_countOf_15) rfl).trans ?_
    refine (rg_lshr (pc := 17) (dd bX13_countOf dX13_countOf_17)).trans ?_
    refine (rn_ldc2_w (pc := 18) (dd bX13_countOf dX13_countOf_18) (z := 255) rfl).trans ?_
    refine (rg_land (pc := 21) (dd bX13_countOf dX13_countOf_21)).trans ?_
    refine (rn_l2i (pc := 22) (dd bX13_countOf dX13_countOf_22)).trans ?_
    refine (rn_istore (pc := 23) (dd bX13_countOf dX13_countOf_23) (Nat.le_of_ble_eq_true rfl) rfl).trans ?_
    refine (rn_iload_n (pc := 25) (dd bX13_countOf dX13_countOf_25) rfl).trans ?_
    have e5 : vrun mX13_countOf 26 [(2, x0), (8, 0), (0, x2), (0, x3), (0, x4), (0, w32 (bland (blshr x0 x4) 255))] [(0, x3)] h = vrun mX13_countOf 60 [(2, x0), (8, 0), (0, x2), (0, x3), (0, x4), (0, w32 (bland (blshr x0 x4) 255))] [(0, (if ¬ (x3 = 0) ∧ (w32 (bland (blshr x0 x4) 255) = 0 ∨ x2 = x4 / 8 ∧ ¬ (w32 (bland (blshr x0 x4) 255) < 32) ∧ ¬ (125 < w32 (bland (blshr x0 x4) 255))) then 1 else 0))] h := by
      refine (rn_if_eq (t := 59) (pc := 26) (dd bX13_countOf dX13_countOf_26) rfl).trans ?_
      by_cases c3 : x3 = 0
      · refine (if_pos c3).trans ?_
        refine (rn_iconst (pc := 59) (dd bX13_countOf dX13_countOf_59) (by decide)).trans ?_
        refine Eq.trans (b := vrun mX13_countOf 60 [(2, x0), (8, 0), (0, x2), (0, x3), (0, x4), (0, w32 (bland (blshr x0 x4) 255))] [(0, 0)] h) rfl ?_
        simp only [c3, true_or, false_or, or_true, or_false, true_and, false_and, and_true, and_false, not_true_eq_false, not_false_eq_true, ne_eq, if_true, if_false, ↓reduceIte]
      · refine (if_neg c3).trans ?_
        refine (rn_iload (pc := 29) (dd bX13_countOf dX13_countOf_29) rfl).trans ?_
        have e4 : vrun mX13_countOf 31 [(2, x0), (8, 0), (0, x2), (0, x3), (0, x4), (0, w32 (bland (blshr x0 x4) 255))] [(0, w32 (bland (blshr x0 x4) 255))] h = vrun mX13_countOf 60 [(2, x0), (8, 0), (0, x2), (0, x3), (0, x4), (0, w32 (bland (blshr x0 x4) 255))] [(0, (if w32 (bland (blshr x0 x4) 255) = 0 ∨ x2 = x4 / 8 ∧ ¬ (w32 (bland (blshr x0 x4) 255) < 32) ∧ ¬ (125 < w32 (bland (blshr x0 x4) 255)) then 1 else 0))] h := by
          refine (rn_if_eq (t := 55) (pc := 31) (dd bX13_countOf dX13_countOf_31) rfl).trans ?_
          by_cases c4 : w32 (bland (blshr x0 x4) 255) = 0
          · refine (if_pos c4).trans ?_
            refine (rn_iconst (pc := 55) (dd bX13_countOf dX13_countOf_55) (by decide)).trans ?_
            refine (rn_goto (t := 60) (pc := 56) (dd bX13_countOf dX13_countOf_56) rfl).trans ?_
            refine Eq.trans (b := vrun mX13_countOf 60 [(2, x0), (8, 0), (0, x2), (0, x3), (0, x4), (0, w32 (bland (blshr x0 x4) 255))] [(0, 1)] h) rfl ?_
            simp only [c4, true_or, false_or, or_true, or_false, true_and, false_and, and_true, and_false, not_true_eq_false, not_false_eq_true, ne_eq, if_true, if_false, ↓reduceIte]
          · refine (if_neg c4).trans ?_
            refine (rn_iload_n (pc := 34) (dd bX13_countOf dX13_countOf_34) rfl).trans ?_
            refine (rn_iload (pc := 35) (dd bX13_countOf dX13_countOf_35) rfl).trans ?_
            refine (rn_bipush (pc := 37) (dd bX13_countOf dX13_countOf_37) (by decide)).trans ?_
            refine (rg_idiv (pc := 39) (dd bX13_countOf dX13_countOf_39) (by decide) (p1 c1 c3 c4) (by have z0 := p1 c1 c3 c4; omega)).trans ?_
            have e3 : vrun mX13_countOf 40 [(2, x0), (8, 0), (0, x2), (0, x3), (0, x4), (0, w32 (bland (blshr x0 x4) 255))] [(0, x4 / 8), (0, x2)] h = vrun mX13_countOf 60 [(2, x0), (8, 0), (0, x2), (0, x3), (0, x4), (0, w32 (bland (blshr x0 x4) 255))] [(0, (if x2 = x4 / 8 ∧ ¬ (w32 (bland (blshr x0 x4) 255) < 32) ∧ ¬ (125 < w32 (bland (blshr x0 x4) 255)) then 1 else 0))] h := by
              refine (rg_icmp_ne (t := 59) (pc := 40) (dd bX13_countOf dX13_countOf_40) rfl).trans ?_
              by_cases c5 : x2 = x4 / 8
              · refine (if_pos c5).trans ?_
                refine (rn_iload (pc := 43) (dd bX13_countOf dX13_countOf_43) rfl).trans ?_
                refine (rn_bipush (pc := 45) (dd bX13_countOf dX13_countOf_45) (by decide)).trans ?_
                refine (rn_bipush (pc := 47) (dd bX13_countOf dX13_countOf_47) (by decide)).trans ?_
                refine (rg_static (pc := 49) (dd bX13_countOf dX13_countOf_49) rfl (by decide) (Nat.le_of_ble_eq_true rfl) (as := [(0, w32 (bland (blshr x0 x4) 255)), (0, 32), (0, 125)]) rfl rfl ⟨Nat.le_of_ble_eq_true rfl, Nat.le_of_ble_eq_true rfl, Nat.le_of_ble_eq_true rfl, Nat.le_of_ble_eq_true rfl⟩).trans ?_
                refine (vret_v spX13_isIn).trans ?_
                have e2 : vrun mX13_countOf 52 [(2, x0), (8, 0), (0, x2), (0, x3), (0, x4), (0, w32 (bland (blshr x0 x4) 255))] [(0, (if ¬ (w32 (bland (blshr x0 x4) 255) < 32) ∧ ¬ (125 < w32 (bland (blshr x0 x4) 255)) then 1 else 0))] h = vrun mX13_countOf 60 [(2, x0), (8, 0), (0, x2), (0, x3), (0, x4), (0, w32 (bland (blshr x0 x4) 255))] [(0, (if ¬ (w32 (bland (blshr x0 x4) 255) < 32) ∧ ¬ (125 < w32 (bland (blshr x0 x4) 255)) then 1 else 0))] h := by
                  refine (rg_beq (t := 59) (pc := 52) (dd bX13_countOf dX13_countOf_52) rfl).trans ?_
                  by_cases c6 : ¬ (w32 (bland (blshr x0 x4) 255) < 32) ∧ ¬ (125 < w32 (bland (blshr x0 x4) 255))
                  · refine (if_pos c6).trans ?_
                    refine (rn_iconst (pc := 55) (dd bX13_countOf dX13_countOf_55) (by decide)).trans ?_
                    refine (rn_goto (t := 60) (pc := 56) (dd bX13_countOf dX13_countOf_56) rfl).trans ?_
                    refine Eq.trans (b := vrun mX13_countOf 60 [(2, x0), (8, 0), (0, x2), (0, x3), (0, x4), (0, w32 (bland (blshr x0 x4) 255))] [(0, 1)] h) rfl ?_
                    simp only [c6, true_or, false_or, or_true, or_false, true_and, false_and, and_true, and_false, not_true_eq_false, not_false_eq_true, ne_eq, if_true, if_false, ↓reduceIte]
                  · refine (if_neg c6).trans ?_
                    refine (rn_iconst (pc := 59) (dd bX13_countOf dX13_countOf_59) (by decide)).trans ?_
                    refine Eq.trans (b := vrun mX13_countOf 60 [(2, x0), (8, 0), (0, x2), (0, x3), (0, x4), (0, w32 (bland (blshr x0 x4) 255))] [(0, 0)] h) rfl ?_
                    simp only [c6, true_or, false_or, or_true, or_false, true_and, false_and, and_true, and_false, not_true_eq_false, not_false_eq_true, ne_eq, if_true, if_false, ↓reduceIte]
                refine e2.trans ?_
                refine Eq.trans (b := vrun mX13_countOf 60 [(2, x0), (8, 0), (0, x2), (0, x3), (0, x4), (0, w32 (bland (blshr x0 x4) 255))] [(0, (if ¬ (w32 (bland (blshr x0 x4) 255) < 32) ∧ ¬ (125 < w32 (bland (blshr x0 x4) 255)) then 1 else 0))] h) rfl ?_
                simp only [c5, true_or, false_or, or_true, or_false, true_and, false_and, and_true, and_false, not_true_eq_false, not_false_eq_true, ne_eq, if_true, if_false, ↓reduceIte]
              · refine (if_neg c5).trans ?_
                refine (rn_iconst (pc := 59) (dd bX13_countOf dX13_countOf_59) (by decide)).trans ?_
                refine Eq.trans (b := vrun mX13_countOf 60 [(2, x0), (8, 0), (0, x2), (0, x3), (0, x4), (0, w32 (bland (blshr x0 x4) 255))] [(0, 0)] h) rfl ?_
                simp only [c5, true_or, false_or, or_true, or_false, true_and, false_and, and_true, and_false, not_true_eq_false, not_false_eq_true, ne_eq, if_true, if_false, ↓reduceIte]
            refine e3.trans ?_
            refine Eq.trans (b := vrun mX13_countOf 60 [(2, x0), (8, 0), (0, x2), (0, x3), (0, x4), (0, w32 (bland (blshr x0 x4) 255))] [(0, (if x2 = x4 / 8 ∧ ¬ (w32 (bland (blshr x0 x4) 255) < 32) ∧ ¬ (125 < w32 (bland (blshr x0 x4) 255)) then 1 else 0))] h) rfl ?_
            simp only [c4, true_or, false_or, or_true, or_false, true_and, false_and, and_true, and_false, not_true_eq_false, not_false_eq_true, ne_eq, if_true, if_false, ↓reduceIte]
        refine e4.trans ?_
        refine Eq.trans (b := vrun mX13_countOf 60 [(2, x0), (8, 0), (0, x2), (0, x3), (0, x4), (0, w32 (bland (blshr x0 x4) 255))] [(0, (if w32 (bland (blshr x0 x4) 255) = 0 ∨ x2 = x4 / 8 ∧ ¬ (w32 (bland (blshr x0 x4) 255) < 32) ∧ ¬ (125 < w32 (bland (blshr x0 x4) 255)) then 1 else 0))] h) rfl ?_
        simp only [c3, true_or, false_or, or_true, or_false, true_and, false_and, and_true, and_false, not_true_eq_false, not_false_eq_true, ne_eq, if_true, if_false, ↓reduceIte]
    refine e5.trans ?_
    refine (rn_istore_n (pc := 60) (dd bX13_countOf dX13_countOf_60) (Nat.le_of_ble_eq_true rfl) rfl).trans ?_
    refine (rn_iload_n (pc := 61) (dd bX13_countOf dX13_countOf_61) rfl).trans ?_
    refine (rn_iload (pc := 62) (dd bX13_countOf dX13_countOf_62) rfl).trans ?_
    have e6 : vrun mX13_countOf 64 [(2, x0), (8, 0), (0, x2), (0, (if ¬ (x3 = 0) ∧ (w32 (bland (blshr x0 x4) 255) = 0 ∨ x2 = x4 / 8 ∧ ¬ (w32 (bland (blshr x0 x4) 255) < 32) ∧ ¬ (125 < w32 (bland (blshr x0 x4) 255))) then 1 else 0)), (0, x4), (0, w32 (bland (blshr x0 x4) 255))] [(0, w32 (bland (blshr x0 x4) 255)), (0, x2)] h = vrun mX13_countOf 72 [(2, x0), (8, 0), (0, x2), (0, (if ¬ (x3 = 0) ∧ (w32 (bland (blshr x0 x4) 255) = 0 ∨ x2 = x4 / 8 ∧ ¬ (w32 (bland (blshr x0 x4) 255) < 32) ∧ ¬ (125 < w32 (bland (blshr x0 x4) 255))) then 1 else 0)), (0, x4), (0, w32 (bland (blshr x0 x4) 255))] [(0, (if ¬ (w32 (bland (blshr x0 x4) 255) = 0) then 1 else 0)), (0, x2)] h := by
      refine (rg_if_ne (t := 71) (pc := 64) (dd bX13_countOf dX13_countOf_64) rfl).trans ?_
      by_cases c7 : w32 (bland (blshr x0 x4) 255) = 0
      · refine (if_pos c7).trans ?_
        refine (rn_iconst (pc := 67) (dd bX13_countOf dX13_countOf_67) (by decide)).trans ?_
        refine (rn_goto (t := 72) (pc := 68) (dd bX13_countOf dX13_countOf_68) rfl).trans ?_
        refine Eq.trans (b := vrun mX13_countOf 72 [(2, x0), (8, 0), (0, x2), (0, (if ¬ (x3 = 0) ∧ (w32 (bland (blshr x0 x4) 255) = 0 ∨ x2 = x4 / 8 ∧ ¬ (w32 (bland (blshr x0 x4) 255) < 32) ∧ ¬ (125 < w32 (bland (blshr x0 x4) 255))) then 1 else 0)), (0, x4), (0, w32 (bland (blshr x0 x4) 255))] [(0, 0), (0, x2)] h) rfl ?_
        simp only [c7, true_or, false_or, or_true, or_false, true_and, false_and, and_true, and_false, not_true_eq_false, not_false_eq_true, ne_eq, if_true, if_false, ↓reduceIte]
      · refine (if_neg c7).trans ?_
        refine (rn_iconst (pc := 71) (dd bX13_countOf dX13_countOf_71) (by decide)).trans ?_
        refine Eq.trans (b := vrun mX13_countOf 72 [(2, x0), (8, 0), (0, x2), (0, (if ¬ (x3 = 0) ∧ (w32 (bland (blshr x0 x4) 255) = 0 ∨ x2 = x4 / 8 ∧ ¬ (w32 (bland (blshr x0 x4) 255) < 32) ∧ ¬ (125 < w32 (bland (blshr x0 x4) 255))) then 1 else 0)), (0, x4), (0, w32 (bland (blshr x0 x4) 255))] [(0, 1), (0, x2)] h) rfl ?_
        simp only [c7, true_or, false_or, or_true, or_false, true_and, false_and, and_true, and_false, not_true_eq_false, not_false_eq_true, ne_eq, if_true, if_false, ↓reduceIte]
    refine e6.trans ?_
    refine (rg_iadd (pc := 72) (dd bX13_countOf dX13_countOf_72) (p2 c1) (p3 c1)).trans ?_
    refine (rn_istore_n (pc := 73) (dd bX13_countOf dX13_countOf_73) (Nat.le_of_ble_eq_true rfl) rfl).trans ?_
    refine (rg_iinc (pc := 74) (dd bX13_countOf dX13_countOf_74) rfl (Nat.le_of_ble_eq_true rfl) (p4 c1) (by have z0 := p4 c1; omega) rfl).trans ?_
    refine (rn_goto (t := 7) (pc := 77) (dd bX13_countOf dX13_countOf_77) rfl).trans ?_
    rfl
theorem bX13_addVirtual : vmB mX13_addVirtual = cX13_addVirtual := rfl
theorem rX13_addVirtual_0 {x1 : Int} {x2 : Int} {x3 : Int} {x4 : Int} {h : vH} (s1 : shModel h) (p2 : ¬ (x1 < 0) ∧ ¬ (3 < x1) → (-2147483648) ≤ h 1504 282 0 - 1) (p3 : ¬ (x1 < 0) ∧ ¬ (3 < x1) → h 1504 282 0 - 1 < 2147483648) (p4 : (¬ (x1 < 0) ∧ ¬ (3 < x1)) ∧ ¬ (fX13_isLine h x2 = 0) → 0 ≤ x2) (p5 : (¬ (x1 < 0) ∧ ¬ (3 < x1)) ∧ ¬ (fX13_isLine h x2 = 0) → x2 < 60) : vrun mX13_addVirtual 0 [(1, 282), (0, x1), (0, x2), (0, x3), (2, x4), (8, 0), (9, 0), (9, 0), (9, 0)] [] h = if (¬ (x1 < 0) ∧ ¬ (3 < x1)) ∧ ¬ (fX13_isLine h x2 = 0) then if ¬ (x3 < 0) ∧ ¬ (h 2 284 x2 < x3) then vret vrun mX13_addVirtual 43 [(1, 282), (0, x1), (0, x2), (0, x3), (2, x4), (8, 0), (0, (if (¬ (x1 < 0) ∧ ¬ (3 < x1)) ∧ ¬ (fX13_isLine h x2 = 0) then 1 else 0)), (9, 0), (9, 0)] [] (vcl mX13_countOf [(2, x4)] h) else vret vrun mX13_addVirtual 91 [(1, 282), (0, x1), (0, x2), (0, x3), (2, x4), (8, 0), (0, (if (¬ (x1 < 0) ∧ ¬ (3 < x1)) ∧ ¬ (fX13_isLine h x2 = 0) then 1 else 0)), (0, 0), (9, 0)] [] (vcl mX13_isFine [(1, 282), (0, (if (¬ (x1 < 0) ∧ ¬ (3 < x1)) ∧ ¬ (fX13_isLine h x2 = 0) then 2 else 1))] h) else vret vrun mX13_addVirtual 91 [(1, 282), (0, x1), (0, x2), (0, x3), (2, x4), (8, 0), (0, (if (¬ (x1 < 0) ∧ ¬ (3 < x1)) ∧ ¬ (fX13_isLine h x2 = 0) then 1 else 0)), (0, 0), (9, 0)] [] (vcl mX13_isFine [(1, 282), (0, (if (¬ (x1 < 0) ∧ ¬ (3 < x1)) ∧ ¬ (fX13_isLine h x2 = 0) then 2 else 1))] h) := by
  refine (rn_iload_n (pc := 0) (dd bX13_addVirtual dX13_addVirtual_0) rfl).trans ?_
  refine (rg_static (pc := 1) (dd bX13_addVirtual dX13_addVirtual_1) rfl (by decide) (Nat.le_of_ble_eq_true rfl) (as := [(0, x1)]) rfl rfl ⟨Nat.le_of_ble_eq_true rfl, Nat.le_of_ble_eq_true rfl, Nat.le_of_ble_eq_true rfl, Nat.le_of_ble_eq_true rfl⟩).trans ?_
  refine (vret_v spX13_isPane).trans ?_
  have e2 : vrun mX13_addVirtual 4 [(1, 282), (0, x1), (0, x2), (0, x3), (2, x4), (8, 0), (9, 0), (9, 0), (9, 0)] [(0, (if ¬ (x1 < 0) ∧ ¬ (3 < x1) then 1 else 0))] h = vrun mX13_addVirtual 20 [(1, 282), (0, x1), (0, x2), (0, x3), (2, x4), (8, 0), (9, 0), (9, 0), (9, 0)] [(0, (if (¬ (x1 < 0) ∧ ¬ (3 < x1)) ∧ ¬ (fX13_isLine h x2 = 0) then 1 else 0))] h := by
    refine (rg_beq (t := 19) (pc := 4) (dd bX13_addVirtual dX13_addVirtual_4) rfl).trans ?_
    by_cases c1 : ¬ (x1 < 0) ∧ ¬ (3 < x1)
    · refine (if_pos c1).trans ?_
      refine (rn_aload_n (pc := 7) (dd bX13_addVirtual dX13_addVirtual_7) rfl).trans ?_
      refine (rn_iload_n (pc := 8) (dd bX13_addVirtual dX13_addVirtual_8) rfl).trans ?_
      refine (rg_virtual (pc := 9) (dd bX13_addVirtual dX13_addVirtual_9) rfl rfl (by decide) (kc := 34) rfl s1.1 (as := [(1, 282), (0, x2)]) rfl ⟨Nat.le_of_ble_eq_true rfl, Nat.le_of_ble_eq_true rfl, Nat.le_of_ble_eq_true rfl, Nat.le_of_ble_eq_true rfl⟩).trans ?_
      refine (vret_v (spX13_isLine s1 (p2 c1) (p3 c1))).trans ?_
      have e1 : vrun mX13_addVirtual 12 [(1, 282), (0, x1), (0, x2), (0, x3), (2, x4), (8, 0), (9, 0), (9, 0), (9, 0)] [(0, fX13_isLine h x2)] h = vrun mX13_addVirtual 20 [(1, 282), (0, x1), (0, x2), (0, x3), (2, x4), (8, 0), (9, 0), (9, 0), (9, 0)] [(0, (if ¬ (fX13_isLine h x2 = 0) then 1 else 0))] h := by
        refine (rn_if_eq (t := 19) (pc := 12) (dd bX13_addVirtual dX13_addVirtual_12) rfl).trans ?_
        by_cases c2 : fX13_isLine h x2 = 0
        · refine (if_pos c2).trans ?_
          refine (rn_iconst (pc := 19) (dd bX13_addVirtual dX13_addVirtual_19) (by decide)).trans ?_
          refine Eq.trans (b := vrun mX13_addVirtual 20 [(1, 282), (0, x1), (0, x2), (0, x3), (2, x4), (8, 0), (9, 0), (9, 0), (9, 0)] [(0, 0)] h) rfl ?_
          simp only [c2, true_or, false_or, or_true, or_false, true_and, false_and, and_true, and_false, not_true_eq_false, not_false_eq_true, ne_eq, if_true, if_false, ↓reduceIte]
        · refine (if_neg c2).trans ?_
          refine (rn_iconst (pc := 15) (dd bX13_addVirtual dX13_addVirtual_15) (by decide)).trans ?_
          refine (rn_goto (t := 20) (pc := 16) (dd bX13_addVirtual dX13_addVirtual_16) rfl).trans ?_
          refine Eq.trans (b := vrun mX13_addVirtual 20 [(1, 282), (0, x1), (0, x2), (0, x3), (2, x4), (8, 0), (9, 0), (9, 0), (9, 0)] [(0, 1)] h) rfl ?_
          simp only [c2, true_or, false_or, or_true, or_false, true_and, false_and, and_true, and_false, not_true_eq_false, not_false_eq_true, ne_eq, if_true, if_false, ↓reduceIte]
      refine e1.trans ?_
      refine Eq.trans (b := vrun mX13_addVirtual 20 [(1, 282), (0, x1), (0, x2), (0, x3), (2, x4), (8, 0), (9, 0), (9, 0), (9, 0)] [(0, (if ¬ (fX13_isLine h x2 = 0) then 1 else 0))] h) rfl ?_
      simp only [c1, true_or, false_or, or_true, or_false, true_and, false_and, and_true, and_false, not_true_eq_false, not_false_eq_true, ne_eq, if_true, if_false, ↓reduceIte]
    · refine (if_neg c1).trans ?_
      refine (rn_iconst (pc := 19) (dd bX13_addVirtual dX13_addVirtual_19) (by decide)).trans ?_
      refine Eq.trans (b := vrun mX13_addVirtual 20 [(1, 282), (0, x1), (0, x2), (0, x3), (2, x4), (8, 0), (9, 0), (9, 0), (9, 0)] [(0, 0)] h) rfl ?_
      simp only [c1, true_or, false_or, or_true, or_false, true_and, false_and, and_true, and_false, not_true_eq_false, not_false_eq_true, ne_eq, if_true, if_false, ↓reduceIte]
  refine e2.trans ?_
  refine (rn_istore (pc := 20) (dd bX13_addVirtual dX13_addVirtual_20) (Nat.le_of_ble_eq_true rfl) rfl).trans ?_
  refine (rn_iload (pc := 22) (dd bX13_addVirtual dX13_addVirtual_22) rfl).trans ?_
  refine (rg_beq (t := 53) (pc := 24) (dd bX13_addVirtual dX13_addVirtual_24) rfl).trans (itec (fun c3 => ?_) (fun c3 => ?_))
  · refine (rn_iload_n (pc := 27) (dd bX13_addVirtual dX13_addVirtual_27) rfl).trans ?_
    refine (rn_iconst (pc := 28) (dd bX13_addVirtual dX13_addVirtual_28) (by decide)).trans ?_
    refine (rn_aload_n (pc := 29) (dd bX13_addVirtual dX13_addVirtual_29) rfl).trans ?_
    refine (rg_gf (pc := 30) (dd bX13_addVirtual dX13_addVirtual_30) (ci := 14) (j := 2) rfl rfl (key := 1502) rfl (kc := 34) rfl s1.1 s1.2.2.2.2.1).trans ?_
    refine (rn_iload_n (pc := 33) (dd bX13_addVirtual dX13_addVirtual_33) rfl).trans ?_
    refine (rg_iaload (pc := 34) (dd bX13_addVirtual dX13_addVirtual_34) s1.2.2.2.2.2.1 s1.2.2.2.2.2.2.1 (p4 c3) (p5 c3) rfl).trans ?_
    refine (rg_static (pc := 35) (dd bX13_addVirtual dX13_addVirtual_35) rfl (by decide) (Nat.le_of_ble_eq_true rfl) (as := [(0, x3), (0, 0), (0, h 2 284 x2)]) rfl rfl ⟨Nat.le_of_ble_eq_true rfl, Nat.le_of_ble_eq_true rfl, Nat.le_of_ble_eq_true rfl, Nat.le_of_ble_eq_true rfl⟩).trans ?_
    refine (vret_v spX13_isIn).trans ?_
    refine (rg_beq (t := 53) (pc := 38) (dd bX13_addVirtual dX13_addVirtual_38) rfl).trans (itec (fun c4 => ?_) (fun c4 => ?_))
    · refine (rn_lload (pc := 41) (dd bX13_addVirtual dX13_addVirtual_41) rfl).trans ?_
      exact rg_static (pc := 43) (dd bX13_addVirtual dX13_addVirtual_43) rfl (by decide) (Nat.le_of_ble_eq_true rfl) (as := [(2, x4)]) rfl rfl ⟨Nat.le_of_ble_eq_true rfl, Nat.le_of_ble_eq_true rfl, Nat.le_of_ble_eq_true rfl, Nat.le_of_ble_eq_true rfl⟩
    · refine (rn_iconst (pc := 53) (dd bX13_addVirtual dX13_addVirtual_53) (by decide)).trans ?_
      refine (rn_istore (pc := 54) (dd bX13_addVirtual dX13_addVirtual_54) (Nat.le_of_ble_eq_true rfl) rfl).trans ?_
      refine (rn_aload_n (pc := 56) (dd bX13_addVirtual dX13_addVirtual_56) rfl).trans ?_
      refine (rn_iload (pc := 57) (dd bX13_addVirtual dX13_addVirtual_57) rfl).trans ?_
      have e3 : vrun mX13_addVirtual 59 [(1, 282), (0, x1), (0, x2), (0, x3), (2, x4), (8, 0), (0, (if (¬ (x1 < 0) ∧ ¬ (3 < x1)) ∧ ¬ (fX13_isLine h x2 = 0) then 1 else 0)), (0, 0), (9, 0)] [(0, (if (¬ (x1 < 0) ∧ ¬ (3 < x1)) ∧ ¬ (fX13_isLine h x2 = 0) then 1 else 0)), (1, 282)] h = vrun mX13_addVirtual 91 [(1, 282), (0, x1), (0, x2), (0, x3), (2, x4), (8, 0), (0, (if (¬ (x1 < 0) ∧ ¬ (3 < x1)) ∧ ¬ (fX13_isLine h x2 = 0) then 1 else 0)), (0, 0), (9, 0)] [(0, (if (¬ (x1 < 0) ∧ ¬ (3 < x1)) ∧ ¬ (fX13_isLine h x2 = 0) then 2 else 1)), (1, 282)] h := by
        refine (rg_bne (t := 66) (pc := 59) (dd bX13_addVirtual dX13_addVirtual_59) rfl).trans ?_
        by_cases c5 : (¬ (x1 < 0) ∧ ¬ (3 < x1)) ∧ ¬ (fX13_isLine h x2 = 0)
        · refine (if_pos c5).trans ?_
          refine (rn_iload (pc := 66) (dd bX13_addVirtual dX13_addVirtual_66) rfl).trans ?_
          refine (rg_if_ne (t := 75) (pc := 68) (dd bX13_addVirtual dX13_addVirtual_68) rfl).trans ((if_pos (by decide)).trans ?_)
          refine (rn_iconst (pc := 71) (dd bX13_addVirtual dX13_addVirtual_71) (by decide)).trans ?_
          refine (rn_goto (t := 91) (pc := 72) (dd bX13_addVirtual dX13_addVirtual_72) rfl).trans ?_
          refine Eq.trans (b := vrun mX13_addVirtual 91 [(1, 282), (0, x1), (0, x2), (0, x3), (2, x4), (8, 0), (0, (if (¬ (x1 < 0) ∧ ¬ (3 < x1)) ∧ ¬ (fX13_isLine h x2 = 0) then 1 else 0)), (0, 0), (9, 0)] [(0, 2), (1, 282)] h) rfl ?_
          simp only [if_pos c5]
        · refine (if_neg c5).trans ?_
          refine (rn_iconst (pc := 62) (dd bX13_addVirtual dX13_addVirtual_62) (by decide)).trans ?_
          refine (rn_goto (t := 91) (pc := 63) (dd bX13_addVirtual dX13_addVirtual_63) rfl).trans ?_
          refine Eq.trans (b := vrun mX13_addVirtual 91 [(1, 282), (0, x1), (0, x2), (0, x3), (2, x4), (8, 0), (0, (if (¬ (x1 < 0) ∧ ¬ (3 < x1)) ∧ ¬ (fX13_isLine h x2 = 0) then 1 else 0)), (0, 0), (9, 0)] [(0, 1), (1, 282)] h) rfl ?_
          simp only [if_neg c5]
      refine e3.trans ?_
      exact rg_virtual (pc := 91) (dd bX13_addVirtual dX13_addVirtual_91) rfl rfl (by decide) (kc := 34) rfl s1.1 (as := [(1, 282), (0, (if (¬ (x1 < 0) ∧ ¬ (3 < x1)) ∧ ¬ (fX13_isLine h x2 = 0) then 2 else 1))]) rfl ⟨Nat.le_of_ble_eq_true rfl, Nat.le_of_ble_eq_true rfl, Nat.le_of_ble_eq_true rfl, Nat.le_of_ble_eq_true rfl⟩
  · refine (rn_iconst (pc := 53) (dd bX13_addVirtual dX13_addVirtual_53) (by decide)).trans ?_
    refine (rn_istore (pc := 54) (dd bX13_addVirtual dX13_addVirtual_54) (Nat.le_of_ble_eq_true rfl) rfl).trans ?_
    refine (rn_aload_n (pc := 56) (dd bX13_addVirtual dX13_addVirtual_56) rfl).trans ?_
    refine (rn_iload (pc := 57) (dd bX13_addVirtual dX13_addVirtual_57) rfl).trans ?_
    have e4 : vrun mX13_addVirtual 59 [(1, 282), (0, x1), (0, x2), (0, x3), (2, x4), (8, 0), (0, (if (¬ (x1 < 0) ∧ ¬ (3 < x1)) ∧ ¬ (fX13_isLine h x2 = 0) then 1 else 0)), (0, 0), (9, 0)] [(0, (if (¬ (x1 < 0) ∧ ¬ (3 < x1)) ∧ ¬ (fX13_isLine h x2 = 0) then 1 else 0)), (1, 282)] h = vrun mX13_addVirtual 91 [(1, 282), (0, x1), (0, x2), (0, x3), (2, x4), (8, 0), (0, (if (¬ (x1 < 0) ∧ ¬ (3 < x1)) ∧ ¬ (fX13_isLine h x2 = 0) then 1 else 0)), (0, 0), (9, 0)] [(0, (if (¬ (x1 < 0) ∧ ¬ (3 < x1)) ∧ ¬ (fX13_isLine h x2 = 0) then 2 else 1)), (1, 282)] h := by
      refine (rg_bne (t := 66) (pc := 59) (dd bX13_addVirtual dX13_addVirtual_59) rfl).trans ?_
      by_cases c6 : (¬ (x1 < 0) ∧ ¬ (3 < x1)) ∧ ¬ (fX13_isLine h x2 = 0)
      · refine (if_pos c6).trans ?_
        refine (rn_iload (pc := 66) (dd bX13_addVirtual dX13_addVirtual_66) rfl).trans ?_
        refine (rg_if_ne (t := 75) (pc := 68) (dd bX13_addVirtual dX13_addVirtual_68) rfl).trans ((if_pos (by decide)).trans ?_)
        refine (rn_iconst (pc := 71) (dd bX13_addVirtual dX13_addVirtual_71) (by decide)).trans ?_
        refine (rn_goto (t := 91) (pc := 72) (dd bX13_addVirtual dX13_addVirtual_72) rfl).trans ?_
        refine Eq.trans (b := vrun mX13_addVirtual 91 [(1, 282), (0, x1), (0, x2), (0, x3), (2, x4), (8, 0), (0, (if (¬ (x1 < 0) ∧ ¬ (3 < x1)) ∧ ¬ (fX13_isLine h x2 = 0) then 1 else 0)), (0, 0), (9, 0)] [(0, 2), (1, 282)] h) rfl ?_
        simp only [if_pos c6]
      · refine (if_neg c6).trans ?_
        refine (rn_iconst (pc := 62) (dd bX13_addVirtual dX13_addVirtual_62) (by decide)).trans ?_
        refine (rn_goto (t := 91) (pc := 63) (dd bX13_addVirtual dX13_addVirtual_63) rfl).trans ?_
        refine Eq.trans (b := vrun mX13_addVirtual 91 [(1, 282), (0, x1), (0, x2), (0, x3), (2, x4), (8, 0), (0, (if (¬ (x1 < 0) ∧ ¬ (3 < x1)) ∧ ¬ (fX13_isLine h x2 = 0) then 1 else 0)), (0, 0), (9, 0)] [(0, 1), (1, 282)] h) rfl ?_
        simp only [if_neg c6]
    refine e4.trans ?_
    exact rg_virtual (pc := 91) (dd bX13_addVirtual dX13_addVirtual_91) rfl rfl (by decide) (kc := 34) rfl s1.1 (as := [(1, 282), (0, (if (¬ (x1 < 0) ∧ ¬ (3 < x1)) ∧ ¬ (fX13_isLine h x2 = 0) then 2 else 1))]) rfl ⟨Nat.le_of_ble_eq_true rfl, Nat.le_of_ble_eq_true rfl, Nat.le_of_ble_eq_true rfl, Nat.le_of_ble_eq_true rfl⟩
theorem rX13_addVirtual_46 {x1 : Int} {x2 : Int} {x3 : Int} {x4 : Int} {x6 : Int} {y0 : Int} {h : vH} (s1 : shModel h) (p2 : ¬ (x6 = 0) → ¬ (y0 ≤ 0) → 0 ≤ x1) (p3 : ¬ (x6 = 0) → ¬ (y0 ≤ 0) → x1 < 4) : vrun mX13_addVirtual 46 [(1, 282), (0, x1), (0, x2), (0, x3), (2, x4), (8, 0), (0, x6), (9, 0), (9, 0)] [(0, y0)] h = vret vrun mX13_addVirtual 91 [(1, 282), (0, x1), (0, x2), (0, x3), (2, x4), (8, 0), (0, x6), (0, (if ¬ (y0 ≤ 0) then 1 else 0)), (9, 0)] [] (vcl mX13_isFine [(1, 282), (0, (if x6 = 0 then 1 else (if ¬ (y0 ≤ 0) then (if h 2 297 x1 = 6 then 3 else 0) else 2)))] h) := by
  have e1 : vrun mX13_addVirtual 46 [(1, 282), (0, x1), (0, x2), (0, x3), (2, x4), (8, 0), (0, x6), (9, 0), (9, 0)] [(0, y0)] h = vrun mX13_addVirtual 54 [(1, 282), (0, x1), (0, x2), (0, x3), (2, x4), (8, 0), (0, x6), (9, 0), (9, 0)] [(0, (if ¬ (y0 ≤ 0) then 1 else 0))] h := by
    refine (rn_if_le (t := 53) (pc := 46) (dd bX13_addVirtual dX13_addVirtual_46) rfl).trans ?_
    by_cases c1 : y0 ≤ 0
    · refine (if_pos c1).trans ?_
      refine (rn_iconst (pc := 53) (dd bX13_addVirtual dX13_addVirtual_53) (by decide)).trans ?_
      refine Eq.trans (b := vrun mX13_addVirtual 54 [(1, 282), (0, x1), (0, x2), (0, x3), (2, x4), (8, 0), (0, x6), (9, 0), (9, 0)] [(0, 0)] h) rfl ?_
      simp only [c1, true_or, false_or, or_true, or_false, true_and, false_and, and_true, and_false, not_true_eq_false, not_false_eq_true, ne_eq, if_true, if_false, ↓reduceIte]
    · refine (if_neg c1).trans ?_
      refine (rn_iconst (pc := 49) (dd bX13_addVirtual dX13_addVirtual_49) (by decide)).trans ?_
      refine (rn_goto (t := 54) (pc := 50) (dd bX13_addVirtual dX13_addVirtual_50) rfl).trans ?_
      refine Eq.trans (b := vrun mX13_addVirtual 54 [(1, 282), (0, x1), (0, x2), (0, x3), (2, x4), (8, 0), (0, x6), (9, 0), (9, 0)] [(0, 1)] h) rfl ?_
      simp only [c1, true_or, false_or, or_true, or_false, true_and, false_and, and_true, and_false, not_true_eq_false, not_false_eq_true, ne_eq, if_true, if_false, ↓reduceIte]
  refine e1.trans ?_
  refine (rn_istore (pc := 54) (dd bX13_addVirtual dX13_addVirtual_54) (Nat.le_of_ble_eq_true rfl) rfl).trans ?_
  refine (rn_aload_n (pc := 56) (dd bX13_addVirtual dX13_addVirtual_56) rfl).trans ?_
  refine (rn_iload (pc := 57) (dd bX13_addVirtual dX13_addVirtual_57) rfl).trans ?_
  have e4 : vrun mX13_addVirtual 59 [(1, 282), (0, x1), (0, x2), (0, x3), (2, x4), (8, 0), (0, x6), (0, (if ¬ (y0 ≤ 0) then 1 else 0)), (9, 0)] [(0, x6), (1, 282)] h = vrun mX13_addVirtual 91 [(1, 282), (0, x1), (0, x2), (0, x3), (2, x4), (8, 0), (0, x6), (0, (if ¬ (y0 ≤ 0) then 1 else 0)), (9, 0)] [(0, (if x6 = 0 then 1 else (if ¬ (y0 ≤ 0) then (if h 2 297 x1 = 6 then 3 else 0) else 2))), (1, 282)] h := by
    refine (rg_if_ne (t := 66) (pc := 59) (dd bX13_addVirtual dX13_addVirtual_59) rfl).trans ?_
    by_cases c2 : x6 = 0
    · refine (if_pos c2).trans ?_
      refine (rn_iconst (pc := 62) (dd bX13_addVirtual dX13_addVirtual_62) (by decide)).trans ?_
      refine (rn_goto (t := 91) (pc := 63) (dd bX13_addVirtual dX13_addVirtual_63) rfl).trans ?_
      refine Eq.trans (b := vrun mX13_addVirtual 91 [(1, 282), (0, x1), (0, x2), (0, x3), (2, x4), (8, 0), (0, x6), (0, (if ¬ (y0 ≤ 0) then 1 else 0)), (9, 0)] [(0, 1), (1, 282)] h) rfl ?_
      simp only [if_pos c2]
    · refine (if_neg c2).trans ?_
      refine (rn_iload (pc := 66) (dd bX13_addVirtual dX13_addVirtual_66) rfl).trans ?_
      have e3 : vrun mX13_addVirtual 68 [(1, 282), (0, x1), (0, x2), (0, x3), (2, x4), (8, 0), (0, x6), (0, (if ¬ (y0 ≤ 0) then 1 else 0)), (9, 0)] [(0, (if ¬ (y0 ≤ 0) then 1 else 0)), (1, 282)] h = vrun mX13_addVirtual 91 [(1, 282), (0, x1), (0, x2), (0, x3), (2, x4), (8, 0), (0, x6), (0, (if ¬ (y0 ≤ 0) then 1 else 0)), (9, 0)] [(0, (if ¬ (y0 ≤ 0) then (if h 2 297 x1 = 6 then 3 else 0) else 2)), (1, 282)] h := by
        refine (rg_bne (t := 75) (pc := 68) (dd bX13_addVirtual dX13_addVirtual_68) rfl).trans ?_
        by_cases c3 : ¬ (y0 ≤ 0)
        · refine (if_pos c3).trans ?_
          refine (rn_aload_n (pc := 75) (dd bX13_addVirtual dX13_addVirtual_75) rfl).trans ?_
          refine (rg_gf (pc := 76) (dd bX13_addVirtual dX13_addVirtual_76) (ci := 14) (j := 16) rfl rfl (key := 1516) rfl (kc := 34) rfl s1.1 s1.2.2.2.2.2.2.2.2.2.2.2.2.2.2.2.2.2.2.2.2.2.2.2.2.2.2.2.2.2.2.2.2.2.2.2.2.2.2.2.2.2.2.2.1).trans ?_
          refine (rn_iload_n (pc := 79) (dd bX13_addVirtual dX13_addVirtual_79) rfl).trans ?_
          refine (rg_iaload (pc := 80) (dd bX13_addVirtual dX13_addVirtual_80) s1.2.2.2.2.2.2.2.2.2.2.2.2.2.2.2.2.2.2.2.2.2.2.2.2.2.2.2.2.2.2.2.2.2.2.2.2.2.2.2.2.2.2.2.2.1 s1.2.2.2.2.2.2.2.2.2.2.2.2.2.2.2.2.2.2.2.2.2.2.2.2.2.2.2.2.2.2.2.2.2.2.2.2.2.2.2.2.2.2.2.2.2.1 (p2 c2 c3) (p3 c2 c3) rfl).trans ?_
          refine (rn_bipush (pc := 81) (dd bX13_addVirtual dX13_addVirtual_81) (by decide)).trans ?_
          have e2 : vrun mX13_addVirtual 83 [(1, 282), (0, x1), (0, x2), (0, x3), (2, x4), (8, 0), (0, x6), (0, (if ¬ (y0 ≤ 0) then 1 else 0)), (9, 0)] [(0, 6), (0, h 2 297 x1), (1, 282)] h = vrun mX13_addVirtual 91 [(1, 282), (0, x1), (0, x2), (0, x3), (2, x4), (8, 0), (0, x6), (0, (if ¬ (y0 ≤ 0) then 1 else 0)), (9, 0)] [(0, (if h 2 297 x1 = 6 then 3 else 0)), (1, 282)] h := by
            refine (rg_icmp_ne (t := 90) (pc := 83) (dd bX13_addVirtual dX13_addVirtual_83) rfl).trans ?_
            by_cases c4 : h 2 297 x1 = 6
            · refine (if_pos c4).trans ?_
              refine (rn_iconst (pc := 86) (dd bX13_addVirtual dX13_addVirtual_86) (by decide)).trans ?_
              refine (rn_goto (t := 91) (pc := 87) (dd bX13_addVirtual dX13_addVirtual_87) rfl).trans ?_
              refine Eq.trans (b := vrun mX13_addVirtual 91 [(1, 282), (0, x1), (0, x2), (0, x3), (2, x4), (8, 0), (0, x6), (0, (if ¬ (y0 ≤ 0) then 1 else 0)), (9, 0)] [(0, 3), (1, 282)] h) rfl ?_
              simp only [if_pos c4]
            · refine (if_neg c4).trans ?_
              refine (rn_iconst (pc := 90) (dd bX13_addVirtual dX13_addVirtual_90) (by decide)).trans ?_
              refine Eq.trans (b := vrun mX13_addVirtual 91 [(1, 282), (0, x1), (0, x2), (0, x3), (2, x4), (8, 0), (0, x6), (0, (if ¬ (y0 ≤ 0) then 1 else 0)), (9, 0)] [(0, 0), (1, 282)] h) rfl ?_
              simp only [if_neg c4]
          refine e2.trans ?_
          refine Eq.trans (b := vrun mX13_addVirtual 91 [(1, 282), (0, x1), (0, x2), (0, x3), (2, x4), (8, 0), (0, x6), (0, (if ¬ (y0 ≤ 0) then 1 else 0)), (9, 0)] [(0, (if h 2 297 x1 = 6 then 3 else 0)), (1, 282)] h) rfl ?_
          simp only [if_pos c3]
        · refine (if_neg c3).trans ?_
          refine (rn_iconst (pc := 71) (dd bX13_addVirtual dX13_addVirtual_71) (by decide)).trans ?_
          refine (rn_goto (t := 91) (pc := 72) (dd bX13_addVirtual dX13_addVirtual_72) rfl).trans ?_
          refine Eq.trans (b := vrun mX13_addVirtual 91 [(1, 282), (0, x1), (0, x2), (0, x3), (2, x4), (8, 0), (0, x6), (0, (if ¬ (y0 ≤ 0) then 1 else 0)), (9, 0)] [(0, 2), (1, 282)] h) rfl ?_
          simp only [if_neg c3]
      refine e3.trans ?_
      refine Eq.trans (b := vrun mX13_addVirtual 91 [(1, 282), (0, x1), (0, x2), (0, x3), (2, x4), (8, 0), (0, x6), (0, (if ¬ (y0 ≤ 0) then 1 else 0)), (9, 0)] [(0, (if ¬ (y0 ≤ 0) then (if h 2 297 x1 = 6 then 3 else 0) else 2)), (1, 282)] h) rfl ?_
      simp only [if_neg c2]
  refine e4.trans ?_
  exact rg_virtual (pc := 91) (dd bX13_addVirtual dX13_addVirtual_91) rfl rfl (by decide) (kc := 34) rfl s1.1 (as := [(1, 282), (0, (if x6 = 0 then 1 else (if ¬ (y0 ≤ 0) then (if h 2 297 x1 = 6 then 3 else 0) else 2)))]) rfl ⟨Nat.le_of_ble_eq_true rfl, Nat.le_of_ble_eq_true rfl, Nat.le_of_ble_eq_true rfl, Nat.le_of_ble_eq_true rfl⟩
theorem rX13_addVirtual_94 {x1 : Int} {x2 : Int} {x3 : Int} {x4 : Int} {x6 : Int} {x7 : Int} {y0 : Int} {h : vH} (p1 : ¬ (y0 = 0) → (-2147483648) ≤ 6 * x1) (p2 : ¬ (y0 = 0) → 6 * x1 < 2147483648) (s3 : shModel h) (p4 : ¬ (y0 = 0) → 0 ≤ x1) (p5 : ¬ (y0 = 0) → x1 < 4) (p6 : ¬ (y0 = 0) → (-2147483648) ≤ 6 * x1 + h 2 297 x1) (p7 : ¬ (y0 = 0) → 6 * x1 + h 2 297 x1 < 2147483648) (p8 : ¬ (y0 = 0) → 0 ≤ 6 * x1 + h 2 297 x1) (p9 : ¬ (y0 = 0) → 6 * x1 + h 2 297 x1 < 24) (p10 : ¬ (y0 = 0) → (-2147483648) ≤ h 2 297 x1 + 1) (p11 : ¬ (y0 = 0) → h 2 297 x1 + 1 < 2147483648) : vrun mX13_addVirtual 94 [(1, 282), (0, x1), (0, x2), (0, x3), (2, x4), (8, 0), (0, x6), (0, x7), (9, 0)] [(0, y0)] h = if y0 = 0 then some (.inl (some (0, 0)), h) else some (.inl (some (0, (vup (vup (vup (vup h 2 298 (6 * x1 + h 2 297 x1) x2) 2 299 (6 * x1 + h 2 297 x1) x3) 2 300 (6 * x1 + h 2 297 x1) x4) 2 297 x1 (h 2 297 x1 + 1)) 2 297 x1)), vup (vup (vup (vup h 2 298 (6 * x1 + h 2 297 x1) x2) 2 299 (6 * x1 + h 2 297 x1) x3) 2 300 (6 * x1 + h 2 297 x1) x4) 2 297 x1 (h 2 297 x1 + 1)) := by
  refine (rg_if_ne (t := 99) (pc := 94) (dd bX13_addVirtual dX13_addVirtual_94) rfl).trans (itec (fun c1 => ?_) (fun c1 => ?_))
  · refine (rn_iconst (pc := 97) (dd bX13_addVirtual dX13_addVirtual_97) (by decide)).trans ?_
    exact rn_ireturn (pc := 98) (dd bX13_addVirtual dX13_addVirtual_98) (Or.inl rfl)
  · refine (rn_bipush (pc := 99) (dd bX13_addVirtual dX13_addVirtual_99) (by decide)).trans ?_
    refine (rn_iload_n (pc := 101) (dd bX13_addVirtual dX13_addVirtual_101) rfl).trans ?_
    refine (rg_imul (pc := 102) (dd bX13_addVirtual dX13_addVirtual_102) (p1 c1) (p2 c1)).trans ?_
    refine (rn_aload_n (pc := 103) (dd bX13_addVirtual dX13_addVirtual_103) rfl).trans ?_
    refine (rg_gf (pc := 104) (dd bX13_addVirtual dX13_addVirtual_104) (ci := 14) (j := 16) rfl rfl (key := 1516) rfl (kc := 34) rfl s3.1 s3.2.2.2.2.2.2.2.2.2.2.2.2.2.2.2.2.2.2.2.2.2.2.2.2.2.2.2.2.2.2.2.2.2.2.2.2.2.2.2.2.2.2.2.1).trans ?_
    refine (rn_iload_n (pc := 107) (dd bX13_addVirtual dX13_addVirtual_107) rfl).trans ?_
    refine (rg_iaload (pc := 108) (dd bX13_addVirtual dX13_addVirtual_108) s3.2.2.2.2.2.2.2.2.2.2.2.2.2.2.2.2.2.2.2.2.2.2.2.2.2.2.2.2.2.2.2.2.2.2.2.2.2.2.2.2.2.2.2.2.1 s3.2.2.2.2.2.2.2.2.2.2.2.2.2.2.2.2.2.2.2.2.2.2.2.2.2.2.2.2.2.2.2.2.2.2.2.2.2.2.2.2.2.2.2.2.2.1 (p4 c1) (p5 c1) rfl).trans ?_
    refine (rg_iadd (pc := 109) (dd bX13_addVirtual dX13_addVirtual_109) (p6 c1) (p7 c1)).trans ?_
    refine (rn_istore (pc := 110) (dd bX13_addVirtual dX13_addVirtual_110) (Nat.le_of_ble_eq_true rfl) rfl).trans ?_
    refine (rn_aload_n (pc := 112) (dd bX13_addVirtual dX13_addVirtual_112) rfl).trans ?_
    refine (rg_gf (pc := 113) (dd bX13_addVirtual dX13_addVirtual_113) (ci := 14) (j := 17) rfl rfl (key := 1517) rfl (kc := 34) rfl s3.1 s3.2.2.2.2.2.2.2.2.2.2.2.2.2.2.2.2.2.2.2.2.2.2.2.2.2.2.2.2.2.2.2.2.2.2.2.2.2.2.2.2.2.2.2.2.2.2.1).trans ?_
    refine (rn_iload (pc := 116) (dd bX13_addVirtual dX13_addVirtual_116) rfl).trans ?_
    refine (rn_iload_n (pc := 118) (dd bX13_addVirtual dX13_addVirtual_118) rfl).trans ?_
    refine (rg_iastore (pc := 119) (dd bX13_addVirtual dX13_addVirtual_119) s3.2.2.2.2.2.2.2.2.2.2.2.2.2.2.2.2.2.2.2.2.2.2.2.2.2.2.2.2.2.2.2.2.2.2.2.2.2.2.2.2.2.2.2.2.2.2.2.1 s3.2.2.2.2.2.2.2.2.2.2.2.2.2.2.2.2.2.2.2.2.2.2.2.2.2.2.2.2.2.2.2.2.2.2.2.2.2.2.2.2.2.2.2.2.2.2.2.2.1 (p8 c1) (p9 c1)).trans ?_
    refine (rn_aload_n (pc := 120) (dd bX13_addVirtual dX13_addVirtual_120) rfl).trans ?_
    refine (rg_gf (pc := 121) (dd bX13_addVirtual dX13_addVirtual_121) (ci := 14) (j := 18) rfl rfl (key := 1518) rfl (kc := 34) rfl ((vup_k (by decide)).trans s3.1) ((vup_k (by decide)).trans s3.2.2.2.2.2.2.2.2.2.2.2.2.2.2.2.2.2.2.2.2.2.2.2.2.2.2.2.2.2.2.2.2.2.2.2.2.2.2.2.2.2.2.2.2.2.2.2.2.2.1)).trans ?_
    refine (rn_iload (pc := 124) (dd bX13_addVirtual dX13_addVirtual_124) rfl).trans ?_
    refine (rn_iload_n (pc := 126) (dd bX13_addVirtual dX13_addVirtual_126) rfl).trans ?_
    refine (rg_iastore (pc := 127) (dd bX13_addVirtual dX13_addVirtual_127) ((vup_k (by decide)).trans s3.2.2.2.2.2.2.2.2.2.2.2.2.2.2.2.2.2.2.2.2.2.2.2.2.2.2.2.2.2.2.2.2.2.2.2.2.2.2.2.2.2.2.2.2.2.2.2.2.2.2.1) ((vup_k (by decide)).trans s3.2.2.2.2.2.2.2.2.2.2.2.2.2.2.2.2.2.2.2.2.2.2.2.2.2.2.2.2.2.2.2.2.2.2.2.2.2.2.2.2.2.2.2.2.2.2.2.2.2.2.2.1) (by have z0 := p1 c1; have z1 := p2 c1; have z2 := p6 c1; have z3 := p7 c1; have z4 := p8 c1; have z5 := p9 c1; omega) (by have z0 := p1 c1; have z1 := p2 c1; have z2 := p6 c1; have z3 := p7 c1; have z4 := p8 c1; have z5 := p9 c1; omega)).trans ?_
    refine (rn_aload_n (pc := 128) (dd bX13_addVirtual dX13_addVirtual_128) rfl).trans ?_
    refine (rg_gf (pc := 129) (dd bX13_addVirtual dX13_addVirtual_129) (ci := 14) (j := 19) rfl rfl (key := 1519) rfl (kc := 34) rfl ((vup_k (by decide)).trans ((vup_k (by decide)).trans s3.1)) ((vup_k (by decide)).trans ((vup_k (by decide)).trans s3.2.2.2.2.2.2.2.2.2.2.2.2.2.2.2.2.2.2.2.2.2.2.2.2.2.2.2.2.2.2.2.2.2.2.2.2.2.2.2.2.2.2.2.2.2.2.2.2.2.2.2.2.1))).trans ?_
    refine (rn_iload (pc := 132) (dd bX13_addVirtual dX13_addVirtual_132) rfl).trans ?_
    refine (rn_lload (pc := 134) (dd bX13_addVirtual dX13_addVirtual_134) rfl).trans ?_
    refine (rg_lastore (pc := 136) (dd bX13_addVirtual dX13_addVirtual_136) ((vup_k (by decide)).trans ((vup_k (by decide)).trans s3.2.2.2.2.2.2.2.2.2.2.2.2.2.2.2.2.2.2.2.2.2.2.2.2.2.2.2.2.2.2.2.2.2.2.2.2.2.2.2.2.2.2.2.2.2.2.2.2.2.2.2.2.2.1)) ((vup_k (by decide)).trans ((vup_k (by decide)).trans s3.2.2.2.2.2.2.2.2.2.2.2.2.2.2.2.2.2.2.2.2.2.2.2.2.2.2.2.2.2.2.2.2.2.2.2.2.2.2.2.2.2.2.2.2.2.2.2.2.2.2.2.2.2.2.1)) (by have z0 := p1 c1; have z1 := p2 c1; have z2 := p6 c1; have z3 := p7 c1; have z4 := p8 c1; have z5 := p9 c1; omega) (by have z0 := p1 c1; have z1 := p2 c1; have z2 := p6 c1; have z3 := p7 c1; have z4 := p8 c1; have z5 := p9 c1; omega)).trans ?_
    refine (rn_aload_n (pc := 137) (dd bX13_addVirtual dX13_addVirtual_137) rfl).trans ?_
    refine (rg_gf (pc := 138) (dd bX13_addVirtual dX13_addVirtual_138) (ci := 14) (j := 16) rfl rfl (key := 1516) rfl (kc := 34) rfl ((vup_k (by decide)).trans ((vup_k (by decide)).trans ((vup_k (by decide)).trans s3.1))) ((vup_k (by decide)).trans ((vup_k (by decide)).trans ((vup_k (by decide)).trans s3.2.2.2.2.2.2.2.2.2.2.2.2.2.2.2.2.2.2.2.2.2.2.2.2.2.2.2.2.2.2.2.2.2.2.2.2.2.2.2.2.2.2.2.1)))).trans ?_
    refine (rn_iload_n (pc := 141) (dd bX13_addVirtual dX13_addVirtual_141) rfl).trans ?_
    refine (rn_dup2 (pc := 142) (dd bX13_addVirtual dX13_addVirtual_142) (by decide)).trans ?_
    refine (rg_iaload (pc := 143) (dd bX13_addVirtual dX13_addVirtual_143) ((vup_k (by decide)).trans ((vup_k (by decide)).trans ((vup_k (by decide)).trans s3.2.2.2.2.2.2.2.2.2.2.2.2.2.2.2.2.2.2.2.2.2.2.2.2.2.2.2.2.2.2.2.2.2.2.2.2.2.2.2.2.2.2.2.2.1))) ((vup_k (by decide)).trans ((vup_k (by decide)).trans ((vup_k (by decide)).trans s3.2.2.2.2.2.2.2.2.2.2.2.2.2.2.2.2.2.2.2.2.2.2.2.2.2.2.2.2.2.2.2.2.2.2.2.2.2.2.2.2.2.2.2.2.2.1))) (by have z0 := p4 c1; have z1 := p5 c1; omega) (by have z0 := p4 c1; have z1 := p5 c1; omega) ((vup_r (by omega)).trans ((vup_r (by omega)).trans ((vup_r (by omega)).trans rfl)))).trans ?_
    refine (rn_iconst (pc := 144) (dd bX13_addVirtual dX13_addVirtual_144) (by decide)).trans ?_
    refine (rg_iadd (pc := 145) (dd bX13_addVirtual dX13_addVirtual_145) (p10 c1) (p11 c1)).trans ?_
    refine (rg_iastore (pc := 146) (dd bX13_addVirtual dX13_addVirtual_146) ((vup_k (by decide)).trans ((vup_k (by decide)).trans ((vup_k (by decide)).trans s3.2.2.2.2.2.2.2.2.2.2.2.2.2.2.2.2.2.2.2.2.2.2.2.2.2.2.2.2.2.2.2.2.2.2.2.2.2.2.2.2.2.2.2.2.1))) ((vup_k (by decide)).trans ((vup_k (by decide)).trans ((vup_k (by decide)).trans s3.2.2.2.2.2.2.2.2.2.2.2.2.2.2.2.2.2.2.2.2.2.2.2.2.2.2.2.2.2.2.2.2.2.2.2.2.2.2.2.2.2.2.2.2.2.1))) (by have z0 := p4 c1; have z1 := p5 c1; omega) (by have z0 := p4 c1; have z1 := p5 c1; omega)).trans ?_
    refine (rn_aload_n (pc := 147) (dd bX13_addVirtual dX13_addVirtual_147) rfl).trans ?_
    refine (rg_gf (pc := 148) (dd bX13_addVirtual dX13_addVirtual_148) (ci := 14) (j := 16) rfl rfl (key := 1516) rfl (kc := 34) rfl ((vup_k (by decide)).trans ((vup_k (by decide)).trans ((vup_k (by decide)).trans ((vup_k (by decide)).trans s3.1)))) ((vup_k (by decide)).trans ((vup_k (by decide)).trans ((vup_k (by decide)).trans ((vup_k (by decide)).trans s3.2.2.2.2.2.2.2.2.2.2.2.2.2.2.2.2.2.2.2.2.2.2.2.2.2.2.2.2.2.2.2.2.2.2.2.2.2.2.2.2.2.2.2.1))))).trans ?_
    refine (rn_iload_n (pc := 151) (dd bX13_addVirtual dX13_addVirtual_151) rfl).trans ?_
    refine (rg_iaload (pc := 152) (dd bX13_addVirtual dX13_addVirtual_152) ((vup_k (by decide)).trans ((vup_k (by decide)).trans ((vup_k (by decide)).trans ((vup_k (by decide)).trans s3.2.2.2.2.2.2.2.2.2.2.2.2.2.2.2.2.2.2.2.2.2.2.2.2.2.2.2.2.2.2.2.2.2.2.2.2.2.2.2.2.2.2.2.2.1)))) ((vup_k (by decide)).trans ((vup_k (by decide)).trans ((vup_k (by decide)).trans ((vup_k (by decide)).trans s3.2.2.2.2.2.2.2.2.2.2.2.2.2.2.2.2.2.2.2.2.2.2.2.2.2.2.2.2.2.2.2.2.2.2.2.2.2.2.2.2.2.2.2.2.2.1)))) (by have z0 := p4 c1; have z1 := p5 c1; omega) (by have z0 := p4 c1; have z1 := p5 c1; omega) rfl).trans ?_
    exact rn_ireturn (pc := 153) (dd bX13_addVirtual dX13_addVirtual_153) (Or.inl rfl)
theorem bX13_dropVirtual : vmB mX13_dropVirtual = cX13_dropVirtual := rfl
theorem rX13_dropVirtual_0 {x1 : Int} {x2 : Int} {h : vH} (s1 : shModel h) (p2 : ¬ (x1 < 0) ∧ ¬ (3 < x1) → 0 ≤ x1) (p3 : ¬ (x1 < 0) ∧ ¬ (3 < x1) → x1 < 4) (p4 : ¬ (x1 < 0) ∧ ¬ (3 < x1) → (-2147483648) ≤ h 2 297 x1 - 1) (p5 : ¬ (x1 < 0) ∧ ¬ (3 < x1) → h 2 297 x1 - 1 < 2147483648) : vrun mX13_dropVirtual 0 [(1, 282), (0, x1), (0, x2), (9, 0), (9, 0)] [] h = vret vrun mX13_dropVirtual 35 [(1, 282), (0, x1), (0, x2), (0, (if ¬ (x1 < 0) ∧ ¬ (3 < x1) then 1 else 0)), (9, 0)] [] (vcl mX13_isFine [(1, 282), (0, (if ¬ (x1 < 0) ∧ ¬ (3 < x1) then (if ¬ (x2 < 0) ∧ ¬ (h 2 297 x1 - 1 < x2) then 0 else 2) else 1))] h) := by
  refine (rn_iload_n (pc := 0) (dd bX13_dropVirtual dX13_dropVirtual_0) rfl).trans ?_
  refine (rg_static (pc := 1) (dd bX13_dropVirtual dX13_dropVirtual_1) rfl (by decide) (Nat.le_of_ble_eq_true rfl) (as := [(0, x1)]) rfl rfl ⟨Nat.le_of_ble_eq_true rfl, Nat.le_of_ble_eq_true rfl, Nat.le_of_ble_eq_true rfl, Nat.le_of_ble_eq_true rfl⟩).trans ?_
  refine (vret_v spX13_isPane).trans ?_
  refine (rn_istore_n (pc := 4) (dd bX13_dropVirtual dX13_dropVirtual_4) (Nat.le_of_ble_eq_true rfl) rfl).trans ?_
  refine (rn_aload_n (pc := 5) (dd bX13_dropVirtual dX13_dropVirtual_5) rfl).trans ?_
  refine (rn_iload_n (pc := 6) (dd bX13_dropVirtual dX13_dropVirtual_6) rfl).trans ?_
  have e2 : vrun mX13_dropVirtual 7 [(1, 282), (0, x1), (0, x2), (0, (if ¬ (x1 < 0) ∧ ¬ (3 < x1) then 1 else 0)), (9, 0)] [(0, (if ¬ (x1 < 0) ∧ ¬ (3 < x1) then 1 else 0)), (1, 282)] h = vrun mX13_dropVirtual 35 [(1, 282), (0, x1), (0, x2), (0, (if ¬ (x1 < 0) ∧ ¬ (3 < x1) then 1 else 0)), (9, 0)] [(0, (if ¬ (x1 < 0) ∧ ¬ (3 < x1) then (if ¬ (x2 < 0) ∧ ¬ (h 2 297 x1 - 1 < x2) then 0 else 2) else 1)), (1, 282)] h := by
    refine (rg_bne (t := 14) (pc := 7) (dd bX13_dropVirtual dX13_dropVirtual_7) rfl).trans ?_
    by_cases c1 : ¬ (x1 < 0) ∧ ¬ (3 < x1)
    · refine (if_pos c1).trans ?_
      refine (rn_iload_n (pc := 14) (dd bX13_dropVirtual dX13_dropVirtual_14) rfl).trans ?_
      refine (rn_iconst (pc := 15) (dd bX13_dropVirtual dX13_dropVirtual_15) (by decide)).trans ?_
      refine (rn_aload_n (pc := 16) (dd bX13_dropVirtual dX13_dropVirtual_16) rfl).trans ?_
      refine (rg_gf (pc := 17) (dd bX13_dropVirtual dX13_dropVirtual_17) (ci := 14) (j := 16) rfl rfl (key := 1516) rfl (kc := 34) rfl s1.1 s1.2.2.2.2.2.2.2.2.2.2.2.2.2.2.2.2.2.2.2.2.2.2.2.2.2.2.2.2.2.2.2.2.2.2.2.2.2.2.2.2.2.2.2.1).trans ?_
      refine (rn_iload_n (pc := 20) (dd bX13_dropVirtual dX13_dropVirtual_20) rfl).trans ?_
      refine (rg_iaload (pc := 21) (dd bX13_dropVirtual dX13_dropVirtual_21) s1.2.2.2.2.2.2.2.2.2.2.2.2.2.2.2.2.2.2.2.2.2.2.2.2.2.2.2.2.2.2.2.2.2.2.2.2.2.2.2.2.2.2.2.2.1 s1.2.2.2.2.2.2.2.2.2.2.2.2.2.2.2.2.2.2.2.2.2.2.2.2.2.2.2.2.2.2.2.2.2.2.2.2.2.2.2.2.2.2.2.2.2.1 (p2 c1) (p3 c1) rfl).trans ?_
      refine (rn_iconst (pc := 22) (dd bX13_dropVirtual dX13_dropVirtual_22) (by decide)).trans ?_
      refine (rg_isub (pc := 23) (dd bX13_dropVirtual dX13_dropVirtual_23) (p4 c1) (p5 c1)).trans ?_
      refine (rg_static (pc := 24) (dd bX13_dropVirtual dX13_dropVirtual_24) rfl (by decide) (Nat.le_of_ble_eq_true rfl) (as := [(0, x2), (0, 0), (0, h 2 297 x1 - 1)]) rfl rfl ⟨Nat.le_of_ble_eq_true rfl, Nat.le_of_ble_eq_true rfl, Nat.le_of_ble_eq_true rfl, Nat.le_of_ble_eq_true rfl⟩).trans ?_
      refine (vret_v spX13_isIn).trans ?_
      have e1 : vrun mX13_dropVirtual 27 [(1, 282), (0, x1), (0, x2), (0, (if ¬ (x1 < 0) ∧ ¬ (3 < x1) then 1 else 0)), (9, 0)] [(0, (if ¬ (x2 < 0) ∧ ¬ (h 2 297 x1 - 1 < x2) then 1 else 0)), (1, 282)] h = vrun mX13_dropVirtual 35 [(1, 282), (0, x1), (0, x2), (0, (if ¬ (x1 < 0) ∧ ¬ (3 < x1) then 1 else 0)), (9, 0)] [(0, (if ¬ (x2 < 0) ∧ ¬ (h 2 297 x1 - 1 < x2) then 0 else 2)), (1, 282)] h := by
        refine (rg_bne (t := 34) (pc := 27) (dd bX13_dropVirtual dX13_dropVirtual_27) rfl).trans ?_
        by_cases c2 : ¬ (x2 < 0) ∧ ¬ (h 2 297 x1 - 1 < x2)
        · refine (if_pos c2).trans ?_
          refine (rn_iconst (pc := 34) (dd bX13_dropVirtual dX13_dropVirtual_34) (by decide)).trans ?_
          refine Eq.trans (b := vrun mX13_dropVirtual 35 [(1, 282), (0, x1), (0, x2), (0, (if ¬ (x1 < 0) ∧ ¬ (3 < x1) then 1 else 0)), (9, 0)] [(0, 0), (1, 282)] h) rfl ?_
          simp only [if_pos c2]
        · refine (if_neg c2).trans ?_
          refine (rn_iconst (pc := 30) (dd bX13_dropVirtual dX13_dropVirtual_30) (by decide)).trans ?_
          refine (rn_goto (t := 35) (pc := 31) (dd bX13_dropVirtual dX13_dropVirtual_31) rfl).trans ?_
          refine Eq.trans (b := vrun mX13_dropVirtual 35 [(1, 282), (0, x1), (0, x2), (0, (if ¬ (x1 < 0) ∧ ¬ (3 < x1) then 1 else 0)), (9, 0)] [(0, 2), (1, 282)] h) rfl ?_
          simp only [if_neg c2]
      refine e1.trans ?_
      refine Eq.trans (b := vrun mX13_dropVirtual 35 [(1, 282), (0, x1), (0, x2), (0, (if ¬ (x1 < 0) ∧ ¬ (3 < x1) then 1 else 0)), (9, 0)] [(0, (if ¬ (x2 < 0) ∧ ¬ (h 2 297 x1 - 1 < x2) then 0 else 2)), (1, 282)] h) rfl ?_
      simp only [if_pos c1]
    · refine (if_neg c1).trans ?_
      refine (rn_iconst (pc := 10) (dd bX13_dropVirtual dX13_dropVirtual_10) (by decide)).trans ?_
      refine (rn_goto (t := 35) (pc := 11) (dd bX13_dropVirtual dX13_dropVirtual_11) rfl).trans ?_
      refine Eq.trans (b := vrun mX13_dropVirtual 35 [(1, 282), (0, x1), (0, x2), (0, (if ¬ (x1 < 0) ∧ ¬ (3 < x1) then 1 else 0)), (9, 0)] [(0, 1), (1, 282)] h) rfl ?_
      simp only [if_neg c1]
  refine e2.trans ?_
  exact rg_virtual (pc := 35) (dd bX13_dropVirtual dX13_dropVirtual_35) rfl rfl (by decide) (kc := 34) rfl s1.1 (as := [(1, 282), (0, (if ¬ (x1 < 0) ∧ ¬ (3 < x1) then (if ¬ (x2 < 0) ∧ ¬ (h 2 297 x1 - 1 < x2) then 0 else 2) else 1))]) rfl ⟨Nat.le_of_ble_eq_true rfl, Nat.le_of_ble_eq_true rfl, Nat.le_of_ble_eq_true rfl, Nat.le_of_ble_eq_true rfl⟩
theorem rX13_dropVirtual_38 {x1 : Int} {x2 : Int} {x3 : Int} {y0 : Int} {h : vH} (s1 : shModel h) (p2 : ¬ (y0 = 0) → 0 ≤ x1) (p3 : ¬ (y0 = 0) → x1 < 4) (p4 : ¬ (y0 = 0) → (-2147483648) ≤ h 2 297 x1 - 1) (p5 : ¬ (y0 = 0) → h 2 297 x1 - 1 < 2147483648) (p6 : ¬ (y0 = 0) → (-2147483648) ≤ 6 * x1) (p7 : ¬ (y0 = 0) → 6 * x1 < 2147483648) (p8 : ¬ (y0 = 0) → (-2147483648) ≤ 6 * x1 + x2) (p9 : ¬ (y0 = 0) → 6 * x1 + x2 < 2147483648) : vrun mX13_dropVirtual 38 [(1, 282), (0, x1), (0, x2), (0, x3), (9, 0)] [(0, y0)] h = if y0 = 0 then some (.inl (some (0, 0)), h) else vrun mX13_dropVirtual 61 [(1, 282), (0, x1), (0, x2), (0, x3), (0, 6 * x1 + x2)] [] (vup h 2 297 x1 (h 2 297 x1 - 1)) := by
  refine (rg_if_ne (t := 43) (pc := 38) (dd bX13_dropVirtual dX13_dropVirtual_38) rfl).trans (itec (fun c1 => ?_) (fun c1 => ?_))
  · refine (rn_iconst (pc := 41) (dd bX13_dropVirtual dX13_dropVirtual_41) (by decide)).trans ?_
    exact rn_ireturn (pc := 42) (dd bX13_dropVirtual dX13_dropVirtual_42) (Or.inl rfl)
  · refine (rn_aload_n (pc := 43) (dd bX13_dropVirtual dX13_dropVirtual_43) rfl).trans ?_
    refine (rg_gf (pc := 44) (dd bX13_dropVirtual dX13_dropVirtual_44) (ci := 14) (j := 16) rfl rfl (key := 1516) rfl (kc := 34) rfl s1.1 s1.2.2.2.2.2.2.2.2.2.2.2.2.2.2.2.2.2.2.2.2.2.2.2.2.2.2.2.2.2.2.2.2.2.2.2.2.2.2.2.2.2.2.2.1).trans ?_
    refine (rn_iload_n (pc := 47) (dd bX13_dropVirtual dX13_dropVirtual_47) rfl).trans ?_
    refine (rn_dup2 (pc := 48) (dd bX13_dropVirtual dX13_dropVirtual_48) (by decide)).trans ?_
    refine (rg_iaload (pc := 49) (dd bX13_dropVirtual dX13_dropVirtual_49) s1.2.2.2.2.2.2.2.2.2.2.2.2.2.2.2.2.2.2.2.2.2.2.2.2.2.2.2.2.2.2.2.2.2.2.2.2.2.2.2.2.2.2.2.2.1 s1.2.2.2.2.2.2.2.2.2.2.2.2.2.2.2.2.2.2.2.2.2.2.2.2.2.2.2.2.2.2.2.2.2.2.2.2.2.2.2.2.2.2.2.2.2.1 (p2 c1) (p3 c1) rfl).trans ?_
    refine (rn_iconst (pc := 50) (dd bX13_dropVirtual dX13_dropVirtual_50) (by decide)).trans ?_
    refine (rg_isub (pc := 51) (dd bX13_dropVirtual dX13_dropVirtual_51) (p4 c1) (p5 c1)).trans ?_
    refine (rg_iastore (pc := 52) (dd bX13_dropVirtual dX13_dropVirtual_52) s1.2.2.2.2.2.2.2.2.2.2.2.2.2.2.2.2.2.2.2.2.2.2.2.2.2.2.2.2.2.2.2.2.2.2.2.2.2.2.2.2.2.2.2.2.1 s1.2.2.2.2.2.2.2.2.2.2.2.2.2.2.2.2.2.2.2.2.2.2.2.2.2.2.2.2.2.2.2.2.2.2.2.2.2.2.2.2.2.2.2.2.2.1 (by have z0 := p2 c1; have z1 := p3 c1; omega) (by have z0 := p2 c1; have z1 := p3 c1; omega)).trans ?_
    refine (rn_bipush (pc := 53) (dd bX13_dropVirtual dX13_dropVirtual_53) (by decide)).trans ?_
    refine (rn_iload_n (pc := 55) (dd bX13_dropVirtual dX13_dropVirtual_55) rfl).trans ?_
    refine (rg_imul (pc := 56) (dd bX13_dropVirtual dX13_dropVirtual_56) (p6 c1) (p7 c1)).trans ?_
    refine (rn_iload_n (pc := 57) (dd bX13_dropVirtual dX13_dropVirtual_57) rfl).trans ?_
    refine (rg_iadd (pc := 58) (dd bX13_dropVirtual dX13_dropVirtual_58) (p8 c1) (p9 c1)).trans ?_
    refine (rn_istore (pc := 59) (dd bX13_dropVirtual dX13_dropVirtual_59) (Nat.le_of_ble_eq_true rfl) rfl).trans ?_
    rfl
theorem rX13_dropVirtual_61 {x1 : Int} {x2 : Int} {x3 : Int} {x4 : Int} {h : vH} (p1 : (-2147483648) ≤ 6 * x1) (p2 : 6 * x1 < 2147483648) (s3 : shModel h) (p4 : 0 ≤ x1) (p5 : x1 < 4) (p6 : (-2147483648) ≤ 6 * x1 + h 2 297 x1) (p7 : 6 * x1 + h 2 297 x1 < 2147483648) (p8 : ¬ (6 * x1 + h 2 297 x1 ≤ x4) → (-2147483648) ≤ x4 + 1) (p9 : ¬ (6 * x1 + h 2 297 x1 ≤ x4) → x4 + 1 < 2147483648) (p10 : ¬ (6 * x1 + h 2 297 x1 ≤ x4) → 0 ≤ x4 + 1) (p11 : ¬ (6 * x1 + h 2 297 x1 ≤ x4) → x4 + 1 < 24) (p12 : ¬ (6 * x1 + h 2 297 x1 ≤ x4) → 0 ≤ x4) (p13 : ¬ (6 * x1 + h 2 297 x1 ≤ x4) → x4 < 24) : vrun mX13_dropVirtual 61 [(1, 282), (0, x1), (0, x2), (0, x3), (0, x4)] [] h = if 6 * x1 + h 2 297 x1 ≤ x4 then some (.inl (some (0, h 2 297 x1)), h) else vrun mX13_dropVirtual 61 [(1, 282), (0, x1), (0, x2), (0, x3), (0, x4 + 1)] [] (vup (vup (vup h 2 298 x4 (h 2 298 (x4 + 1))) 2 299 x4 (h 2 299 (x4 + 1))) 2 300 x4 (h 2 300 (x4 + 1))) := by
  refine (rn_iload (pc := 61) (dd bX13_dropVirtual dX13_dropVirtual_61) rfl).trans ?_
  refine (rn_bipush (pc := 63) (dd bX13_dropVirtual dX13_dropVirtual_63) (by decide)).trans ?_
  refine (rn_iload_n (pc := 65) (dd bX13_dropVirtual dX13_dropVirtual_65) rfl).trans ?_
  refine (rg_imul (pc := 66) (dd bX13_dropVirtual dX13_dropVirtual_66) p1 p2).trans ?_
  refine (rn_aload_n (pc := 67) (dd bX13_dropVirtual dX13_dropVirtual_67) rfl).trans ?_
  refine (rg_gf (pc := 68) (dd bX13_dropVirtual dX13_dropVirtual_68) (ci := 14) (j := 16) rfl rfl (key := 1516) rfl (kc := 34) rfl s3.1 s3.2.2.2.2.2.2.2.2.2.2.2.2.2.2.2.2.2.2.2.2.2.2.2.2.2.2.2.2.2.2.2.2.2.2.2.2.2.2.2.2.2.2.2.1).trans ?_
  refine (rn_iload_n (pc := 71) (dd bX13_dropVirtual dX13_dropVirtual_71) rfl).trans ?_
  refine (rg_iaload (pc := 72) (dd bX13_dropVirtual dX13_dropVirtual_72) s3.2.2.2.2.2.2.2.2.2.2.2.2.2.2.2.2.2.2.2.2.2.2.2.2.2.2.2.2.2.2.2.2.2.2.2.2.2.2.2.2.2.2.2.2.1 s3.2.2.2.2.2.2.2.2.2.2.2.2.2.2.2.2.2.2.2.2.2.2.2.2.2.2.2.2.2.2.2.2.2.2.2.2.2.2.2.2.2.2.2.2.2.1 p4 p5 rfl).trans ?_
  refine (rg_iadd (pc := 73) (dd bX13_dropVirtual dX13_dropVirtual_73) p6 p7).trans ?_
  refine (rn_icmp_ge (t := 131) (pc := 74) (dd bX13_dropVirtual dX13_dropVirtual_74) rfl).trans (itec (fun c1 => ?_) (fun c1 => ?_))
  · refine (rn_aload_n (pc := 131) (dd bX13_dropVirtual dX13_dropVirtual_131) rfl).trans ?_
    refine (rg_gf (pc := 132) (dd bX13_dropVirtual dX13_dropVirtual_132) (ci := 14) (j := 16) rfl rfl (key := 1516) rfl (kc := 34) rfl s3.1 s3.2.2.2.2.2.2.2.2.2.2.2.2.2.2.2.2.2.2.2.2.2.2.2.2.2.2.2.2.2.2.2.2.2.2.2.2.2.2.2.2.2.2.2.1).trans ?_
    refine (rn_iload_n (pc := 135) (dd bX13_dropVirtual dX13_dropVirtual_135) rfl).trans ?_
    refine (rg_iaload (pc := 136) (dd bX13_dropVirtual dX13_dropVirtual_136) s3.2.2.2.2.2.2.2.2.2.2.2.2.2.2.2.2.2.2.2.2.2.2.2.2.2.2.2.2.2.2.2.2.2.2.2.2.2.2.2.2.2.2.2.2.1 s3.2.2.2.2.2.2.2.2.2.2.2.2.2.2.2.2.2.2.2.2.2.2.2.2.2.2.2.2.2.2.2.2.2.2.2.2.2.2.2.2.2.2.2.2.2.1 (by omega) (by omega) rfl).trans ?_
    exact rn_ireturn (pc := 137) (dd bX13_dropVirtual dX13_dropVirtual_137) (Or.inl rfl)
  · refine (rn_aload_n (pc := 77) (dd bX13_dropVirtual dX13_dropVirtual_77) rfl).trans ?_
    refine (rg_gf (pc := 78) (dd bX13_dropVirtual dX13_dropVirtual_78) (ci := 14) (j := 17) rfl rfl (key := 1517) rfl (kc := 34) rfl s3.1 s3.2.2.2.2.2.2.2.2.2.2.2.2.2.2.2.2.2.2.2.2.2.2.2.2.2.2.2.2.2.2.2.2.2.2.2.2.2.2.2.2.2.2.2.2.2.2.1).trans ?_
    refine (rn_iload (pc := 81) (dd bX13_dropVirtual dX13_dropVirtual_81) rfl).trans ?_
    refine (rn_aload_n (pc := 83) (dd bX13_dropVirtual dX13_dropVirtual_83) rfl).trans ?_
    refine (rg_gf (pc := 84) (dd bX13_dropVirtual dX13_dropVirtual_84) (ci := 14) (j := 17) rfl rfl (key := 1517) rfl (kc := 34) rfl s3.1 s3.2.2.2.2.2.2.2.2.2.2.2.2.2.2.2.2.2.2.2.2.2.2.2.2.2.2.2.2.2.2.2.2.2.2.2.2.2.2.2.2.2.2.2.2.2.2.1).trans ?_
    refine (rn_iload (pc := 87) (dd bX13_dropVirtual dX13_dropVirtual_87) rfl).trans ?_
    refine (rn_iconst (pc := 89) (dd bX13_dropVirtual dX13_dropVirtual_89) (by decide)).trans ?_
    refine (rg_iadd (pc := 90) (dd bX13_dropVirtual dX13_dropVirtual_90) (p8 c1) (p9 c1)).trans ?_
    refine (rg_iaload (pc := 91) (dd bX13_dropVirtual dX13_dropVirtual_91) s3.2.2.2.2.2.2.2.2.2.2.2.2.2.2.2.2.2.2.2.2.2.2.2.2.2.2.2.2.2.2.2.2.2.2.2.2.2.2.2.2.2.2.2.2.2.2.2.1 s3.2.2.2.2.2.2.2.2.2.2.2.2.2.2.2.2.2.2.2.2.2.2.2.2.2.2.2.2.2.2.2.2.2.2.2.2.2.2.2.2.2.2.2.2.2.2.2.2.1 (p10 c1) (p11 c1) rfl).trans ?_
    refine (rg_iastore (pc := 92) (dd bX13_dropVirtual dX13_dropVirtual_92) s3.2.2.2.2.2.2.2.2.2.2.2.2.2.2.2.2.2.2.2.2.2.2.2.2.2.2.2.2.2.2.2.2.2.2.2.2.2.2.2.2.2.2.2.2.2.2.2.1 s3.2.2.2.2.2.2.2.2.2.2.2.2.2.2.2.2.2.2.2.2.2.2.2.2.2.2.2.2.2.2.2.2.2.2.2.2.2.2.2.2.2.2.2.2.2.2.2.2.1 (p12 c1) (p13 c1)).trans ?_
    refine (rn_aload_n (pc := 93) (dd bX13_dropVirtual dX13_dropVirtual_93) rfl).trans ?_
    refine (rg_gf (pc := 94) (dd bX13_dropVirtual dX13_dropVirtual_94) (ci := 14) (j := 18) rfl rfl (key := 1518) rfl (kc := 34) rfl ((vup_k (by decide)).trans s3.1) ((vup_k (by decide)).trans s3.2.2.2.2.2.2.2.2.2.2.2.2.2.2.2.2.2.2.2.2.2.2.2.2.2.2.2.2.2.2.2.2.2.2.2.2.2.2.2.2.2.2.2.2.2.2.2.2.2.1)).trans ?_
    refine (rn_iload (pc := 97) (dd bX13_dropVirtual dX13_dropVirtual_97) rfl).trans ?_
    refine (rn_aload_n (pc := 99) (dd bX13_dropVirtual dX13_dropVirtual_99) rfl).trans ?_
    refine (rg_gf (pc := 100) (dd bX13_dropVirtual dX13_dropVirtual_100) (ci := 14) (j := 18) rfl rfl (key := 1518) rfl (kc := 34) rfl ((vup_k (by decide)).trans s3.1) ((vup_k (by decide)).trans s3.2.2.2.2.2.2.2.2.2.2.2.2.2.2.2.2.2.2.2.2.2.2.2.2.2.2.2.2.2.2.2.2.2.2.2.2.2.2.2.2.2.2.2.2.2.2.2.2.2.1)).trans ?_
    refine (rn_iload (pc := 103) (dd bX13_dropVirtual dX13_dropVirtual_103) rfl).trans ?_
    refine (rn_iconst (pc := 105) (dd bX13_dropVirtual dX13_dropVirtual_105) (by decide)).trans ?_
    refine (rg_iadd (pc := 106) (dd bX13_dropVirtual dX13_dropVirtual_106) (by have z0 := p12 c1; have z1 := p13 c1; have z2 := p11 c1; omega) (by have z0 := p12 c1; have z1 := p13 c1; have z2 := p11 c1; omega)).trans ?_
    refine (rg_iaload (pc := 107) (dd bX13_dropVirtual dX13_dropVirtual_107) ((vup_k (by decide)).trans s3.2.2.2.2.2.2.2.2.2.2.2.2.2.2.2.2.2.2.2.2.2.2.2.2.2.2.2.2.2.2.2.2.2.2.2.2.2.2.2.2.2.2.2.2.2.2.2.2.2.2.1) ((vup_k (by decide)).trans s3.2.2.2.2.2.2.2.2.2.2.2.2.2.2.2.2.2.2.2.2.2.2.2.2.2.2.2.2.2.2.2.2.2.2.2.2.2.2.2.2.2.2.2.2.2.2.2.2.2.2.2.1) (by have z0 := p12 c1; have z1 := p13 c1; have z2 := p11 c1; omega) (by have z0 := p12 c1; have z1 := p13 c1; have z2 := p11 c1; omega) ((vup_r (by omega)).trans rfl)).trans ?_
    refine (rg_iastore (pc := 108) (dd bX13_dropVirtual dX13_dropVirtual_108) ((vup_k (by decide)).trans s3.2.2.2.2.2.2.2.2.2.2.2.2.2.2.2.2.2.2.2.2.2.2.2.2.2.2.2.2.2.2.2.2.2.2.2.2.2.2.2.2.2.2.2.2.2.2.2.2.2.2.1) ((vup_k (by decide)).trans s3.2.2.2.2.2.2.2.2.2.2.2.2.2.2.2.2.2.2.2.2.2.2.2.2.2.2.2.2.2.2.2.2.2.2.2.2.2.2.2.2.2.2.2.2.2.2.2.2.2.2.2.1) (by have z0 := p12 c1; have z1 := p13 c1; omega) (by have z0 := p12 c1; have z1 := p13 c1; omega)).trans ?_
    refine (rn_aload_n (pc := 109) (dd bX13_dropVirtual dX13_dropVirtual_109) rfl).trans ?_
    refine (rg_gf (pc := 110) (dd bX13_dropVirtual dX13_dropVirtual_110) (ci := 14) (j := 19) rfl rfl (key := 1519) rfl (kc := 34) rfl ((vup_k (by decide)).trans ((vup_k (by decide)).trans s3.1)) ((vup_k (by decide)).trans ((vup_k (by decide)).trans s3.2.2.2.2.2.2.2.2.2.2.2.2.2.2.2.2.2.2.2.2.2.2.2.2.2.2.2.2.2.2.2.2.2.2.2.2.2.2.2.2.2.2.2.2.2.2.2.2.2.2.2.2.1))).trans ?_
    refine (rn_iload (pc := 113) (dd bX13_dropVirtual dX13_dropVirtual_113) rfl).trans ?_
    refine (rn_aload_n (pc := 115) (dd bX13_dropVirtual dX13_dropVirtual_115) rfl).trans ?_
    refine (rg_gf (pc := 116) (dd bX13_dropVirtual dX13_dropVirtual_116) (ci := 14) (j := 19) rfl rfl (key := 1519) rfl (kc := 34) rfl ((vup_k (by decide)).trans ((vup_k (by decide)).trans s3.1)) ((vup_k (by decide)).trans ((vup_k (by decide)).trans s3.2.2.2.2.2.2.2.2.2.2.2.2.2.2.2.2.2.2.2.2.2.2.2.2.2.2.2.2.2.2.2.2.2.2.2.2.2.2.2.2.2.2.2.2.2.2.2.2.2.2.2.2.1))).trans ?_
    refine (rn_iload (pc := 119) (dd bX13_dropVirtual dX13_dropVirtual_119) rfl).trans ?_
    refine (rn_iconst (pc := 121) (dd bX13_dropVirtual dX13_dropVirtual_121) (by decide)).trans ?_
    refine (rg_iadd (pc := 122) (dd bX13_dropVirtual dX13_dropVirtual_122) (by have z0 := p12 c1; have z1 := p13 c1; have z2 := p11 c1; omega) (by have z0 := p12 c1; have z1 := p13 c1; have z2 := p11 c1; omega)).trans ?_
    refine (rg_laload (pc := 123) (dd bX13_dropVirtual dX13_dropVirtual_123) ((vup_k (by decide)).trans ((vup_k (by decide)).trans s3.2.2.2.2.2.2.2.2.2.2.2.2.2.2.2.2.2.2.2.2.2.2.2.2.2.2.2.2.2.2.2.2.2.2.2.2.2.2.2.2.2.2.2.2.2.2.2.2.2.2.2.2.2.1)) ((vup_k (by decide)).trans ((vup_k (by decide)).trans s3.2.2.2.2.2.2.2.2.2.2.2.2.2.2.2.2.2.2.2.2.2.2.2.2.2.2.2.2.2.2.2.2.2.2.2.2.2.2.2.2.2.2.2.2.2.2.2.2.2.2.2.2.2.2.1)) (by have z0 := p12 c1; have z1 := p13 c1; have z2 := p11 c1; omega) (by have z0 := p12 c1; have z1 := p13 c1; have z2 := p11 c1; omega) ((vup_r (by omega)).trans ((vup_r (by omega)).trans rfl))).trans ?_
    refine (rg_lastore (pc := 124) (dd bX13_dropVirtual dX13_dropVirtual_124) ((vup_k (by decide)).trans ((vup_k (by decide)).trans s3.2.2.2.2.2.2.2.2.2.2.2.2.2.2.2.2.2.2.2.2.2.2.2.2.2.2.2.2.2.2.2.2.2.2.2.2.2.2.2.2.2.2.2.2.2.2.2.2.2.2.2.2.2.1)) ((vup_k (by decide)).trans ((vup_k (by decide)).trans s3.2.2.2.2.2.2.2.2.2.2.2.2.2.2.2.2.2.2.2.2.2.2.2.2.2.2.2.2.2.2.2.2.2.2.2.2.2.2.2.2.2.2.2.2.2.2.2.2.2.2.2.2.2.2.1)) (by have z0 := p12 c1; have z1 := p13 c1; omega) (by have z0 := p12 c1; have z1 := p13 c1; omega)).trans ?_
    refine (rg_iinc (pc := 125) (dd bX13_dropVirtual dX13_dropVirtual_125) rfl (Nat.le_of_ble_eq_true rfl) (by have z0 := p12 c1; have z1 := p13 c1; have z2 := p11 c1; omega) (by have z0 := p12 c1; have z1 := p13 c1; have z2 := p11 c1; omega) rfl).trans ?_
    refine (rn_goto (t := 61) (pc := 128) (dd bX13_dropVirtual dX13_dropVirtual_128) rfl).trans ?_
    rfl
theorem bX13_addFold : vmB mX13_addFold = cX13_addFold := rfl
theorem rX13_addFold_0 {x1 : Int} {x2 : Int} {x3 : Int} {h : vH} (s1 : shModel h) (p2 : ¬ (x1 < 0) ∧ ¬ (3 < x1) → (-2147483648) ≤ h 1504 282 0 - 1) (p3 : ¬ (x1 < 0) ∧ ¬ (3 < x1) → h 1504 282 0 - 1 < 2147483648) (p4 : (¬ (x1 < 0) ∧ ¬ (3 < x1)) ∧ ¬ (fX13_isLine h x2 = 0) ∧ ¬ (fX13_isLine h x3 = 0) → x2 < x3 → 0 ≤ x1) (p5 : (¬ (x1 < 0) ∧ ¬ (3 < x1)) ∧ ¬ (fX13_isLine h x2 = 0) ∧ ¬ (fX13_isLine h x3 = 0) → x2 < x3 → x1 < 4) : vrun mX13_addFold 0 [(1, 282), (0, x1), (0, x2), (0, x3), (9, 0), (9, 0)] [] h = vret vrun mX13_addFold 65 [(1, 282), (0, x1), (0, x2), (0, x3), (0, (if (¬ (x1 < 0) ∧ ¬ (3 < x1)) ∧ ¬ (fX13_isLine h x2 = 0) ∧ ¬ (fX13_isLine h x3 = 0) then 1 else 0)), (9, 0)] [] (vcl mX13_isFine [(1, 282), (0, (if (¬ (x1 < 0) ∧ ¬ (3 < x1)) ∧ ¬ (fX13_isLine h x2 = 0) ∧ ¬ (fX13_isLine h x3 = 0) then (if x2 < x3 then (if h 2 301 x1 = 6 then 3 else 0) else 2) else 1))] h) := by
  refine (rn_iload_n (pc := 0) (dd bX13_addFold dX13_addFold_0) rfl).trans ?_
  refine (rg_static (pc := 1) (dd bX13_addFold dX13_addFold_1) rfl (by decide) (Nat.le_of_ble_eq_true rfl) (as := [(0, x1)]) rfl rfl ⟨Nat.le_of_ble_eq_true rfl, Nat.le_of_ble_eq_true rfl, Nat.le_of_ble_eq_true rfl, Nat.le_of_ble_eq_true rfl⟩).trans ?_
  refine (vret_v spX13_isPane).trans ?_
  have e3 : vrun mX13_addFold 4 [(1, 282), (0, x1), (0, x2), (0, x3), (9, 0), (9, 0)] [(0, (if ¬ (x1 < 0) ∧ ¬ (3 < x1) then 1 else 0))] h = vrun mX13_addFold 28 [(1, 282), (0, x1), (0, x2), (0, x3), (9, 0), (9, 0)] [(0, (if (¬ (x1 < 0) ∧ ¬ (3 < x1)) ∧ ¬ (fX13_isLine h x2 = 0) ∧ ¬ (fX13_isLine h x3 = 0) then 1 else 0))] h := by
    refine (rg_beq (t := 27) (pc := 4) (dd bX13_addFold dX13_addFold_4) rfl).trans ?_
    by_cases c1 : ¬ (x1 < 0) ∧ ¬ (3 < x1)
    · refine (if_pos c1).trans ?_
      refine (rn_aload_n (pc := 7) (dd bX13_addFold dX13_addFold_7) rfl).trans ?_
      refine (rn_iload_n (pc := 8) (dd bX13_addFold dX13_addFold_8) rfl).trans ?_
      refine (rg_virtual (pc := 9) (dd bX13_addFold dX13_addFold_9) rfl rfl (by decide) (kc := 34) rfl s1.1 (as := [(1, 282), (0, x2)]) rfl ⟨Nat.le_of_ble_eq_true rfl, Nat.le_of_ble_eq_true rfl, Nat.le_of_ble_eq_true rfl, Nat.le_of_ble_eq_true rfl⟩).trans ?_
      refine (vret_v (spX13_isLine s1 (p2 c1) (p3 c1))).trans ?_
      have e2 : vrun mX13_addFold 12 [(1, 282), (0, x1), (0, x2), (0, x3), (9, 0), (9, 0)] [(0, fX13_isLine h x2)] h = vrun mX13_addFold 28 [(1, 282), (0, x1), (0, x2), (0, x3), (9, 0), (9, 0)] [(0, (if ¬ (fX13_isLine h x2 = 0) ∧ ¬ (fX13_isLine h x3 = 0) then 1 else 0))] h := by
        refine (rn_if_eq (t := 27) (pc := 12) (dd bX13_addFold dX13_addFold_12) rfl).trans ?_
        by_cases c2 : fX13_isLine h x2 = 0
        · refine (if_pos c2).trans ?_
          refine (rn_iconst (pc := 27) (dd bX13_addFold dX13_addFold_27) (by decide)).trans ?_
          refine Eq.trans (b := vrun mX13_addFold 28 [(1, 282), (0, x1), (0, x2), (0, x3), (9, 0), (9, 0)] [(0, 0)] h) rfl ?_
          simp only [c2, true_or, false_or, or_true, or_false, true_and, false_and, and_true, and_false, not_true_eq_false, not_false_eq_true, ne_eq, if_true, if_false, ↓reduceIte]
        · refine (if_neg c2).trans ?_
          refine (rn_aload_n (pc := 15) (dd bX13_addFold dX13_addFold_15) rfl).trans ?_
          refine (rn_iload_n (pc := 16) (dd bX13_addFold dX13_addFold_16) rfl).trans ?_
          refine (rg_virtual (pc := 17) (dd bX13_addFold dX13_addFold_17) rfl rfl (by decide) (kc := 34) rfl s1.1 (as := [(1, 282), (0, x3)]) rfl ⟨Nat.le_of_ble_eq_true rfl, Nat.le_of_ble_eq_true rfl, Nat.le_of_ble_eq_true rfl, Nat.le_of_ble_eq_true rfl⟩).trans ?_
          refine (vret_v (spX13_isLine s1 (by have z0 := p2 c1; have z1 := p3 c1; omega) (by have z0 := p2 c1; have z1 := p3 c1; omega))).trans ?_
          have e1 : vrun mX13_addFold 20 [(1, 282), (0, x1), (0, x2), (0, x3), (9, 0), (9, 0)] [(0, fX13_isLine h x3)] h = vrun mX13_addFold 28 [(1, 282), (0, x1), (0, x2), (0, x3), (9, 0), (9, 0)] [(0, (if ¬ (fX13_isLine h x3 = 0) then 1 else 0))] h := by
            refine (rn_if_eq (t := 27) (pc := 20) (dd bX13_addFold dX13_addFold_20) rfl).trans ?_
            by_cases c3 : fX13_isLine h x3 = 0
            · refine (if_pos c3).trans ?_
              refine (rn_iconst (pc := 27) (dd bX13_addFold dX13_addFold_27) (by decide)).trans ?_
              refine Eq.trans (b := vrun mX13_addFold 28 [(1, 282), (0, x1), (0, x2), (0, x3), (9, 0), (9, 0)] [(0, 0)] h) rfl ?_
              simp only [c3, true_or, false_or, or_true, or_false, true_and, false_and, and_true, and_false, not_true_eq_false, not_false_eq_true, ne_eq, if_true, if_false, ↓reduceIte]
            · refine (if_neg c3).trans ?_
              refine (rn_iconst (pc := 23) (dd bX13_addFold dX13_addFold_23) (by decide)).trans ?_
              refine (rn_goto (t := 28) (pc := 24) (dd bX13_addFold dX13_addFold_24) rfl).trans ?_
              refine Eq.trans (b := vrun mX13_addFold 28 [(1, 282), (0, x1), (0, x2), (0, x3), (9, 0), (9, 0)] [(0, 1)] h) rfl ?_
              simp only [c3, true_or, false_or, or_true, or_false, true_and, false_and, and_true, and_false, not_true_eq_false, not_false_eq_true, ne_eq, if_true, if_false, ↓reduceIte]
          refine e1.trans ?_
          refine Eq.trans (b := vrun mX13_addFold 28 [(1, 282), (0, x1), (0, x2), (0, x3), (9, 0), (9, 0)] [(0, (if ¬ (fX13_isLine h x3 = 0) then 1 else 0))] h) rfl ?_
          simp only [c2, true_or, false_or, or_true, or_false, true_and, false_and, and_true, and_false, not_true_eq_false, not_false_eq_true, ne_eq, if_true, if_false, ↓reduceIte]
      refine e2.trans ?_
      refine Eq.trans (b := vrun mX13_addFold 28 [(1, 282), (0, x1), (0, x2), (0, x3), (9, 0), (9, 0)] [(0, (if ¬ (fX13_isLine h x2 = 0) ∧ ¬ (fX13_isLine h x3 = 0) then 1 else 0))] h) rfl ?_
      simp only [c1, true_or, false_or, or_true, or_false, true_and, false_and, and_true, and_false, not_true_eq_false, not_false_eq_true, ne_eq, if_true, if_false, ↓reduceIte]
    · refine (if_neg c1).trans ?_
      refine (rn_iconst (pc := 27) (dd bX13_addFold dX13_addFold_27) (by decide)).trans ?_
      refine Eq.trans (b := vrun mX13_addFold 28 [(1, 282), (0, x1), (0, x2), (0, x3), (9, 0), (9, 0)] [(0, 0)] h) rfl ?_
      simp only [c1, true_or, false_or, or_true, or_false, true_and, false_and, and_true, and_false, not_true_eq_false, not_false_eq_true, ne_eq, if_true, if_false, ↓reduceIte]
  refine e3.trans ?_
  refine (rn_istore (pc := 28) (dd bX13_addFold dX13_addFold_28) (Nat.le_of_ble_eq_true rfl) rfl).trans ?_
  refine (rn_aload_n (pc := 30) (dd bX13_addFold dX13_addFold_30) rfl).trans ?_
  refine (rn_iload (pc := 31) (dd bX13_addFold dX13_addFold_31) rfl).trans ?_
  have e6 : vrun mX13_addFold 33 [(1, 282), (0, x1), (0, x2), (0, x3), (0, (if (¬ (x1 < 0) ∧ ¬ (3 < x1)) ∧ ¬ (fX13_isLine h x2 = 0) ∧ ¬ (fX13_isLine h x3 = 0) then 1 else 0)), (9, 0)] [(0, (if (¬ (x1 < 0) ∧ ¬ (3 < x1)) ∧ ¬ (fX13_isLine h x2 = 0) ∧ ¬ (fX13_isLine h x3 = 0) then 1 else 0)), (1, 282)] h = vrun mX13_addFold 65 [(1, 282), (0, x1), (0, x2), (0, x3), (0, (if (¬ (x1 < 0) ∧ ¬ (3 < x1)) ∧ ¬ (fX13_isLine h x2 = 0) ∧ ¬ (fX13_isLine h x3 = 0) then 1 else 0)), (9, 0)] [(0, (if (¬ (x1 < 0) ∧ ¬ (3 < x1)) ∧ ¬ (fX13_isLine h x2 = 0) ∧ ¬ (fX13_isLine h x3 = 0) then (if x2 < x3 then (if h 2 301 x1 = 6 then 3 else 0) else 2) else 1)), (1, 282)] h := by
    refine (rg_bne (t := 40) (pc := 33) (dd bX13_addFold dX13_addFold_33) rfl).trans ?_
    by_cases c4 : (¬ (x1 < 0) ∧ ¬ (3 < x1)) ∧ ¬ (fX13_isLine h x2 = 0) ∧ ¬ (fX13_isLine h x3 = 0)
    · refine (if_pos c4).trans ?_
      refine (rn_iload_n (pc := 40) (dd bX13_addFold dX13_addFold_40) rfl).trans ?_
      refine (rn_iload_n (pc := 41) (dd bX13_addFold dX13_addFold_41) rfl).trans ?_
      have e5 : vrun mX13_addFold 42 [(1, 282), (0, x1), (0, x2), (0, x3), (0, (if (¬ (x1 < 0) ∧ ¬ (3 < x1)) ∧ ¬ (fX13_isLine h x2 = 0) ∧ ¬ (fX13_isLine h x3 = 0) then 1 else 0)), (9, 0)] [(0, x2), (0, x3), (1, 282)] h = vrun mX13_addFold 65 [(1, 282), (0, x1), (0, x2), (0, x3), (0, (if (¬ (x1 < 0) ∧ ¬ (3 < x1)) ∧ ¬ (fX13_isLine h x2 = 0) ∧ ¬ (fX13_isLine h x3 = 0) then 1 else 0)), (9, 0)] [(0, (if x2 < x3 then (if h 2 301 x1 = 6 then 3 else 0) else 2)), (1, 282)] h := by
        refine (rn_icmp_gt (t := 49) (pc := 42) (dd bX13_addFold dX13_addFold_42) rfl).trans ?_
        by_cases c5 : x2 < x3
        · refine (if_pos c5).trans ?_
          refine (rn_aload_n (pc := 49) (dd bX13_addFold dX13_addFold_49) rfl).trans ?_
          refine (rg_gf (pc := 50) (dd bX13_addFold dX13_addFold_50) (ci := 14) (j := 20) rfl rfl (key := 1520) rfl (kc := 34) rfl s1.1 s1.2.2.2.2.2.2.2.2.2.2.2.2.2.2.2.2.2.2.2.2.2.2.2.2.2.2.2.2.2.2.2.2.2.2.2.2.2.2.2.2.2.2.2.2.2.2.2.2.2.2.2.2.2.2.2.1).trans ?_
          refine (rn_iload_n (pc := 53) (dd bX13_addFold dX13_addFold_53) rfl).trans ?_
          refine (rg_iaload (pc := 54) (dd bX13_addFold dX13_addFold_54) s1.2.2.2.2.2.2.2.2.2.2.2.2.2.2.2.2.2.2.2.2.2.2.2.2.2.2.2.2.2.2.2.2.2.2.2.2.2.2.2.2.2.2.2.2.2.2.2.2.2.2.2.2.2.2.2.2.1 s1.2.2.2.2.2.2.2.2.2.2.2.2.2.2.2.2.2.2.2.2.2.2.2.2.2.2.2.2.2.2.2.2.2.2.2.2.2.2.2.2.2.2.2.2.2.2.2.2.2.2.2.2.2.2.2.2.2.1 (p4 c4 c5) (p5 c4 c5) rfl).trans ?_
          refine (rn_bipush (pc := 55) (dd bX13_addFold dX13_addFold_55) (by decide)).trans ?_
          have e4 : vrun mX13_addFold 57 [(1, 282), (0, x1), (0, x2), (0, x3), (0, (if (¬ (x1 < 0) ∧ ¬ (3 < x1)) ∧ ¬ (fX13_isLine h x2 = 0) ∧ ¬ (fX13_isLine h x3 = 0) then 1 else 0)), (9, 0)] [(0, 6), (0, h 2 301 x1), (1, 282)] h = vrun mX13_addFold 65 [(1, 282), (0, x1), (0, x2), (0, x3), (0, (if (¬ (x1 < 0) ∧ ¬ (3 < x1)) ∧ ¬ (fX13_isLine h x2 = 0) ∧ ¬ (fX13_isLine h x3 = 0) then 1 else 0)), (9, 0)] [(0, (if h 2 301 x1 = 6 then 3 else 0)), (1, 282)] h := by
            refine (rg_icmp_ne (t := 64) (pc := 57) (dd bX13_addFold dX13_addFold_57) rfl).trans ?_
            by_cases c6 : h 2 301 x1 = 6
            · refine (if_pos c6).trans ?_
              refine (rn_iconst (pc := 60) (dd bX13_addFold dX13_addFold_60) (by decide)).trans ?_
              refine (rn_goto (t := 65) (pc := 61) (dd bX13_addFold dX13_addFold_61) rfl).trans ?_
              refine Eq.trans (b := vrun mX13_addFold 65 [(1, 282), (0, x1), (0, x2), (0, x3), (0, (if (¬ (x1 < 0) ∧ ¬ (3 < x1)) ∧ ¬ (fX13_isLine h x2 = 0) ∧ ¬ (fX13_isLine h x3 = 0) then 1 else 0)), (9, 0)] [(0, 3), (1, 282)] h) rfl ?_
              simp only [if_pos c6]
            · refine (if_neg c6).trans ?_
              refine (rn_iconst (pc := 64) (dd bX13_addFold dX13_addFold_64) (by decide)).trans ?_
              refine Eq.trans (b := vrun mX13_addFold 65 [(1, 282), (0, x1), (0, x2), (0, x3), (0, (if (¬ (x1 < 0) ∧ ¬ (3 < x1)) ∧ ¬ (fX13_isLine h x2 = 0) ∧ ¬ (fX13_isLine h x3 = 0) then 1 else 0)), (9, 0)] [(0, 0), (1, 282)] h) rfl ?_
              simp only [if_neg c6]
          refine e4.trans ?_
          refine Eq.trans (b := vrun mX13_addFold 65 [(1, 282), (0, x1), (0, x2), (0, x3), (0, (if (¬ (x1 < 0) ∧ ¬ (3 < x1)) ∧ ¬ (fX13_isLine h x2 = 0) ∧ ¬ (fX13_isLine h x3 = 0) then 1 else 0)), (9, 0)] [(0, (if h 2 301 x1 = 6 then 3 else 0)), (1, 282)] h) rfl ?_
          simp only [if_pos c5]
        · refine (if_neg c5).trans ?_
          refine (rn_iconst (pc := 45) (dd bX13_addFold dX13_addFold_45) (by decide)).trans ?_
          refine (rn_goto (t := 65) (pc := 46) (dd bX13_addFold dX13_addFold_46) rfl).trans ?_
          refine Eq.trans (b := vrun mX13_addFold 65 [(1, 282), (0, x1), (0, x2), (0, x3), (0, (if (¬ (x1 < 0) ∧ ¬ (3 < x1)) ∧ ¬ (fX13_isLine h x2 = 0) ∧ ¬ (fX13_isLine h x3 = 0) then 1 else 0)), (9, 0)] [(0, 2), (1, 282)] h) rfl ?_
          simp only [if_neg c5]
      refine e5.trans ?_
      refine Eq.trans (b := vrun mX13_addFold 65 [(1, 282), (0, x1), (0, x2), (0, x3), (0, (if (¬ (x1 < 0) ∧ ¬ (3 < x1)) ∧ ¬ (fX13_isLine h x2 = 0) ∧ ¬ (fX13_isLine h x3 = 0) then 1 else 0)), (9, 0)] [(0, (if x2 < x3 then (if h 2 301 x1 = 6 then 3 else 0) else 2)), (1, 282)] h) rfl ?_
      simp only [if_pos c4]
    · refine (if_neg c4).trans ?_
      refine (rn_iconst (pc := 36) (dd bX13_addFold dX13_addFold_36) (by decide)).trans ?_
      refine (rn_goto (t := 65) (pc := 37) (dd bX13_addFold dX13_addFold_37) rfl).trans ?_
      refine Eq.trans (b := vrun mX13_addFold 65 [(1, 282), (0, x1), (0, x2), (0, x3), (0, (if (¬ (x1 < 0) ∧ ¬ (3 < x1)) ∧ ¬ (fX13_isLine h x2 = 0) ∧ ¬ (fX13_isLine h x3 = 0) then 1 else 0)), (9, 0)] [(0, 1), (1, 282)] h) rfl ?_
      simp only [if_neg c4]
  refine e6.trans ?_
  exact rg_virtual (pc := 65) (dd bX13_addFold dX13_addFold_65) rfl rfl (by decide) (kc := 34) rfl s1.1 (as := [(1, 282), (0, (if (¬ (x1 < 0) ∧ ¬ (3 < x1)) ∧ ¬ (fX13_isLine h x2 = 0) ∧ ¬ (fX13_isLine h x3 = 0) then (if x2 < x3 then (if h 2 301 x1 = 6 then 3 else 0) else 2) else 1))]) rfl ⟨Nat.le_of_ble_eq_true rfl, Nat.le_of_ble_eq_true rfl, Nat.le_of_ble_eq_true rfl, Nat.le_of_ble_eq_true rfl⟩
theorem rX13_addFold_68 {x1 : Int} {x2 : Int} {x3 : Int} {x4 : Int} {y0 : Int} {h : vH} (p1 : ¬ (y0 = 0) → (-2147483648) ≤ 6 * x1) (p2 : ¬ (y0 = 0) → 6 * x1 < 2147483648) (s3 : shModel h) (p4 : ¬ (y0 = 0) → 0 ≤ x1) (p5 : ¬ (y0 = 0) → x1 < 4) (p6 : ¬ (y0 = 0) → (-2147483648) ≤ 6 * x1 + h 2 301 x1) (p7 : ¬ (y0 = 0) → 6 * x1 + h 2 301 x1 < 2147483648) (p8 : ¬ (y0 = 0) → 0 ≤ 6 * x1 + h 2 301 x1) (p9 : ¬ (y0 = 0) → 6 * x1 + h 2 301 x1 < 24) (p10 : ¬ (y0 = 0) → (-2147483648) ≤ h 2 301 x1 + 1) (p11 : ¬ (y0 = 0) → h 2 301 x1 + 1 < 2147483648) : vrun mX13_addFold 68 [(1, 282), (0, x1), (0, x2), (0, x3), (0, x4), (9, 0)] [(0, y0)] h = if y0 = 0 then some (.inl (some (0, 0)), h) else some (.inl (some (0, (vup (vup (vup (vup h 2 302 (6 * x1 + h 2 301 x1) x2) 2 303 (6 * x1 + h 2 301 x1) x3) 2 304 (6 * x1 + h 2 301 x1) 0) 2 301 x1 (h 2 301 x1 + 1)) 2 301 x1)), vup (vup (vup (vup h 2 302 (6 * x1 + h 2 301 x1) x2) 2 303 (6 * x1 + h 2 301 x1) x3) 2 304 (6 * x1 + h 2 301 x1) 0) 2 301 x1 (h 2 301 x1 + 1)) := by
  refine (rg_if_ne (t := 73) (pc := 68) (dd bX13_addFold dX13_addFold_68) rfl).trans (itec (fun c1 => ?_) (fun c1 => ?_))
  · refine (rn_iconst (pc := 71) (dd bX13_addFold dX13_addFold_71) (by decide)).trans ?_
    exact rn_ireturn (pc := 72) (dd bX13_addFold dX13_addFold_72) (Or.inl rfl)
  · refine (rn_bipush (pc := 73) (dd bX13_addFold dX13_addFold_73) (by decide)).trans ?_
    refine (rn_iload_n (pc := 75) (dd bX13_addFold dX13_addFold_75) rfl).trans ?_
    refine (rg_imul (pc := 76) (dd bX13_addFold dX13_addFold_76) (p1 c1) (p2 c1)).trans ?_
    refine (rn_aload_n (pc := 77) (dd bX13_addFold dX13_addFold_77) rfl).trans ?_
    refine (rg_gf (pc := 78) (dd bX13_addFold dX13_addFold_78) (ci := 14) (j := 20) rfl rfl (key := 1520) rfl (kc := 34) rfl s3.1 s3.2.2.2.2.2.2.2.2.2.2.2.2.2.2.2.2.2.2.2.2.2.2.2.2.2.2.2.2.2.2.2.2.2.2.2.2.2.2.2.2.2.2.2.2.2.2.2.2.2.2.2.2.2.2.2.1).trans ?_
    refine (rn_iload_n (pc := 81) (dd bX13_addFold dX13_addFold_81) rfl).trans ?_
    refine (rg_iaload (pc := 82) (dd bX13_addFold dX13_addFold_82) s3.2.2.2.2.2.2.2.2.2.2.2.2.2.2.2.2.2.2.2.2.2.2.2.2.2.2.2.2.2.2.2.2.2.2.2.2.2.2.2.2.2.2.2.2.2.2.2.2.2.2.2.2.2.2.2.2.1 s3.2.2.2.2.2.2.2.2.2.2.2.2.2.2.2.2.2.2.2.2.2.2.2.2.2.2.2.2.2.2.2.2.2.2.2.2.2.2.2.2.2.2.2.2.2.2.2.2.2.2.2.2.2.2.2.2.2.1 (p4 c1) (p5 c1) rfl).trans ?_
    refine (rg_iadd (pc := 83) (dd bX13_addFold dX13_addFold_83) (p6 c1) (p7 c1)).trans ?_
    refine (rn_istore (pc := 84) (dd bX13_addFold dX13_addFold_84) (Nat.le_of_ble_eq_true rfl) rfl).trans ?_
    refine (rn_aload_n (pc := 86) (dd bX13_addFold dX13_addFold_86) rfl).trans ?_
    refine (rg_gf (pc := 87) (dd bX13_addFold dX13_addFold_87) (ci := 14) (j := 21) rfl rfl (key := 1521) rfl (kc := 34) rfl s3.1 s3.2.2.2.2.2.2.2.2.2.2.2.2.2.2.2.2.2.2.2.2.2.2.2.2.2.2.2.2.2.2.2.2.2.2.2.2.2.2.2.2.2.2.2.2.2.2.2.2.2.2.2.2.2.2.2.2.2.2.1).trans ?_
    refine (rn_iload (pc := 90) (dd bX13_addFold dX13_addFold_90) rfl).trans ?_
    refine (rn_iload_n (pc := 92) (dd bX13_addFold dX13_addFold_92) rfl).trans ?_
    refine (rg_iastore (pc := 93) (dd bX13_addFold dX13_addFold_93) s3.2.2.2.2.2.2.2.2.2.2.2.2.2.2.2.2.2.2.2.2.2.2.2.2.2.2.2.2.2.2.2.2.2.2.2.2.2.2.2.2.2.2.2.2.2.2.2.2.2.2.2.2.2.2.2.2.2.2.2.1 s3.2.2.2.2.2.2.2.2.2.2.2.2.2.2.2.2.2.2.2.2.2.2.2.2.2.2.2.2.2.2.2.2.2.2.2.2.2.2.2.2.2.2.2.2.2.2.2.2.2.2.2.2.2.2.2.2.2.2.2.2.1 (p8 c1) (p9 c1)).trans ?_
    refine (rn_aload_n (pc := 94) (dd bX13_addFold dX13_addFold_94) rfl).trans ?_
    refine (rg_gf (pc := 95) (dd bX13_addFold dX13_addFold_95) (ci := 14) (j := 22) rfl rfl (key := 1522) rfl (kc := 34) rfl ((vup_k (by decide)).trans s3.1) ((vup_k (by decide)).trans s3.2.2.2.2.2.2.2.2.2.2.2.2.2.2.2.2.2.2.2.2.2.2.2.2.2.2.2.2.2.2.2.2.2.2.2.2.2.2.2.2.2.2.2.2.2.2.2.2.2.2.2.2.2.2.2.2.2.2.2.2.2.1)).trans ?_
    refine (rn_iload (pc := 98) (dd bX13_addFold dX13_addFold_98) rfl).trans ?_
    refine (rn_iload_n (pc := 100) (dd bX13_addFold dX13_addFold_100) rfl).trans ?_
    refine (rg_iastore (pc := 101) (dd bX13_addFold dX13_addFold_101) ((vup_k (by decide)).trans s3.2.2.2.2.2.2.2.2.2.2.2.2.2.2.2.2.2.2.2.2.2.2.2.2.2.2.2.2.2.2.2.2.2.2.2.2.2.2.2.2.2.2.2.2.2.2.2.2.2.2.2.2.2.2.2.2.2.2.2.2.2.2.1) ((vup_k (by decide)).trans s3.2.2.2.2.2.2.2.2.2.2.2.2.2.2.2.2.2.2.2.2.2.2.2.2.2.2.2.2.2.2.2.2.2.2.2.2.2.2.2.2.2.2.2.2.2.2.2.2.2.2.2.2.2.2.2.2.2.2.2.2.2.2.2.1) (by have z0 := p1 c1; have z1 := p2 c1; have z2 := p6 c1; have z3 := p7 c1; have z4 := p8 c1; have z5 := p9 c1; omega) (by have z0 := p1 c1; have z1 := p2 c1; have z2 := p6 c1; have z3 := p7 c1; have z4 := p8 c1; have z5 := p9 c1; omega)).trans ?_
    refine (rn_aload_n (pc := 102) (dd bX13_addFold dX13_addFold_102) rfl).trans ?_
    refine (rg_gf (pc := 103) (dd bX13_addFold dX13_addFold_103) (ci := 14) (j := 23) rfl rfl (key := 1523) rfl (kc := 34) rfl ((vup_k (by decide)).trans ((vup_k (by decide)).trans s3.1)) ((vup_k (by decide)).trans ((vup_k (by decide)).trans s3.2.2.2.2.2.2.2.2.2.2.2.2.2.2.2.2.2.2.2.2.2.2.2.2.2.2.2.2.2.2.2.2.2.2.2.2.2.2.2.2.2.2.2.2.2.2.2.2.2.2.2.2.2.2.2.2.2.2.2.2.2.2.2.2.1))).trans ?_
    refine (rn_iload (pc := 106) (dd bX13_addFold dX13_addFold_106) rfl).trans ?_
    refine (rn_iconst (pc := 108) (dd bX13_addFold dX13_addFold_108) (by decide)).trans ?_
    refine (rg_bastore (pc := 109) (dd bX13_addFold dX13_addFold_109) ((vup_k (by decide)).trans ((vup_k (by decide)).trans s3.2.2.2.2.2.2.2.2.2.2.2.2.2.2.2.2.2.2.2.2.2.2.2.2.2.2.2.2.2.2.2.2.2.2.2.2.2.2.2.2.2.2.2.2.2.2.2.2.2.2.2.2.2.2.2.2.2.2.2.2.2.2.2.2.2.1)) ((vup_k (by decide)).trans ((vup_k (by decide)).trans s3.2.2.2.2.2.2.2.2.2.2.2.2.2.2.2.2.2.2.2.2.2.2.2.2.2.2.2.2.2.2.2.2.2.2.2.2.2.2.2.2.2.2.2.2.2.2.2.2.2.2.2.2.2.2.2.2.2.2.2.2.2.2.2.2.2.2.1)) (by have z0 := p1 c1; have z1 := p2 c1; have z2 := p6 c1; have z3 := p7 c1; have z4 := p8 c1; have z5 := p9 c1; omega) (by have z0 := p1 c1; have z1 := p2 c1; have z2 := p6 c1; have z3 := p7 c1; have z4 := p8 c1; have z5 := p9 c1; omega) (by decide)).trans ?_
    refine (rn_aload_n (pc := 110) (dd bX13_addFold dX13_addFold_110) rfl).trans ?_
    refine (rg_gf (pc := 111) (dd bX13_addFold dX13_addFold_111) (ci := 14) (j := 20) rfl rfl (key := 1520) rfl (kc := 34) rfl ((vup_k (by decide)).trans ((vup_k (by decide)).trans ((vup_k (by decide)).trans s3.1))) ((vup_k (by decide)).trans ((vup_k (by decide)).trans ((vup_k (by decide)).trans s3.2.2.2.2.2.2.2.2.2.2.2.2.2.2.2.2.2.2.2.2.2.2.2.2.2.2.2.2.2.2.2.2.2.2.2.2.2.2.2.2.2.2.2.2.2.2.2.2.2.2.2.2.2.2.2.1)))).trans ?_
    refine (rn_iload_n (pc := 114) (dd bX13_addFold dX13_addFold_114) rfl).trans ?_
    refine (rn_dup2 (pc := 115) (dd bX13_addFold dX13_addFold_115) (by decide)).trans ?_
    refine (rg_iaload (pc := 116) (dd bX13_addFold dX13_addFold_116) ((vup_k (by decide)).trans ((vup_k (by decide)).trans ((vup_k (by decide)).trans s3.2.2.2.2.2.2.2.2.2.2.2.2.2.2.2.2.2.2.2.2.2.2.2.2.2.2.2.2.2.2.2.2.2.2.2.2.2.2.2.2.2.2.2.2.2.2.2.2.2.2.2.2.2.2.2.2.1))) ((vup_k (by decide)).trans ((vup_k (by decide)).trans ((vup_k (by decide)).trans s3.2.2.2.2.2.2.2.2.2.2.2.2.2.2.2.2.2.2.2.2.2.2.2.2.2.2.2.2.2.2.2.2.2.2.2.2.2.2.2.2.2.2.2.2.2.2.2.2.2.2.2.2.2.2.2.2.2.1))) (by have z0 := p4 c1; have z1 := p5 c1; omega) (by have z0 := p4 c1; have z1 := p5 c1; omega) ((vup_r (by omega)).trans ((vup_r (by omega)).trans ((vup_r (by omega)).trans rfl)))).trans ?_
    refine (rn_iconst (pc := 117) (dd bX13_addFold dX13_addFold_117) (by decide)).trans ?_
    refine (rg_iadd (pc := 118) (dd bX13_addFold dX13_addFold_118) (p10 c1) (p11 c1)).trans ?_
    refine (rg_iastore (pc := 119) (dd bX13_addFold dX13_addFold_119) ((vup_k (by decide)).trans ((vup_k (by decide)).trans ((vup_k (by decide)).trans s3.2.2.2.2.2.2.2.2.2.2.2.2.2.2.2.2.2.2.2.2.2.2.2.2.2.2.2.2.2.2.2.2.2.2.2.2.2.2.2.2.2.2.2.2.2.2.2.2.2.2.2.2.2.2.2.2.1))) ((vup_k (by decide)).trans ((vup_k (by decide)).trans ((vup_k (by decide)).trans s3.2.2.2.2.2.2.2.2.2.2.2.2.2.2.2.2.2.2.2.2.2.2.2.2.2.2.2.2.2.2.2.2.2.2.2.2.2.2.2.2.2.2.2.2.2.2.2.2.2.2.2.2.2.2.2.2.2.1))) (by have z0 := p4 c1; have z1 := p5 c1; omega) (by have z0 := p4 c1; have z1 := p5 c1; omega)).trans ?_
    refine (rn_aload_n (pc := 120) (dd bX13_addFold dX13_addFold_120) rfl).trans ?_
    refine (rg_gf (pc := 121) (dd bX13_addFold dX13_addFold_121) (ci := 14) (j := 20) rfl rfl (key := 1520) rfl (kc := 34) rfl ((vup_k (by decide)).trans ((vup_k (by decide)).trans ((vup_k (by decide)).trans ((vup_k (by decide)).trans s3.1)))) ((vup_k (by decide)).trans ((vup_k (by decide)).trans ((vup_k (by decide)).trans ((vup_k (by decide)).trans s3.2.2.2.2.2.2.2.2.2.2.2.2.2.2.2.2.2.2.2.2.2.2.2.2.2.2.2.2.2.2.2.2.2.2.2.2.2.2.2.2.2.2.2.2.2.2.2.2.2.2.2.2.2.2.2.1))))).trans ?_
    refine (rn_iload_n (pc := 124) (dd bX13_addFold dX13_addFold_124) rfl).trans ?_
    refine (rg_iaload (pc := 125) (dd bX13_addFold dX13_addFold_125) ((vup_k (by decide)).trans ((vup_k (by decide)).trans ((vup_k (by decide)).trans ((vup_k (by decide)).trans s3.2.2.2.2.2.2.2.2.2.2.2.2.2.2.2.2.2.2.2.2.2.2.2.2.2.2.2.2.2.2.2.2.2.2.2.2.2.2.2.2.2.2.2.2.2.2.2.2.2.2.2.2.2.2.2.2.1)))) ((vup_k (by decide)).trans ((vup_k (by decide)).trans ((vup_k (by decide)).trans ((vup_k (by decide)).trans s3.2.2.2.2.2.2.2.2.2.2.2.2.2.2.2.2.2.2.2.2.2.2.2.2.2.2.2.2.2.2.2.2.2.2.2.2.2.2.2.2.2.2.2.2.2.2.2.2.2.2.2.2.2.2.2.2.2.1)))) (by have z0 := p4 c1; have z1 := p5 c1; omega) (by have z0 := p4 c1; have z1 := p5 c1; omega) rfl).trans ?_
    exact rn_ireturn (pc := 126) (dd bX13_addFold dX13_addFold_126) (Or.inl rfl)
theorem bX13_setClosed : vmB mX13_setClosed = cX13_setClosed := rfl
theorem rX13_setClosed_0 {x1 : Int} {x2 : Int} {x3 : Int} {h : vH} (s1 : shModel h) (p2 : ¬ (x1 < 0) ∧ ¬ (3 < x1) → 0 ≤ x1) (p3 : ¬ (x1 < 0) ∧ ¬ (3 < x1) → x1 < 4) (p4 : ¬ (x1 < 0) ∧ ¬ (3 < x1) → (-2147483648) ≤ h 2 301 x1 - 1) (p5 : ¬ (x1 < 0) ∧ ¬ (3 < x1) → h 2 301 x1 - 1 < 2147483648) : vrun mX13_setClosed 0 [(1, 282), (0, x1), (0, x2), (0, x3), (9, 0), (9, 0)] [] h = vret vrun mX13_setClosed 37 [(1, 282), (0, x1), (0, x2), (0, x3), (0, (if ¬ (x1 < 0) ∧ ¬ (3 < x1) then 1 else 0)), (9, 0)] [] (vcl mX13_isFine [(1, 282), (0, (if ¬ (x1 < 0) ∧ ¬ (3 < x1) then (if ¬ (x2 < 0) ∧ ¬ (h 2 301 x1 - 1 < x2) then 0 else 2) else 1))] h) := by
  refine (rn_iload_n (pc := 0) (dd bX13_setClosed dX13_setClosed_0) rfl).trans ?_
  refine (rg_static (pc := 1) (dd bX13_setClosed dX13_setClosed_1) rfl (by decide) (Nat.le_of_ble_eq_true rfl) (as := [(0, x1)]) rfl rfl ⟨Nat.le_of_ble_eq_true rfl, Nat.le_of_ble_eq_true rfl, Nat.le_of_ble_eq_true rfl, Nat.le_of_ble_eq_true rfl⟩).trans ?_
  refine (vret_v spX13_isPane).trans ?_
  refine (rn_istore (pc := 4) (dd bX13_setClosed dX13_setClosed_4) (Nat.le_of_ble_eq_true rfl) rfl).trans ?_
  refine (rn_aload_n (pc := 6) (dd bX13_setClosed dX13_setClosed_6) rfl).trans ?_
  refine (rn_iload (pc := 7) (dd bX13_setClosed dX13_setClosed_7) rfl).trans ?_
  have e2 : vrun mX13_setClosed 9 [(1, 282), (0, x1), (0, x2), (0, x3), (0, (if ¬ (x1 < 0) ∧ ¬ (3 < x1) then 1 else 0)), (9, 0)] [(0, (if ¬ (x1 < 0) ∧ ¬ (3 < x1) then 1 else 0)), (1, 282)] h = vrun mX13_setClosed 37 [(1, 282), (0, x1), (0, x2), (0, x3), (0, (if ¬ (x1 < 0) ∧ ¬ (3 < x1) then 1 else 0)), (9, 0)] [(0, (if ¬ (x1 < 0) ∧ ¬ (3 < x1) then (if ¬ (x2 < 0) ∧ ¬ (h 2 301 x1 - 1 < x2) then 0 else 2) else 1)), (1, 282)] h := by
    refine (rg_bne (t := 16) (pc := 9) (dd bX13_setClosed dX13_setClosed_9) rfl).trans ?_
    by_cases c1 : ¬ (x1 < 0) ∧ ¬ (3 < x1)
    · refine (if_pos c1).trans ?_
      refine (rn_iload_n (pc := 16) (dd bX13_setClosed dX13_setClosed_16) rfl).trans ?_
      refine (rn_iconst (pc := 17) (dd bX13_setClosed dX13_setClosed_17) (by decide)).trans ?_
      refine (rn_aload_n (pc := 18) (dd bX13_setClosed dX13_setClosed_18) rfl).trans ?_
      refine (rg_gf (pc := 19) (dd bX13_setClosed dX13_setClosed_19) (ci := 14) (j := 20) rfl rfl (key := 1520) rfl (kc := 34) rfl s1.1 s1.2.2.2.2.2.2.2.2.2.2.2.2.2.2.2.2.2.2.2.2.2.2.2.2.2.2.2.2.2.2.2.2.2.2.2.2.2.2.2.2.2.2.2.2.2.2.2.2.2.2.2.2.2.2.2.1).trans ?_
      refine (rn_iload_n (pc := 22) (dd bX13_setClosed dX13_setClosed_22) rfl).trans ?_
      refine (rg_iaload (pc := 23) (dd bX13_setClosed dX13_setClosed_23) s1.2.2.2.2.2.2.2.2.2.2.2.2.2.2.2.2.2.2.2.2.2.2.2.2.2.2.2.2.2.2.2.2.2.2.2.2.2.2.2.2.2.2.2.2.2.2.2.2.2.2.2.2.2.2.2.2.1 s1.2.2.2.2.2.2.2.2.2.2.2.2.2.2.2.2.2.2.2.2.2.2.2.2.2.2.2.2.2.2.2.2.2.2.2.2.2.2.2.2.2.2.2.2.2.2.2.2.2.2.2.2.2.2.2.2.2.1 (p2 c1) (p3 c1) rfl).trans ?_
      refine (rn_iconst (pc := 24) (dd bX13_setClosed dX13_setClosed_24) (by decide)).trans ?_
      refine (rg_isub (pc := 25) (dd bX13_setClosed dX13_setClosed_25) (p4 c1) (p5 c1)).trans ?_
      refine (rg_static (pc := 26) (dd bX13_setClosed dX13_setClosed_26) rfl (by decide) (Nat.le_of_ble_eq_true rfl) (as := [(0, x2), (0, 0), (0, h 2 301 x1 - 1)]) rfl rfl ⟨Nat.le_of_ble_eq_true rfl, Nat.le_of_ble_eq_true rfl, Nat.le_of_ble_eq_true rfl, Nat.le_of_ble_eq_true rfl⟩).trans ?_
      refine (vret_v spX13_isIn).trans ?_
      have e1 : vrun mX13_setClosed 29 [(1, 282), (0, x1), (0, x2), (0, x3), (0, (if ¬ (x1 < 0) ∧ ¬ (3 < x1) then 1 else 0)), (9, 0)] [(0, (if ¬ (x2 < 0) ∧ ¬ (h 2 301 x1 - 1 < x2) then 1 else 0)), (1, 282)] h = vrun mX13_setClosed 37 [(1, 282), (0, x1), (0, x2), (0, x3), (0, (if ¬ (x1 < 0) ∧ ¬ (3 < x1) then 1 else 0)), (9, 0)] [(0, (if ¬ (x2 < 0) ∧ ¬ (h 2 301 x1 - 1 < x2) then 0 else 2)), (1, 282)] h := by
        refine (rg_bne (t := 36) (pc := 29) (dd bX13_setClosed dX13_setClosed_29) rfl).trans ?_
        by_cases c2 : ¬ (x2 < 0) ∧ ¬ (h 2 301 x1 - 1 < x2)
        · refine (if_pos c2).trans ?_
          refine (rn_iconst (pc := 36) (dd bX13_setClosed dX13_setClosed_36) (by decide)).trans ?_
          refine Eq.trans (b := vrun mX13_setClosed 37 [(1, 282), (0, x1), (0, x2), (0, x3), (0, (if ¬ (x1 < 0) ∧ ¬ (3 < x1) then 1 else 0)), (9, 0)] [(0, 0), (1, 282)] h) rfl ?_
          simp only [if_pos c2]
        · refine (if_neg c2).trans ?_
          refine (rn_iconst (pc := 32) (dd bX13_setClosed dX13_setClosed_32) (by decide)).trans ?_
          refine (rn_goto (t := 37) (pc := 33) (dd bX13_setClosed dX13_setClosed_33) rfl).trans ?_
          refine Eq.trans (b := vrun mX13_setClosed 37 [(1, 282), (0, x1), (0, x2), (0, x3), (0, (if ¬ (x1 < 0) ∧ ¬ (3 < x1) then 1 else 0)), (9, 0)] [(0, 2), (1, 282)] h) rfl ?_
          simp only [if_neg c2]
      refine e1.trans ?_
      refine Eq.trans (b := vrun mX13_setClosed 37 [(1, 282), (0, x1), (0, x2), (0, x3), (0, (if ¬ (x1 < 0) ∧ ¬ (3 < x1) then 1 else 0)), (9, 0)] [(0, (if ¬ (x2 < 0) ∧ ¬ (h 2 301 x1 - 1 < x2) then 0 else 2)), (1, 282)] h) rfl ?_
      simp only [if_pos c1]
    · refine (if_neg c1).trans ?_
      refine (rn_iconst (pc := 12) (dd bX13_setClosed dX13_setClosed_12) (by decide)).trans ?_
      refine (rn_goto (t := 37) (pc := 13) (dd bX13_setClosed dX13_setClosed_13) rfl).trans ?_
      refine Eq.trans (b := vrun mX13_setClosed 37 [(1, 282), (0, x1), (0, x2), (0, x3), (0, (if ¬ (x1 < 0) ∧ ¬ (3 < x1) then 1 else 0)), (9, 0)] [(0, 1), (1, 282)] h) rfl ?_
      simp only [if_neg c1]
  refine e2.trans ?_
  exact rg_virtual (pc := 37) (dd bX13_setClosed dX13_setClosed_37) rfl rfl (by decide) (kc := 34) rfl s1.1 (as := [(1, 282), (0, (if ¬ (x1 < 0) ∧ ¬ (3 < x1) then (if ¬ (x2 < 0) ∧ ¬ (h 2 301 x1 - 1 < x2) then 0 else 2) else 1))]) rfl ⟨Nat.le_of_ble_eq_true rfl, Nat.le_of_ble_eq_true rfl, Nat.le_of_ble_eq_true rfl, Nat.le_of_ble_eq_true rfl⟩
theorem rX13_setClosed_40 {x1 : Int} {x2 : Int} {x3 : Int} {x4 : Int} {y0 : Int} {h : vH} (s1 : shModel h) (p2 : ¬ (y0 = 0) → (-2147483648) ≤ 6 * x1) (p3 : ¬ (y0 = 0) → 6 * x1 < 2147483648) (p4 : ¬ (y0 = 0) → (-2147483648) ≤ 6 * x1 + x2) (p5 : ¬ (y0 = 0) → 6 * x1 + x2 < 2147483648) (p6 : ¬ (y0 = 0) → 0 ≤ 6 * x1 + x2) (p7 : ¬ (y0 = 0) → 6 * x1 + x2 < 24) (p8 : ¬ (y0 = 0) → x3 = 0 ∨ x3 = 1) (p9 : ¬ (y0 = 0) → h 2 304 (6 * x1 + x2) = 0 ∨ h 2 304 (6 * x1 + x2) = 1) : vrun mX13_setClosed 40 [(1, 282), (0, x1), (0, x2), (0, x3), (0, x4), (9, 0)] [(0, y0)] h = if y0 = 0 then some (.inl (some (0, 0)), h) else some (.inl (some (0, h 2 304 (6 * x1 + x2))), vup h 2 304 (6 * x1 + x2) x3) := by
  refine (rg_if_ne (t := 45) (pc := 40) (dd bX13_setClosed dX13_setClosed_40) rfl).trans (itec (fun c1 => ?_) (fun c1 => ?_))
  · refine (rn_iconst (pc := 43) (dd bX13_setClosed dX13_setClosed_43) (by decide)).trans ?_
    exact rn_ireturn (pc := 44) (dd bX13_setClosed dX13_setClosed_44) (Or.inr ⟨rfl, (by decide)⟩)
  · refine (rn_aload_n (pc := 45) (dd bX13_setClosed dX13_setClosed_45) rfl).trans ?_
    refine (rg_gf (pc := 46) (dd bX13_setClosed dX13_setClosed_46) (ci := 14) (j := 23) rfl rfl (key := 1523) rfl (kc := 34) rfl s1.1 s1.2.2.2.2.2.2.2.2.2.2.2.2.2.2.2.2.2.2.2.2.2.2.2.2.2.2.2.2.2.2.2.2.2.2.2.2.2.2.2.2.2.2.2.2.2.2.2.2.2.2.2.2.2.2.2.2.2.2.2.2.2.2.2.2.1).trans ?_
    refine (rn_bipush (pc := 49) (dd bX13_setClosed dX13_setClosed_49) (by decide)).trans ?_
    refine (rn_iload_n (pc := 51) (dd bX13_setClosed dX13_setClosed_51) rfl).trans ?_
    refine (rg_imul (pc := 52) (dd bX13_setClosed dX13_setClosed_52) (p2 c1) (p3 c1)).trans ?_
    refine (rn_iload_n (pc := 53) (dd bX13_setClosed dX13_setClosed_53) rfl).trans ?_
    refine (rg_iadd (pc := 54) (dd bX13_setClosed dX13_setClosed_54) (p4 c1) (p5 c1)).trans ?_
    refine (rg_baload (pc := 55) (dd bX13_setClosed dX13_setClosed_55) s1.2.2.2.2.2.2.2.2.2.2.2.2.2.2.2.2.2.2.2.2.2.2.2.2.2.2.2.2.2.2.2.2.2.2.2.2.2.2.2.2.2.2.2.2.2.2.2.2.2.2.2.2.2.2.2.2.2.2.2.2.2.2.2.2.2.1 s1.2.2.2.2.2.2.2.2.2.2.2.2.2.2.2.2.2.2.2.2.2.2.2.2.2.2.2.2.2.2.2.2.2.2.2.2.2.2.2.2.2.2.2.2.2.2.2.2.2.2.2.2.2.2.2.2.2.2.2.2.2.2.2.2.2.2.1 (p6 c1) (p7 c1) rfl).trans ?_
    refine (rn_istore (pc := 56) (dd bX13_setClosed dX13_setClosed_56) (Nat.le_of_ble_eq_true rfl) rfl).trans ?_
    refine (rn_aload_n (pc := 58) (dd bX13_setClosed dX13_setClosed_58) rfl).trans ?_
    refine (rg_gf (pc := 59) (dd bX13_setClosed dX13_setClosed_59) (ci := 14) (j := 23) rfl rfl (key := 1523) rfl (kc := 34) rfl s1.1 s1.2.2.2.2.2.2.2.2.2.2.2.2.2.2.2.2.2.2.2.2.2.2.2.2.2.2.2.2.2.2.2.2.2.2.2.2.2.2.2.2.2.2.2.2.2.2.2.2.2.2.2.2.2.2.2.2.2.2.2.2.2.2.2.2.1).trans ?_
    refine (rn_bipush (pc := 62) (dd bX13_setClosed dX13_setClosed_62) (by decide)).trans ?_
    refine (rn_iload_n (pc := 64) (dd bX13_setClosed dX13_setClosed_64) rfl).trans ?_
    refine (rg_imul (pc := 65) (dd bX13_setClosed dX13_setClosed_65) (by have z0 := p2 c1; have z1 := p3 c1; omega) (by have z0 := p2 c1; have z1 := p3 c1; omega)).trans ?_
    refine (rn_iload_n (pc := 66) (dd bX13_setClosed dX13_setClosed_66) rfl).trans ?_
    refine (rg_iadd (pc := 67) (dd bX13_setClosed dX13_setClosed_67) (by have z0 := p2 c1; have z1 := p3 c1; have z2 := p4 c1; have z3 := p5 c1; have z4 := p6 c1; have z5 := p7 c1; omega) (by have z0 := p2 c1; have z1 := p3 c1; have z2 := p4 c1; have z3 := p5 c1; have z4 := p6 c1; have z5 := p7 c1; omega)).trans ?_
    refine (rn_iload_n (pc := 68) (dd bX13_setClosed dX13_setClosed_68) rfl).trans ?_
    refine (rg_bastore (pc := 69) (dd bX13_setClosed dX13_setClosed_69) s1.2.2.2.2.2.2.2.2.2.2.2.2.2.2.2.2.2.2.2.2.2.2.2.2.2.2.2.2.2.2.2.2.2.2.2.2.2.2.2.2.2.2.2.2.2.2.2.2.2.2.2.2.2.2.2.2.2.2.2.2.2.2.2.2.2.1 s1.2.2.2.2.2.2.2.2.2.2.2.2.2.2.2.2.2.2.2.2.2.2.2.2.2.2.2.2.2.2.2.2.2.2.2.2.2.2.2.2.2.2.2.2.2.2.2.2.2.2.2.2.2.2.2.2.2.2.2.2.2.2.2.2.2.2.1 (by have z0 := p2 c1; have z1 := p3 c1; have z2 := p4 c1; have z3 := p5 c1; have z4 := p6 c1; have z5 := p7 c1; omega) (by have z0 := p2 c1; have z1 := p3 c1; have z2 := p4 c1; have z3 := p5 c1; have z4 := p6 c1; have z5 := p7 c1; omega) (p8 c1)).trans ?_
    refine (rn_iload (pc := 70) (dd bX13_setClosed dX13_setClosed_70) rfl).trans ?_
    exact rn_ireturn (pc := 72) (dd bX13_setClosed dX13_setClosed_72) (Or.inr ⟨rfl, (p9 c1)⟩)
theorem bX13_isInvisible : vmB mX13_isInvisible = cX13_isInvisible := rfl
theorem rX13_isInvisible_0 {x1 : Int} {x2 : Int} {h : vH} (p1 : (-2147483648) ≤ 6 * x1) (p2 : 6 * x1 < 2147483648) : vrun mX13_isInvisible 0 [(1, 282), (0, x1), (0, x2), (9, 0), (9, 0)] [] h = vrun mX13_isInvisible 8 [(1, 282), (0, x1), (0, x2), (0, 0), (0, 6 * x1)] [] h := by
  refine (rn_iconst (pc := 0) (dd bX13_isInvisible dX13_isInvisible_0) (by decide)).trans ?_
  refine (rn_istore_n (pc := 1) (dd bX13_isInvisible dX13_isInvisible_1) (Nat.le_of_ble_eq_true rfl) rfl).trans ?_
  refine (rn_bipush (pc := 2) (dd bX13_isInvisible dX13_isInvisible_2) (by decide)).trans ?_
  refine (rn_iload_n (pc := 4) (dd bX13_isInvisible dX13_isInvisible_4) rfl).trans ?_
  refine (rg_imul (pc := 5) (dd bX13_isInvisible dX13_isInvisible_5) p1 p2).trans ?_
  refine (rn_istore (pc := 6) (dd bX13_isInvisible dX13_isInvisible_6) (Nat.le_of_ble_eq_true rfl) rfl).trans ?_
  rfl
theorem rX13_isInvisible_8 {x1 : Int} {x2 : Int} {x3 : Int} {x4 : Int} {h : vH} (p1 : (-2147483648) ≤ 6 * x1) (p2 : 6 * x1 < 2147483648) (s3 : shModel h) (p4 : 0 ≤ x1) (p5 : x1 < 4) (p6 : (-2147483648) ≤ 6 * x1 + h 2 301 x1) (p7 : 6 * x1 + h 2 301 x1 < 2147483648) (p8 : 6 * x1 + h 2 301 x1 ≤ x4 → x3 = 0 ∨ x3 = 1) (p9 : ¬ (6 * x1 + h 2 301 x1 ≤ x4) → x3 = 0 → 0 ≤ x4) (p10 : ¬ (6 * x1 + h 2 301 x1 ≤ x4) → x3 = 0 → x4 < 24) (p11 : ¬ (6 * x1 + h 2 301 x1 ≤ x4) → (-2147483648) ≤ x4 + 1) (p12 : ¬ (6 * x1 + h 2 301 x1 ≤ x4) → x4 + 1 < 2147483648) : vrun mX13_isInvisible 8 [(1, 282), (0, x1), (0, x2), (0, x3), (0, x4)] [] h = if 6 * x1 + h 2 301 x1 ≤ x4 then some (.inl (some (0, x3)), h) else vrun mX13_isInvisible 8 [(1, 282), (0, x1), (0, x2), (0, (if ¬ (x3 = 0) ∨ ¬ (h 2 304 x4 = 0) ∧ ¬ (x2 ≤ h 2 302 x4) ∧ ¬ (h 2 303 x4 < x2) then 1 else 0)), (0, x4 + 1)] [] h := by
  refine (rn_iload (pc := 8) (dd bX13_isInvisible dX13_isInvisible_8) rfl).trans ?_
  refine (rn_bipush (pc := 10) (dd bX13_isInvisible dX13_isInvisible_10) (by decide)).trans ?_
  refine (rn_iload_n (pc := 12) (dd bX13_isInvisible dX13_isInvisible_12) rfl).trans ?_
  refine (rg_imul (pc := 13) (dd bX13_isInvisible dX13_isInvisible_13) p1 p2).trans ?_
  refine (rn_aload_n (pc := 14) (dd bX13_isInvisible dX13_isInvisible_14) rfl).trans ?_
  refine (rg_gf (pc := 15) (dd bX13_isInvisible dX13_isInvisible_15) (ci := 14) (j := 20) rfl rfl (key := 1520) rfl (kc := 34) rfl s3.1 s3.2.2.2.2.2.2.2.2.2.2.2.2.2.2.2.2.2.2.2.2.2.2.2.2.2.2.2.2.2.2.2.2.2.2.2.2.2.2.2.2.2.2.2.2.2.2.2.2.2.2.2.2.2.2.2.1).trans ?_
  refine (rn_iload_n (pc := 18) (dd bX13_isInvisible dX13_isInvisible_18) rfl).trans ?_
  refine (rg_iaload (pc := 19) (dd bX13_isInvisible dX13_isInvisible_19) s3.2.2.2.2.2.2.2.2.2.2.2.2.2.2.2.2.2.2.2.2.2.2.2.2.2.2.2.2.2.2.2.2.2.2.2.2.2.2.2.2.2.2.2.2.2.2.2.2.2.2.2.2.2.2.2.2.1 s3.2.2.2.2.2.2.2.2.2.2.2.2.2.2.2.2.2.2.2.2.2.2.2.2.2.2.2.2.2.2.2.2.2.2.2.2.2.2.2.2.2.2.2.2.2.2.2.2.2.2.2.2.2.2.2.2.2.1 p4 p5 rfl).trans ?_
  refine (rg_iadd (pc := 20) (dd bX13_isInvisible dX13_isInvisible_20) p6 p7).trans ?_
  refine (rn_icmp_ge (t := 72) (pc := 21) (dd bX13_isInvisible dX13_isInvisible_21) rfl).trans (itec (fun c1 => ?_) (fun c1 => ?_))
  · refine (rn_iload_n (pc := 72) (dd bX13_isInvisible dX13_isInvisible_72) rfl).trans ?_
    exact rn_ireturn (pc := 73) (dd bX13_isInvisible dX13_isInvisible_73) (Or.inr ⟨rfl, (p8 c1)⟩)
  · refine (rn_iload_n (pc := 24) (dd bX13_isInvisible dX13_isInvisible_24) rfl).trans ?_
    have e4 : vrun mX13_isInvisible 25 [(1, 282), (0, x1), (0, x2), (0, x3), (0, x4)] [(0, x3)] h = vrun mX13_isInvisible 65 [(1, 282), (0, x1), (0, x2), (0, x3), (0, x4)] [(0, (if ¬ (x3 = 0) ∨ ¬ (h 2 304 x4 = 0) ∧ ¬ (x2 ≤ h 2 302 x4) ∧ ¬ (h 2 303 x4 < x2) then 1 else 0))] h := by
      refine (rg_if_ne (t := 60) (pc := 25) (dd bX13_isInvisible dX13_isInvisible_25) rfl).trans ?_
      by_cases c2 : x3 = 0
      · refine (if_pos c2).trans ?_
        refine (rn_aload_n (pc := 28) (dd bX13_isInvisible dX13_isInvisible_28) rfl).trans ?_
        refine (rg_gf (pc := 29) (dd bX13_isInvisible dX13_isInvisible_29) (ci := 14) (j := 23) rfl rfl (key := 1523) rfl (kc := 34) rfl s3.1 s3.2.2.2.2.2.2.2.2.2.2.2.2.2.2.2.2.2.2.2.2.2.2.2.2.2.2.2.2.2.2.2.2.2.2.2.2.2.2.2.2.2.2.2.2.2.2.2.2.2.2.2.2.2.2.2.2.2.2.2.2.2.2.2.2.1).trans ?_
        refine (rn_iload (pc := 32) (dd bX13_isInvisible dX13_isInvisible_32) rfl).trans ?_
        refine (rg_baload (pc := 34) (dd bX13_isInvisible dX13_isInvisible_34) s3.2.2.2.2.2.2.2.2.2.2.2.2.2.2.2.2.2.2.2.2.2.2.2.2.2.2.2.2.2.2.2.2.2.2.2.2.2.2.2.2.2.2.2.2.2.2.2.2.2.2.2.2.2.2.2.2.2.2.2.2.2.2.2.2.2.1 s3.2.2.2.2.2.2.2.2.2.2.2.2.2.2.2.2.2.2.2.2.2.2.2.2.2.2.2.2.2.2.2.2.2.2.2.2.2.2.2.2.2.2.2.2.2.2.2.2.2.2.2.2.2.2.2.2.2.2.2.2.2.2.2.2.2.2.1 (p9 c1 c2) (p10 c1 c2) rfl).trans ?_
        have e3 : vrun mX13_isInvisible 35 [(1, 282), (0, x1), (0, x2), (0, x3), (0, x4)] [(0, h 2 304 x4)] h = vrun mX13_isInvisible 65 [(1, 282), (0, x1), (0, x2), (0, x3), (0, x4)] [(0, (if ¬ (h 2 304 x4 = 0) ∧ ¬ (x2 ≤ h 2 302 x4) ∧ ¬ (h 2 303 x4 < x2) then 1 else 0))] h := by
          refine (rn_if_eq (t := 64) (pc := 35) (dd bX13_isInvisible dX13_isInvisible_35) rfl).trans ?_
          by_cases c3 : h 2 304 x4 = 0
          · refine (if_pos c3).trans ?_
            refine (rn_iconst (pc := 64) (dd bX13_isInvisible dX13_isInvisible_64) (by decide)).trans ?_
            refine Eq.trans (b := vrun mX13_isInvisible 65 [(1, 282), (0, x1), (0, x2), (0, x3), (0, x4)] [(0, 0)] h) rfl ?_
            simp only [c3, true_or, false_or, or_true, or_false, true_and, false_and, and_true, and_false, not_true_eq_false, not_false_eq_true, ne_eq, if_true, if_false, ↓reduceIte]
          · refine (if_neg c3).trans ?_
            refine (rn_iload_n (pc := 38) (dd bX13_isInvisible dX13_isInvisible_38) rfl).trans ?_
            refine (rn_aload_n (pc := 39) (dd bX13_isInvisible dX13_isInvisible_39) rfl).trans ?_
            refine (rg_gf (pc := 40) (dd bX13_isInvisible dX13_isInvisible_40) (ci := 14) (j := 21) rfl rfl (key := 1521) rfl (kc := 34) rfl s3.1 s3.2.2.2.2.2.2.2.2.2.2.2.2.2.2.2.2.2.2.2.2.2.2.2.2.2.2.2.2.2.2.2.2.2.2.2.2.2.2.2.2.2.2.2.2.2.2.2.2.2.2.2.2.2.2.2.2.2.2.1).trans ?_
            refine (rn_iload (pc := 43) (dd bX13_isInvisible dX13_isInvisible_43) rfl).trans ?_
            refine (rg_iaload (pc := 45) (dd bX13_isInvisible dX13_isInvisible_45) s3.2.2.2.2.2.2.2.2.2.2.2.2.2.2.2.2.2.2.2.2.2.2.2.2.2.2.2.2.2.2.2.2.2.2.2.2.2.2.2.2.2.2.2.2.2.2.2.2.2.2.2.2.2.2.2.2.2.2.2.1 s3.2.2.2.2.2.2.2.2.2.2.2.2.2.2.2.2.2.2.2.2.2.2.2.2.2.2.2.2.2.2.2.2.2.2.2.2.2.2.2.2.2.2.2.2.2.2.2.2.2.2.2.2.2.2.2.2.2.2.2.2.1 (by have z0 := p9 c1 c2; have z1 := p10 c1 c2; omega) (by have z0 := p9 c1 c2; have z1 := p10 c1 c2; omega) rfl).trans ?_
            have e2 : vrun mX13_isInvisible 46 [(1, 282), (0, x1), (0, x2), (0, x3), (0, x4)] [(0, h 2 302 x4), (0, x2)] h = vrun mX13_isInvisible 65 [(1, 282), (0, x1), (0, x2), (0, x3), (0, x4)] [(0, (if ¬ (x2 ≤ h 2 302 x4) ∧ ¬ (h 2 303 x4 < x2) then 1 else 0))] h := by
              refine (rn_icmp_le (t := 64) (pc := 46) (dd bX13_isInvisible dX13_isInvisible_46) rfl).trans ?_
              by_cases c4 : x2 ≤ h 2 302 x4
              · refine (if_pos c4).trans ?_
                refine (rn_iconst (pc := 64) (dd bX13_isInvisible dX13_isInvisible_64) (by decide)).trans ?_
                refine Eq.trans (b := vrun mX13_isInvisible 65 [(1, 282), (0, x1), (0, x2), (0, x3), (0, x4)] [(0, 0)] h) rfl ?_
                simp only [c4, true_or, false_or, or_true, or_false, true_and, false_and, and_true, and_false, not_true_eq_false, not_false_eq_true, ne_eq, if_true, if_false, ↓reduceIte]
              · refine (if_neg c4).trans ?_
                refine (rn_iload_n (pc := 49) (dd bX13_isInvisible dX13_isInvisible_49) rfl).trans ?_
                refine (rn_aload_n (pc := 50) (dd bX13_isInvisible dX13_isInvisible_50) rfl).trans ?_
                refine (rg_gf (pc := 51) (dd bX13_isInvisible dX13_isInvisible_51) (ci := 14) (j := 22) rfl rfl (key := 1522) rfl (kc := 34) rfl s3.1 s3.2.2.2.2.2.2.2.2.2.2.2.2.2.2.2.2.2.2.2.2.2.2.2.2.2.2.2.2.2.2.2.2.2.2.2.2.2.2.2.2.2.2.2.2.2.2.2.2.2.2.2.2.2.2.2.2.2.2.2.2.2.1).trans ?_
                refine (rn_iload (pc := 54) (dd bX13_isInvisible dX13_isInvisible_54) rfl).trans ?_
                refine (rg_iaload (pc := 56) (dd bX13_isInvisible dX13_isInvisible_56) s3.2.2.2.2.2.2.2.2.2.2.2.2.2.2.2.2.2.2.2.2.2.2.2.2.2.2.2.2.2.2.2.2.2.2.2.2.2.2.2.2.2.2.2.2.2.2.2.2.2.2.2.2.2.2.2.2.2.2.2.2.2.2.1 s3.2.2.2.2.2.2.2.2.2.2.2.2.2.2.2.2.2.2.2.2.2.2.2.2.2.2.2.2.2.2.2.2.2.2.2.2.2.2.2.2.2.2.2.2.2.2.2.2.2.2.2.2.2.2.2.2.2.2.2.2.2.2.2.1 (by have z0 := p9 c1 c2; have z1 := p10 c1 c2; omega) (by have z0 := p9 c1 c2; have z1 := p10 c1 c2; omega) rfl).trans ?_
                have e1 : vrun mX13_isInvisible 57 [(1, 282), (0, x1), (0, x2), (0, x3), (0, x4)] [(0, h 2 303 x4), (0, x2)] h = vrun mX13_isInvisible 65 [(1, 282), (0, x1), (0, x2), (0, x3), (0, x4)] [(0, (if ¬ (h 2 303 x4 < x2) then 1 else 0))] h := by
                  refine (rn_icmp_gt (t := 64) (pc := 57) (dd bX13_isInvisible dX13_isInvisible_57) rfl).trans ?_
                  by_cases c5 : h 2 303 x4 < x2
                  · refine (if_pos c5).trans ?_
                    refine (rn_iconst (pc := 64) (dd bX13_isInvisible dX13_isInvisible_64) (by decide)).trans ?_
                    refine Eq.trans (b := vrun mX13_isInvisible 65 [(1, 282), (0, x1), (0, x2), (0, x3), (0, x4)] [(0, 0)] h) rfl ?_
                    simp only [c5, true_or, false_or, or_true, or_false, true_and, false_and, and_true, and_false, not_true_eq_false, not_false_eq_true, ne_eq, if_true, if_false, ↓reduceIte]
                  · refine (if_neg c5).trans ?_
                    refine (rn_iconst (pc := 60) (dd bX13_isInvisible dX13_isInvisible_60) (by decide)).trans ?_
                    refine (rn_goto (t := 65) (pc := 61) (dd bX13_isInvisible dX13_isInvisible_61) rfl).trans ?_
                    refine Eq.trans (b := vrun mX13_isInvisible 65 [(1, 282), (0, x1), (0, x2), (0, x3), (0, x4)] [(0, 1)] h) rfl ?_
                    simp only [c5, true_or, false_or, or_true, or_false, true_and, false_and, and_true, and_false, not_true_eq_false, not_false_eq_true, ne_eq, if_true, if_false, ↓reduceIte]
                refine e1.trans ?_
                refine Eq.trans (b := vrun mX13_isInvisible 65 [(1, 282), (0, x1), (0, x2), (0, x3), (0, x4)] [(0, (if ¬ (h 2 303 x4 < x2) then 1 else 0))] h) rfl ?_
                simp only [c4, true_or, false_or, or_true, or_false, true_and, false_and, and_true, and_false, not_true_eq_false, not_false_eq_true, ne_eq, if_true, if_false, ↓reduceIte]
            refine e2.trans ?_
            refine Eq.trans (b := vrun mX13_isInvisible 65 [(1, 282), (0, x1), (0, x2), (0, x3), (0, x4)] [(0, (if ¬ (x2 ≤ h 2 302 x4) ∧ ¬ (h 2 303 x4 < x2) then 1 else 0))] h) rfl ?_
            simp only [c3, true_or, false_or, or_true, or_false, true_and, false_and, and_true, and_false, not_true_eq_false, not_false_eq_true, ne_eq, if_true, if_false, ↓reduceIte]
        refine e3.trans ?_
        refine Eq.trans (b := vrun mX13_isInvisible 65 [(1, 282), (0, x1), (0, x2), (0, x3), (0, x4)] [(0, (if ¬ (h 2 304 x4 = 0) ∧ ¬ (x2 ≤ h 2 302 x4) ∧ ¬ (h 2 303 x4 < x2) then 1 else 0))] h) rfl ?_
        simp only [c2, true_or, false_or, or_true, or_false, true_and, false_and, and_true, and_false, not_true_eq_false, not_false_eq_true, ne_eq, if_true, if_false, ↓reduceIte]
      · refine (if_neg c2).trans ?_
        refine (rn_iconst (pc := 60) (dd bX13_isInvisible dX13_isInvisible_60) (by decide)).trans ?_
        refine (rn_goto (t := 65) (pc := 61) (dd bX13_isInvisible dX13_isInvisible_61) rfl).trans ?_
        refine Eq.trans (b := vrun mX13_isInvisible 65 [(1, 282), (0, x1), (0, x2), (0, x3), (0, x4)] [(0, 1)] h) rfl ?_
        simp only [c2, true_or, false_or, or_true, or_false, true_and, false_and, and_true, and_false, not_true_eq_false, not_false_eq_true, ne_eq, if_true, if_false, ↓reduceIte]
    refine e4.trans ?_
    refine (rn_istore_n (pc := 65) (dd bX13_isInvisible dX13_isInvisible_65) (Nat.le_of_ble_eq_true rfl) rfl).trans ?_
    refine (rg_iinc (pc := 66) (dd bX13_isInvisible dX13_isInvisible_66) rfl (Nat.le_of_ble_eq_true rfl) (p11 c1) (p12 c1) rfl).trans ?_
    refine (rn_goto (t := 8) (pc := 69) (dd bX13_isInvisible dX13_isInvisible_69) rfl).trans ?_
    rfl
theorem bX13_adds : vmB mX13_adds = cX13_adds := rfl
theorem rX13_adds_0 {x1 : Int} {x2 : Int} {x3 : Int} {x4 : Int} {h : vH} (s1 : shModel h) (p2 : 0 ≤ h 1540 282 0) (p3 : h 1540 282 0 < 140) : vrun mX13_adds 0 [(1, 282), (0, x1), (0, x2), (0, x3), (0, x4)] [] h = some (.inl none, vup (vup (vup (vup (vup h 2 311 (h 1540 282 0) x1) 2 312 (h 1540 282 0) x2) 2 313 (h 1540 282 0) x3) 2 314 (h 1540 282 0) x4) 1540 282 0 (h 1540 282 0 + 1)) := by
  refine (rn_aload_n (pc := 0) (dd bX13_adds dX13_adds_0) rfl).trans ?_
  refine (rg_gf (pc := 1) (dd bX13_adds dX13_adds_1) (ci := 14) (j := 30) rfl rfl (key := 1530) rfl (kc := 34) rfl s1.1 s1.2.2.2.2.2.2.2.2.2.2.2.2.2.2.2.2.2.2.2.2.2.2.2.2.2.2.2.2.2.2.2.2.2.2.2.2.2.2.2.2.2.2.2.2.2.2.2.2.2.2.2.2.2.2.2.2.2.2.2.2.2.2.2.2.2.2.2.2.2.2.2.2.2.2.2.2.2.2.2.2.2.2.2.2.2.1).trans ?_
  refine (rn_aload_n (pc := 4) (dd bX13_adds dX13_adds_4) rfl).trans ?_
  refine (rg_gf (pc := 5) (dd bX13_adds dX13_adds_5) (ci := 14) (j := 40) rfl rfl (key := 1540) rfl (kc := 34) rfl s1.1 rfl).trans ?_
  refine (rn_iload_n (pc := 8) (dd bX13_adds dX13_adds_8) rfl).trans ?_
  refine (rg_iastore (pc := 9) (dd bX13_adds dX13_adds_9) s1.2.2.2.2.2.2.2.2.2.2.2.2.2.2.2.2.2.2.2.2.2.2.2.2.2.2.2.2.2.2.2.2.2.2.2.2.2.2.2.2.2.2.2.2.2.2.2.2.2.2.2.2.2.2.2.2.2.2.2.2.2.2.2.2.2.2.2.2.2.2.2.2.2.2.2.2.2.2.2.2.2.2.2.2.2.2.1 s1.2.2.2.2.2.2.2.2.2.2.2.2.2.2.2.2.2.2.2.2.2.2.2.2.2.2.2.2.2.2.2.2.2.2.2.2.2.2.2.2.2.2.2.2.2.2.2.2.2.2.2.2.2.2.2.2.2.2.2.2.2.2.2.2.2.2.2.2.2.2.2.2.2.2.2.2.2.2.2.2.2.2.2.2.2.2.2.1 p2 p3).trans ?_
  refine (rn_aload_n (pc := 10) (dd bX13_adds dX13_adds_10) rfl).trans ?_
  refine (rg_gf (pc := 11) (dd bX13_adds dX13_adds_11) (ci := 14) (j := 31) rfl rfl (key := 1531) rfl (kc := 34) rfl ((vup_k (by decide)).trans s1.1) ((vup_k (by decide)).trans s1.2.2.2.2.2.2.2.2.2.2.2.2.2.2.2.2.2.2.2.2.2.2.2.2.2.2.2.2.2.2.2.2.2.2.2.2.2.2.2.2.2.2.2.2.2.2.2.2.2.2.2.2.2.2.2.2.2.2.2.2.2.2.2.2.2.2.2.2.2.2.2.2.2.2.2.2.2.2.2.2.2.2.2.2.2.2.2.2.1)).trans ?_
  refine (rn_aload_n (pc := 14) (dd bX13_adds dX13_adds_14) rfl).trans ?_
  refine (rg_gf (pc := 15) (dd bX13_adds dX13_adds_15) (ci := 14) (j := 40) rfl rfl (key := 1540) rfl (kc := 34) rfl ((vup_k (by decide)).trans s1.1) ((vup_k (by decide)).trans rfl)).trans ?_
  refine (rn_iload_n (pc := 18) (dd bX13_adds dX13_adds_18) rfl).trans ?_
  refine (rg_iastore (pc := 19) (dd bX13_adds dX13_adds_19) ((vup_k (by decide)).trans s1.2.2.2.2.2.2.2.2.2.2.2.2.2.2.2.2.2.2.2.2.2.2.2.2.2.2.2.2.2.2.2.2.2.2.2.2.2.2.2.2.2.2.2.2.2.2.2.2.2.2.2.2.2.2.2.2.2.2.2.2.2.2.2.2.2.2.2.2.2.2.2.2.2.2.2.2.2.2.2.2.2.2.2.2.2.2.2.2.2.1) ((vup_k (by decide)).trans s1.2.2.2.2.2.2.2.2.2.2.2.2.2.2.2.2.2.2.2.2.2.2.2.2.2.2.2.2.2.2.2.2.2.2.2.2.2.2.2.2.2.2.2.2.2.2.2.2.2.2.2.2.2.2.2.2.2.2.2.2.2.2.2.2.2.2.2.2.2.2.2.2.2.2.2.2.2.2.2.2.2.2.2.2.2.2.2.2.2.2.1) (by omega) (by omega)).trans ?_
  refine (rn_aload_n (pc := 20) (dd bX13_adds dX13_adds_20) rfl).trans ?_
  refine (rg_gf (pc := 21) (dd bX13_adds dX13_adds_21) (ci := 14) (j := 32) rfl rfl (key := 1532) rfl (kc := 34) rfl ((vup_k (by decide)).trans ((vup_k (by decide)).trans s1.1)) ((vup_k (by decide)).trans ((vup_k (by decide)).trans s1.2.2.2.2.2.2.2.2.2.2.2.2.2.2.2.2.2.2.2.2.2.2.2.2.2.2.2.2.2.2.2.2.2.2.2.2.2.2.2.2.2.2.2.2.2.2.2.2.2.2.2.2.2.2.2.2.2.2.2.2.2.2.2.2.2.2.2.2.2.2.2.2.2.2.2.2.2.2.2.2.2.2.2.2.2.2.2.2.2.2.2.1))).trans ?_
  refine (rn_aload_n (pc := 24) (dd bX13_adds dX13_adds_24) rfl).trans ?_
  refine (rg_gf (pc := 25) (dd bX13_adds dX13_adds_25) (ci := 14) (j := 40) rfl rfl (key := 1540) rfl (kc := 34) rfl ((vup_k (by decide)).trans ((vup_k (by decide)).trans s1.1)) ((vup_k (by decide)).trans ((vup_k (by decide)).trans rfl))).trans ?_
  refine (rn_iload_n (pc := 28) (dd bX13_adds dX13_adds_28) rfl).trans ?_
  refine (rg_iastore (pc := 29) (dd bX13_adds dX13_adds_29) ((vup_k (by decide)).trans ((vup_k (by decide)).trans s1.2.2.2.2.2.2.2.2.2.2.2.2.2.2.2.2.2.2.2.2.2.2.2.2.2.2.2.2.2.2.2.2.2.2.2.2.2.2.2.2.2.2.2.2.2.2.2.2.2.2.2.2.2.2.2.2.2.2.2.2.2.2.2.2.2.2.2.2.2.2.2.2.2.2.2.2.2.2.2.2.2.2.2.2.2.2.2.2.2.2.2.2.1)) ((vup_k (by decide)).trans ((vup_k (by decide)).trans s1.2.2.2.2.2.2.2.2.2.2.2.2.2.2.2.2.2.2.2.2.2.2.2.2.2.2.2.2.2.2.2.2.2.2.2.2.2.2.2.2.2.2.2.2.2.2.2.2.2.2.2.2.2.2.2.2.2.2.2.2.2.2.2.2.2.2.2.2.2.2.2.2.2.2.2.2.2.2.2.2.2.2.2.2.2.2.2.2.2.2.2.2.2.1)) (by omega) (by omega)).trans ?_
  refine (rn_aload_n (pc := 30) (dd bX13_adds dX13_adds_30) rfl).trans ?_
  refine (rg_gf (pc := 31) (dd bX13_adds dX13_adds_31) (ci := 14) (j := 33) rfl rfl (key := 1533) rfl (kc := 34) rfl ((vup_k (by decide)).trans ((vup_k (by decide)).trans ((vup_k (by decide)).trans s1.1))) ((vup_k (by decide)).trans ((vup_k (by decide)).trans ((vup_k (by decide)).trans s1.2.2.2.2.2.2.2.2.2.2.2.2.2.2.2.2.2.2.2.2.2.2.2.2.2.2.2.2.2.2.2.2.2.2.2.2.2.2.2.2.2.2.2.2.2.2.2.2.2.2.2.2.2.2.2.2.2.2.2.2.2.2.2.2.2.2.2.2.2.2.2.2.2.2.2.2.2.2.2.2.2.2.2.2.2.2.2.2.2.2.2.2.2.2.1)))).trans ?_
  refine (rn_aload_n (pc := 34) (dd bX13_adds dX13_adds_34) rfl).trans ?_
  refine (rg_gf (pc := 35) (dd bX13_adds dX13_adds_35) (ci := 14) (j := 40) rfl rfl (key := 1540) rfl (kc := 34) rfl ((vup_k (by decide)).trans ((vup_k (by decide)).trans ((vup_k (by decide)).trans s1.1))) ((vup_k (by decide)).trans ((vup_k (by decide)).trans ((vup_k (by decide)).trans rfl)))).trans ?_
  refine (rn_iload (pc := 38) (dd bX13_adds dX13_adds_38) rfl).trans ?_
  refine (rg_iastore (pc := 40) (dd bX13_adds dX13_adds_40) ((vup_k (by decide)).trans ((vup_k (by decide)).trans ((vup_k (by decide)).trans s1.2.2.2.2.2.2.2.2.2.2.2.2.2.2.2.2.2.2.2.2.2.2.2.2.2.2.2.2.2.2.2.2.2.2.2.2.2.2.2.2.2.2.2.2.2.2.2.2.2.2.2.2.2.2.2.2.2.2.2.2.2.2.2.2.2.2.2.2.2.2.2.2.2.2.2.2.2.2.2.2.2.2.2.2.2.2.2.2.2.2.2.2.2.2.2.1))) ((vup_k (by decide)).trans ((vup_k (by decide)).trans ((vup_k (by decide)).trans s1.2.2.2.2.2.2.2.2.2.2.2.2.2.2.2.2.2.2.2.2.2.2.2.2.2.2.2.2.2.2.2.2.2.2.2.2.2.2.2.2.2.2.2.2.2.2.2.2.2.2.2.2.2.2.2.2.2.2.2.2.2.2.2.2.2.2.2.2.2.2.2.2.2.2.2.2.2.2.2.2.2.2.2.2.2.2.2.2.2.2.2.2.2.2.2.2.1))) (by omega) (by omega)).trans ?_
  refine (rn_aload_n (pc := 41) (dd bX13_adds dX13_adds_41) rfl).trans ?_
  refine (rn_dup (pc := 42) (dd bX13_adds dX13_adds_42) (by decide)).trans ?_
  refine (rg_gf (pc := 43) (dd bX13_adds dX13_adds_43) (ci := 14) (j := 40) rfl rfl (key := 1540) rfl (kc := 34) rfl ((vup_k (by decide)).trans ((vup_k (by decide)).trans ((vup_k (by decide)).trans ((vup_k (by decide)).trans s1.1)))) ((vup_k (by decide)).trans ((vup_k (by decide)).trans ((vup_k (by decide)).trans ((vup_k (by decide)).trans rfl))))).trans ?_
  refine (rn_iconst (pc := 46) (dd bX13_adds dX13_adds_46) (by decide)).trans ?_
  refine (rg_iadd (pc := 47) (dd bX13_adds dX13_adds_47) (by omega) (by omega)).trans ?_
  refine (rg_pf (pc := 48) (dd bX13_adds dX13_adds_48) (ci := 14) (j := 40) rfl (key := 1540) rfl (kc := 34) rfl ((vup_k (by decide)).trans ((vup_k (by decide)).trans ((vup_k (by decide)).trans ((vup_k (by decide)).trans s1.1)))) rfl (by intro z; cases z) (by decide)).trans ?_
  exact rn_return (pc := 51) (dd bX13_adds dX13_adds_51) rfl
theorem bX13_addsVirtuals : vmB mX13_addsVirtuals = cX13_addsVirtuals := rfl
theorem rX13_addsVirtuals_0 {x1 : Int} {x2 : Int} {x3 : Int} {x4 : Int} {h : vH} (p1 : (-2147483648) ≤ 6 * x1) (p2 : 6 * x1 < 2147483648) : vrun mX13_addsVirtuals 0 [(1, 282), (0, x1), (0, x2), (0, x3), (0, x4), (9, 0), (9, 0), (9, 0)] [] h = vrun mX13_addsVirtuals 6 [(1, 282), (0, x1), (0, x2), (0, x3), (0, x4), (0, 6 * x1), (9, 0), (9, 0)] [] h := by
  refine (rn_bipush (pc := 0) (dd bX13_addsVirtuals dX13_addsVirtuals_0) (by decide)).trans ?_
  refine (rn_iload_n (pc := 2) (dd bX13_addsVirtuals dX13_addsVirtuals_2) rfl).trans ?_
  refine (rg_imul (pc := 3) (dd bX13_addsVirtuals dX13_addsVirtuals_3) p1 p2).trans ?_
  refine (rn_istore (pc := 4) (dd bX13_addsVirtuals dX13_addsVirtuals_4) (Nat.le_of_ble_eq_true rfl) rfl).trans ?_
  rfl
theorem rX13_addsVirtuals_6 {x1 : Int} {x2 : Int} {x3 : Int} {x4 : Int} {x5 : Int} {v6 : vv} {v7 : vv} {h : vH} (p1 : (-2147483648) ≤ 6 * x1) (p2 : 6 * x1 < 2147483648) (s3 : shModel h) (p4 : 0 ≤ x1) (p5 : x1 < 4) (p6 : (-2147483648) ≤ 6 * x1 + h 2 297 x1) (p7 : 6 * x1 + h 2 297 x1 < 2147483648) : vrun mX13_addsVirtuals 6 [(1, 282), (0, x1), (0, x2), (0, x3), (0, x4), (0, x5), v6, v7] [] h = if 6 * x1 + h 2 297 x1 ≤ x5 then some (.inl none, h) else vrun mX13_addsVirtuals 25 [(1, 282), (0, x1), (0, x2), (0, x3), (0, x4), (0, x5), (0, 0), v7] [] h := by
  refine (rn_iload (pc := 6) (dd bX13_addsVirtuals dX13_addsVirtuals_6) rfl).trans ?_
  refine (rn_bipush (pc := 8) (dd bX13_addsVirtuals dX13_addsVirtuals_8) (by decide)).trans ?_
  refine (rn_iload_n (pc := 10) (dd bX13_addsVirtuals dX13_addsVirtuals_10) rfl).trans ?_
  refine (rg_imul (pc := 11) (dd bX13_addsVirtuals dX13_addsVirtuals_11) p1 p2).trans ?_
  refine (rn_aload_n (pc := 12) (dd bX13_addsVirtuals dX13_addsVirtuals_12) rfl).trans ?_
  refine (rg_gf (pc := 13) (dd bX13_addsVirtuals dX13_addsVirtuals_13) (ci := 14) (j := 16) rfl rfl (key := 1516) rfl (kc := 34) rfl s3.1 s3.2.2.2.2.2.2.2.2.2.2.2.2.2.2.2.2.2.2.2.2.2.2.2.2.2.2.2.2.2.2.2.2.2.2.2.2.2.2.2.2.2.2.2.1).trans ?_
  refine (rn_iload_n (pc := 16) (dd bX13_addsVirtuals dX13_addsVirtuals_16) rfl).trans ?_
  refine (rg_iaload (pc := 17) (dd bX13_addsVirtuals dX13_addsVirtuals_17) s3.2.2.2.2.2.2.2.2.2.2.2.2.2.2.2.2.2.2.2.2.2.2.2.2.2.2.2.2.2.2.2.2.2.2.2.2.2.2.2.2.2.2.2.2.1 s3.2.2.2.2.2.2.2.2.2.2.2.2.2.2.2.2.2.2.2.2.2.2.2.2.2.2.2.2.2.2.2.2.2.2.2.2.2.2.2.2.2.2.2.2.2.1 p4 p5 rfl).trans ?_
  refine (rg_iadd (pc := 18) (dd bX13_addsVirtuals dX13_addsVirtuals_18) p6 p7).trans ?_
  refine (rn_icmp_ge (t := 108) (pc := 19) (dd bX13_addsVirtuals dX13_addsVirtuals_19) rfl).trans (itec (fun c1 => ?_) (fun c1 => ?_))
  · exact rn_return (pc := 108) (dd bX13_addsVirtuals dX13_addsVirtuals_108) rfl
  · refine (rn_iconst (pc := 22) (dd bX13_addsVirtuals dX13_addsVirtuals_22) (by decide)).trans ?_
    refine (rn_istore (pc := 23) (dd bX13_addsVirtuals dX13_addsVirtuals_23) (Nat.le_of_ble_eq_true rfl) rfl).trans ?_
    rfl
theorem rX13_addsVirtuals_25 {x1 : Int} {x2 : Int} {x3 : Int} {x4 : Int} {x5 : Int} {x6 : Int} {v7 : vv} {h : vH} (p1 : 64 ≤ x6 → (-2147483648) ≤ x5 + 1) (p2 : 64 ≤ x6 → x5 + 1 < 2147483648) (s3 : shModel h) (p4 : ¬ (64 ≤ x6) → 0 ≤ x5) (p5 : ¬ (64 ≤ x6) → x5 < 24) (p6 : ¬ (64 ≤ x6) → h 2 298 x5 = x2 → ¬ (h 2 299 x5 < x3) ∧ ¬ (x4 < h 2 299 x5) → w32 (bland (blshr (h 2 300 x5) x6) 255) ≤ 0 → (-2147483648) ≤ x6 + 8) : vrun mX13_addsVirtuals 25 [(1, 282), (0, x1), (0, x2), (0, x3), (0, x4), (0, x5), (0, x6), v7] [] h = if 64 ≤ x6 then vrun mX13_addsVirtuals 6 [(1, 282), (0, x1), (0, x2), (0, x3), (0, x4), (0, x5 + 1), (0, x6), v7] [] h else if h 2 298 x5 = x2 then if ¬ (h 2 299 x5 < x3) ∧ ¬ (x4 < h 2 299 x5) then if w32 (bland (blshr (h 2 300 x5) x6) 255) ≤ 0 then vrun mX13_addsVirtuals 25 [(1, 282), (0, x1), (0, x2), (0, x3), (0, x4), (0, x5), (0, x6 + 8), (0, w32 (bland (blshr (h 2 300 x5) x6) 255))] [] h else vret vrun mX13_addsVirtuals 93 [(1, 282), (0, x1), (0, x2), (0, x3), (0, x4), (0, x5), (0, x6), (0, w32 (bland (blshr (h 2 300 x5) x6) 255))] [] (vcl mX13_adds [(1, 282), (0, w32 (bland (blshr (h 2 300 x5) x6) 255)), (0, 1), (0, (-1)), (0, h 2 299 x5)] h) else vrun mX13_addsVirtuals 6 [(1, 282), (0, x1), (0, x2), (0, x3), (0, x4), (0, x5 + 1), (0, x6), v7] [] h else vrun mX13_addsVirtuals 6 [(1, 282), (0, x1), (0, x2), (0, x3), (0, x4), (0, x5 + 1), (0, x6), v7] [] h := by
  refine (rn_iload (pc := 25) (dd bX13_addsVirtuals dX13_addsVirtuals_25) rfl).trans ?_
  refine (rn_bipush (pc := 27) (dd bX13_addsVirtuals dX13_addsVirtuals_27) (by decide)).trans ?_
  refine (rn_icmp_ge (t := 102) (pc := 29) (dd bX13_addsVirtuals dX13_addsVirtuals_29) rfl).trans (itec (fun c1 => ?_) (fun c1 => ?_))
  · refine (rg_iinc (pc := 102) (dd bX13_addsVirtuals dX13_addsVirtuals_102) rfl (Nat.le_of_ble_eq_true rfl) (p1 c1) (p2 c1) rfl).trans ?_
    refine (rn_goto (t := 6) (pc := 105) (dd bX13_addsVirtuals dX13_addsVirtuals_105) rfl).trans ?_
    rfl
  · refine (rn_aload_n (pc := 32) (dd bX13_addsVirtuals dX13_addsVirtuals_32) rfl).trans ?_
    refine (rg_gf (pc := 33) (dd bX13_addsVirtuals dX13_addsVirtuals_33) (ci := 14) (j := 17) rfl rfl (key := 1517) rfl (kc := 34) rfl s3.1 s3.2.2.2.2.2.2.2.2.2.2.2.2.2.2.2.2.2.2.2.2.2.2.2.2.2.2.2.2.2.2.2.2.2.2.2.2.2.2.2.2.2.2.2.2.2.2.1).trans ?_
    refine (rn_iload (pc := 36) (dd bX13_addsVirtuals dX13_addsVirtuals_36) rfl).trans ?_
    refine (rg_iaload (pc := 38) (dd bX13_addsVirtuals dX13_addsVirtuals_38) s3.2.2.2.2.2.2.2.2.2.2.2.2.2.2.2.2.2.2.2.2.2.2.2.2.2.2.2.2.2.2.2.2.2.2.2.2.2.2.2.2.2.2.2.2.2.2.2.1 s3.2.2.2.2.2.2.2.2.2.2.2.2.2.2.2.2.2.2.2.2.2.2.2.2.2.2.2.2.2.2.2.2.2.2.2.2.2.2.2.2.2.2.2.2.2.2.2.2.1 (p4 c1) (p5 c1) rfl).trans ?_
    refine (rn_iload_n (pc := 39) (dd bX13_addsVirtuals dX13_addsVirtuals_39) rfl).trans ?_
    refine (rg_icmp_ne (t := 102) (pc := 40) (dd bX13_addsVirtuals dX13_addsVirtuals_40) rfl).trans (itec (fun c2 => ?_) (fun c2 => ?_))
    · refine (rn_aload_n (pc := 43) (dd bX13_addsVirtuals dX13_addsVirtuals_43) rfl).trans ?_
      refine (rg_gf (pc := 44) (dd bX13_addsVirtuals dX13_addsVirtuals_44) (ci := 14) (j := 18) rfl rfl (key := 1518) rfl (kc := 34) rfl s3.1 s3.2.2.2.2.2.2.2.2.2.2.2.2.2.2.2.2.2.2.2.2.2.2.2.2.2.2.2.2.2.2.2.2.2.2.2.2.2.2.2.2.2.2.2.2.2.2.2.2.2.1).trans ?_
      refine (rn_iload (pc := 47) (dd bX13_addsVirtuals dX13_addsVirtuals_47) rfl).trans ?_
      refine (rg_iaload (pc := 49) (dd bX13_addsVirtuals dX13_addsVirtuals_49) s3.2.2.2.2.2.2.2.2.2.2.2.2.2.2.2.2.2.2.2.2.2.2.2.2.2.2.2.2.2.2.2.2.2.2.2.2.2.2.2.2.2.2.2.2.2.2.2.2.2.2.1 s3.2.2.2.2.2.2.2.2.2.2.2.2.2.2.2.2.2.2.2.2.2.2.2.2.2.2.2.2.2.2.2.2.2.2.2.2.2.2.2.2.2.2.2.2.2.2.2.2.2.2.2.1 (by have z0 := p4 c1; have z1 := p5 c1; omega) (by have z0 := p4 c1; have z1 := p5 c1; omega) rfl).trans ?_
      refine (rn_iload_n (pc := 50) (dd bX13_addsVirtuals dX13_addsVirtuals_50) rfl).trans ?_
      refine (rn_iload (pc := 51) (dd bX13_addsVirtuals dX13_addsVirtuals_51) rfl).trans ?_
      refine (rg_static (pc := 53) (dd bX13_addsVirtuals dX13_addsVirtuals_53) rfl (by decide) (Nat.le_of_ble_eq_true rfl) (as := [(0, h 2 299 x5), (0, x3), (0, x4)]) rfl rfl ⟨Nat.le_of_ble_eq_true rfl, Nat.le_of_ble_eq_true rfl, Nat.le_of_ble_eq_true rfl, Nat.le_of_ble_eq_true rfl⟩).trans ?_
      refine (vret_v spX13_isIn).trans ?_
      refine (rg_beq (t := 102) (pc := 56) (dd bX13_addsVirtuals dX13_addsVirtuals_56) rfl).trans (itec (fun c3 => ?_) (fun c3 => ?_))
      · refine (rn_aload_n (pc := 59) (dd bX13_addsVirtuals dX13_addsVirtuals_59) rfl).trans ?_
        refine (rg_gf (pc := 60) (dd bX13_addsVirtuals dX13_addsVirtuals_60) (ci := 14) (j := 19) rfl rfl (key := 1519) rfl (kc := 34) rfl s3.1 s3.2.2.2.2.2.2.2.2.2.2.2.2.2.2.2.2.2.2.2.2.2.2.2.2.2.2.2.2.2.2.2.2.2.2.2.2.2.2.2.2.2.2.2.2.2.2.2.2.2.2.2.2.1).trans ?_
        refine (rn_iload (pc := 63) (dd bX13_addsVirtuals dX13_addsVirtuals_63) rfl).trans ?_
        refine (rg_laload (pc := 65) (dd bX13_addsVirtuals dX13_addsVirtuals_65) s3.2.2.2.2.2.2.2.2.2.2.2.2.2.2.2.2.2.2.2.2.2.2.2.2.2.2.2.2.2.2.2.2.2.2.2.2.2.2.2.2.2.2.2.2.2.2.2.2.2.2.2.2.2.1 s3.2.2.2.2.2.2.2.2.2.2.2.2.2.2.2.2.2.2.2.2.2.2.2.2.2.2.2.2.2.2.2.2.2.2.2.2.2.2.2.2.2.2.2.2.2.2.2.2.2.2.2.2.2.2.1 (by have z0 := p4 c1; have z1 := p5 c1; omega) (by have z0 := p4 c1; have z1 := p5 c1; omega) rfl).trans ?_
        refine (rn_iload (pc := 66) (dd bX13_addsVirtuals dX13_addsVirtuals_66) rfl).trans ?_
        refine (rg_lshr (pc := 68) (dd bX13_addsVirtuals dX13_addsVirtuals_68)).trans ?_
        refine (rn_ldc2_w (pc := 69) (dd bX13_addsVirtuals dX13_addsVirtuals_69) (z := 255) rfl).trans ?_
        refine (rg_land (pc := 72) (dd bX13_addsVirtuals dX13_addsVirtuals_72)).trans ?_
        refine (rn_l2i (pc := 73) (dd bX13_addsVirtuals dX13_addsVirtuals_73)).trans ?_
        refine (rn_istore (pc := 74) (dd bX13_addsVirtuals dX13_addsVirtuals_74) (Nat.le_of_ble_eq_true rfl) rfl).trans ?_
        refine (rn_iload (pc := 76) (dd bX13_addsVirtuals dX13_addsVirtuals_76) rfl).trans ?_
        refine (rn_if_le (t := 96) (pc := 78) (dd bX13_addsVirtuals dX13_addsVirtuals_78) rfl).trans (itec (fun c4 => ?_) (fun c4 => ?_))
        · refine (rg_iinc (pc := 96) (dd bX13_addsVirtuals dX13_addsVirtuals_96) rfl (Nat.le_of_ble_eq_true rfl) (p6 c1 c2 c3 c4) (by have z0 := p6 c1 c2 c3 c4; omega) rfl).trans ?_
          refine (rn_goto (t := 25) (pc := 99) (dd bX13_addsVirtuals dX13_addsVirtuals_99) rfl).trans ?_
          rfl
        · refine (rn_aload_n (pc := 81) (dd bX13_addsVirtuals dX13_addsVirtuals_81) rfl).trans ?_
          refine (rn_iload (pc := 82) (dd bX13_addsVirtuals dX13_addsVirtuals_82) rfl).trans ?_
          refine (rn_iconst (pc := 84) (dd bX13_addsVirtuals dX13_addsVirtuals_84) (by decide)).trans ?_
          refine (rn_iconst (pc := 85) (dd bX13_addsVirtuals dX13_addsVirtuals_85) (by decide)).trans ?_
          refine (rn_aload_n (pc := 86) (dd bX13_addsVirtuals dX13_addsVirtuals_86) rfl).trans ?_
          refine (rg_gf (pc := 87) (dd bX13_addsVirtuals dX13_addsVirtuals_87) (ci := 14) (j := 18) rfl rfl (key := 1518) rfl (kc := 34) rfl s3.1 s3.2.2.2.2.2.2.2.2.2.2.2.2.2.2.2.2.2.2.2.2.2.2.2.2.2.2.2.2.2.2.2.2.2.2.2.2.2.2.2.2.2.2.2.2.2.2.2.2.2.1).trans ?_
          refine (rn_iload (pc := 90) (dd bX13_addsVirtuals dX13_addsVirtuals_90) rfl).trans ?_
          refine (rg_iaload (pc := 92) (dd bX13_addsVirtuals dX13_addsVirtuals_92) s3.2.2.2.2.2.2.2.2.2.2.2.2.2.2.2.2.2.2.2.2.2.2.2.2.2.2.2.2.2.2.2.2.2.2.2.2.2.2.2.2.2.2.2.2.2.2.2.2.2.2.1 s3.2.2.2.2.2.2.2.2.2.2.2.2.2.2.2.2.2.2.2.2.2.2.2.2.2.2.2.2.2.2.2.2.2.2.2.2.2.2.2.2.2.2.2.2.2.2.2.2.2.2.2.1 (by have z0 := p4 c1; have z1 := p5 c1; omega) (by have z0 := p4 c1; have z1 := p5 c1; omega) rfl).trans ?_
          exact rg_virtual (pc := 93) (dd bX13_addsVirtuals dX13_addsVirtuals_93) rfl rfl (by decide) (kc := 34) rfl s3.1 (as := [(1, 282), (0, w32 (bland (blshr (h 2 300 x5) x6) 255)), (0, 1), (0, (-1)), (0, h 2 299 x5)]) rfl ⟨Nat.le_of_ble_eq_true rfl, Nat.le_of_ble_eq_true rfl, Nat.le_of_ble_eq_true rfl, Nat.le_of_ble_eq_true rfl⟩
      · refine (rg_iinc (pc := 102) (dd bX13_addsVirtuals dX13_addsVirtuals_102) rfl (Nat.le_of_ble_eq_true rfl) (by have z0 := p4 c1; have z1 := p5 c1; omega) (by have z0 := p4 c1; have z1 := p5 c1; omega) rfl).trans ?_
        refine (rn_goto (t := 6) (pc := 105) (dd bX13_addsVirtuals dX13_addsVirtuals_105) rfl).trans ?_
        rfl
    · refine (rg_iinc (pc := 102) (dd bX13_addsVirtuals dX13_addsVirtuals_102) rfl (Nat.le_of_ble_eq_true rfl) (by have z0 := p4 c1; have z1 := p5 c1; omega) (by have z0 := p4 c1; have z1 := p5 c1; omega) rfl).trans ?_
      refine (rn_goto (t := 6) (pc := 105) (dd bX13_addsVirtuals dX13_addsVirtuals_105) rfl).trans ?_
      rfl
theorem rX13_addsVirtuals_96 {x1 : Int} {x2 : Int} {x3 : Int} {x4 : Int} {x5 : Int} {x6 : Int} {x7 : Int} {h : vH} (p1 : (-2147483648) ≤ x6 + 8) (p2 : x6 + 8 < 2147483648) : vrun mX13_addsVirtuals 96 [(1, 282), (0, x1), (0, x2), (0, x3), (0, x4), (0, x5), (0, x6), (0, x7)] [] h = vrun mX13_addsVirtuals 25 [(1, 282), (0, x1), (0, x2), (0, x3), (0, x4), (0, x5), (0, x6 + 8), (0, x7)] [] h := by
  refine (rg_iinc (pc := 96) (dd bX13_addsVirtuals dX13_addsVirtuals_96) rfl (Nat.le_of_ble_eq_true rfl) p1 p2 rfl).trans ?_
  refine (rn_goto (t := 25) (pc := 99) (dd bX13_addsVirtuals dX13_addsVirtuals_99) rfl).trans ?_
  rfl
theorem bX13_isHidden : vmB mX13_isHidden = cX13_isHidden := rfl
theorem rX13_isHidden_0 {x1 : Int} {x2 : Int} {x3 : Int} {h : vH} (p1 : (-2147483648) ≤ 6 * x1) (p2 : 6 * x1 < 2147483648) : vrun mX13_isHidden 0 [(1, 282), (0, x1), (0, x2), (0, x3), (9, 0), (9, 0)] [] h = vrun mX13_isHidden 9 [(1, 282), (0, x1), (0, x2), (0, x3), (0, 0), (0, 6 * x1)] [] h := by
  refine (rn_iconst (pc := 0) (dd bX13_isHidden dX13_isHidden_0) (by decide)).trans ?_
  refine (rn_istore (pc := 1) (dd bX13_isHidden dX13_isHidden_1) (Nat.le_of_ble_eq_true rfl) rfl).trans ?_
  refine (rn_bipush (pc := 3) (dd bX13_isHidden dX13_isHidden_3) (by decide)).trans ?_
  refine (rn_iload_n (pc := 5) (dd bX13_isHidden dX13_isHidden_5) rfl).trans ?_
  refine (rg_imul (pc := 6) (dd bX13_isHidden dX13_isHidden_6) p1 p2).trans ?_
  refine (rn_istore (pc := 7) (dd bX13_isHidden dX13_isHidden_7) (Nat.le_of_ble_eq_true rfl) rfl).trans ?_
  rfl
theorem rX13_isHidden_9 {x1 : Int} {x2 : Int} {x3 : Int} {x4 : Int} {x5 : Int} {h : vH} (p1 : (-2147483648) ≤ 6 * x1) (p2 : 6 * x1 < 2147483648) (s3 : shModel h) (p4 : 0 ≤ x1) (p5 : x1 < 4) (p6 : (-2147483648) ≤ 6 * x1 + h 2 293 x1) (p7 : 6 * x1 + h 2 293 x1 < 2147483648) (p8 : 6 * x1 + h 2 293 x1 ≤ x5 → x4 = 0 ∨ x4 = 1) (p9 : ¬ (6 * x1 + h 2 293 x1 ≤ x5) → x4 = 0 → 0 ≤ x5) (p10 : ¬ (6 * x1 + h 2 293 x1 ≤ x5) → x4 = 0 → x5 < 24) (p11 : ¬ (6 * x1 + h 2 293 x1 ≤ x5) → x4 = 0 → h 2 294 x5 = x2 → (-2147483648) ≤ h 2 296 x5 - 1) (p12 : ¬ (6 * x1 + h 2 293 x1 ≤ x5) → x4 = 0 → h 2 294 x5 = x2 → h 2 296 x5 - 1 < 2147483648) (p13 : ¬ (6 * x1 + h 2 293 x1 ≤ x5) → (-2147483648) ≤ x5 + 1) (p14 : ¬ (6 * x1 + h 2 293 x1 ≤ x5) → x5 + 1 < 2147483648) : vrun mX13_isHidden 9 [(1, 282), (0, x1), (0, x2), (0, x3), (0, x4), (0, x5)] [] h = if 6 * x1 + h 2 293 x1 ≤ x5 then some (.inl (some (0, x4)), h) else vrun mX13_isHidden 9 [(1, 282), (0, x1), (0, x2), (0, x3), (0, (if ¬ (x4 = 0) ∨ h 2 294 x5 = x2 ∧ ¬ (x3 < h 2 295 x5) ∧ ¬ (h 2 296 x5 - 1 < x3) then 1 else 0)), (0, x5 + 1)] [] h := by
  refine (rn_iload (pc := 9) (dd bX13_isHidden dX13_isHidden_9) rfl).trans ?_
  refine (rn_bipush (pc := 11) (dd bX13_isHidden dX13_isHidden_11) (by decide)).trans ?_
  refine (rn_iload_n (pc := 13) (dd bX13_isHidden dX13_isHidden_13) rfl).trans ?_
  refine (rg_imul (pc := 14) (dd bX13_isHidden dX13_isHidden_14) p1 p2).trans ?_
  refine (rn_aload_n (pc := 15) (dd bX13_isHidden dX13_isHidden_15) rfl).trans ?_
  refine (rg_gf (pc := 16) (dd bX13_isHidden dX13_isHidden_16) (ci := 14) (j := 12) rfl rfl (key := 1512) rfl (kc := 34) rfl s3.1 s3.2.2.2.2.2.2.2.2.2.2.2.2.2.2.2.2.2.2.2.2.2.2.2.2.2.2.2.2.2.2.2.1).trans ?_
  refine (rn_iload_n (pc := 19) (dd bX13_isHidden dX13_isHidden_19) rfl).trans ?_
  refine (rg_iaload (pc := 20) (dd bX13_isHidden dX13_isHidden_20) s3.2.2.2.2.2.2.2.2.2.2.2.2.2.2.2.2.2.2.2.2.2.2.2.2.2.2.2.2.2.2.2.2.1 s3.2.2.2.2.2.2.2.2.2.2.2.2.2.2.2.2.2.2.2.2.2.2.2.2.2.2.2.2.2.2.2.2.2.1 p4 p5 rfl).trans ?_
  refine (rg_iadd (pc := 21) (dd bX13_isHidden dX13_isHidden_21) p6 p7).trans ?_
  refine (rn_icmp_ge (t := 77) (pc := 22) (dd bX13_isHidden dX13_isHidden_22) rfl).trans (itec (fun c1 => ?_) (fun c1 => ?_))
  · refine (rn_iload (pc := 77) (dd bX13_isHidden dX13_isHidden_77) rfl).trans ?_
    exact rn_ireturn (pc := 79) (dd bX13_isHidden dX13_isHidden_79) (Or.inr ⟨rfl, (p8 c1)⟩)
  · refine (rn_iload (pc := 25) (dd bX13_isHidden dX13_isHidden_25) rfl).trans ?_
    have e3 : vrun mX13_isHidden 27 [(1, 282), (0, x1), (0, x2), (0, x3), (0, x4), (0, x5)] [(0, x4)] h = vrun mX13_isHidden 69 [(1, 282), (0, x1), (0, x2), (0, x3), (0, x4), (0, x5)] [(0, (if ¬ (x4 = 0) ∨ h 2 294 x5 = x2 ∧ ¬ (x3 < h 2 295 x5) ∧ ¬ (h 2 296 x5 - 1 < x3) then 1 else 0))] h := by
      refine (rg_if_ne (t := 64) (pc := 27) (dd bX13_isHidden dX13_isHidden_27) rfl).trans ?_
      by_cases c2 : x4 = 0
      · refine (if_pos c2).trans ?_
        refine (rn_aload_n (pc := 30) (dd bX13_isHidden dX13_isHidden_30) rfl).trans ?_
        refine (rg_gf (pc := 31) (dd bX13_isHidden dX13_isHidden_31) (ci := 14) (j := 13) rfl rfl (key := 1513) rfl (kc := 34) rfl s3.1 s3.2.2.2.2.2.2.2.2.2.2.2.2.2.2.2.2.2.2.2.2.2.2.2.2.2.2.2.2.2.2.2.2.2.2.1).trans ?_
        refine (rn_iload (pc := 34) (dd bX13_isHidden dX13_isHidden_34) rfl).trans ?_
        refine (rg_iaload (pc := 36) (dd bX13_isHidden dX13_isHidden_36) s3.2.2.2.2.2.2.2.2.2.2.2.2.2.2.2.2.2.2.2.2.2.2.2.2.2.2.2.2.2.2.2.2.2.2.2.1 s3.2.2.2.2.2.2.2.2.2.2.2.2.2.2.2.2.2.2.2.2.2.2.2.2.2.2.2.2.2.2.2.2.2.2.2.2.1 (p9 c1 c2) (p10 c1 c2) rfl).trans ?_
        refine (rn_iload_n (pc := 37) (dd bX13_isHidden dX13_isHidden_37) rfl).trans ?_
        have e2 : vrun mX13_isHidden 38 [(1, 282), (0, x1), (0, x2), (0, x3), (0, x4), (0, x5)] [(0, x2), (0, h 2 294 x5)] h = vrun mX13_isHidden 69 [(1, 282), (0, x1), (0, x2), (0, x3), (0, x4), (0, x5)] [(0, (if h 2 294 x5 = x2 ∧ ¬ (x3 < h 2 295 x5) ∧ ¬ (h 2 296 x5 - 1 < x3) then 1 else 0))] h := by
          refine (rg_icmp_ne (t := 68) (pc := 38) (dd bX13_isHidden dX13_isHidden_38) rfl).trans ?_
          by_cases c3 : h 2 294 x5 = x2
          · refine (if_pos c3).trans ?_
            refine (rn_iload_n (pc := 41) (dd bX13_isHidden dX13_isHidden_41) rfl).trans ?_
            refine (rn_aload_n (pc := 42) (dd bX13_isHidden dX13_isHidden_42) rfl).trans ?_
            refine (rg_gf (pc := 43) (dd bX13_isHidden dX13_isHidden_43) (ci := 14) (j := 14) rfl rfl (key := 1514) rfl (kc := 34) rfl s3.1 s3.2.2.2.2.2.2.2.2.2.2.2.2.2.2.2.2.2.2.2.2.2.2.2.2.2.2.2.2.2.2.2.2.2.2.2.2.2.1).trans ?_
            refine (rn_iload (pc := 46) (dd bX13_isHidden dX13_isHidden_46) rfl).trans ?_
            refine (rg_iaload (pc := 48) (dd bX13_isHidden dX13_isHidden_48) s3.2.2.2.2.2.2.2.2.2.2.2.2.2.2.2.2.2.2.2.2.2.2.2.2.2.2.2.2.2.2.2.2.2.2.2.2.2.2.1 s3.2.2.2.2.2.2.2.2.2.2.2.2.2.2.2.2.2.2.2.2.2.2.2.2.2.2.2.2.2.2.2.2.2.2.2.2.2.2.2.1 (by have z0 := p9 c1 c2; have z1 := p10 c1 c2; omega) (by have z0 := p9 c1 c2; have z1 := p10 c1 c2; omega) rfl).trans ?_
            refine (rn_aload_n (pc := 49) (dd bX13_isHidden dX13_isHidden_49) rfl).trans ?_
            refine (rg_gf (pc := 50) (dd bX13_isHidden dX13_isHidden_50) (ci := 14) (j := 15) rfl rfl (key := 1515) rfl (kc := 34) rfl s3.1 s3.2.2.2.2.2.2.2.2.2.2.2.2.2.2.2.2.2.2.2.2.2.2.2.2.2.2.2.2.2.2.2.2.2.2.2.2.2.2.2.2.1).trans ?_
            refine (rn_iload (pc := 53) (dd bX13_isHidden dX13_isHidden_53) rfl).trans ?_
            refine (rg_iaload (pc := 55) (dd bX13_isHidden dX13_isHidden_55) s3.2.2.2.2.2.2.2.2.2.2.2.2.2.2.2.2.2.2.2.2.2.2.2.2.2.2.2.2.2.2.2.2.2.2.2.2.2.2.2.2.2.1 s3.2.2.2.2.2.2.2.2.2.2.2.2.2.2.2.2.2.2.2.2.2.2.2.2.2.2.2.2.2.2.2.2.2.2.2.2.2.2.2.2.2.2.1 (by have z0 := p9 c1 c2; have z1 := p10 c1 c2; omega) (by have z0 := p9 c1 c2; have z1 := p10 c1 c2; omega) rfl).trans ?_
            refine (rn_iconst (pc := 56) (dd bX13_isHidden dX13_isHidden_56) (by decide)).trans ?_
            refine (rg_isub (pc := 57) (dd bX13_isHidden dX13_isHidden_57) (p11 c1 c2 c3) (p12 c1 c2 c3)).trans ?_
            refine (rg_static (pc := 58) (dd bX13_isHidden dX13_isHidden_58) rfl (by decide) (Nat.le_of_ble_eq_true rfl) (as := [(0, x3), (0, h 2 295 x5), (0, h 2 296 x5 - 1)]) rfl rfl ⟨Nat.le_of_ble_eq_true rfl, Nat.le_of_ble_eq_true rfl, Nat.le_of_ble_eq_true rfl, Nat.le_of_ble_eq_true rfl⟩).trans ?_
            refine (vret_v spX13_isIn).trans ?_
            have e1 : vrun mX13_isHidden 61 [(1, 282), (0, x1), (0, x2), (0, x3), (0, x4), (0, x5)] [(0, (if ¬ (x3 < h 2 295 x5) ∧ ¬ (h 2 296 x5 - 1 < x3) then 1 else 0))] h = vrun mX13_isHidden 69 [(1, 282), (0, x1), (0, x2), (0, x3), (0, x4), (0, x5)] [(0, (if ¬ (x3 < h 2 295 x5) ∧ ¬ (h 2 296 x5 - 1 < x3) then 1 else 0))] h := by
              refine (rg_beq (t := 68) (pc := 61) (dd bX13_isHidden dX13_isHidden_61) rfl).trans ?_
              by_cases c4 : ¬ (x3 < h 2 295 x5) ∧ ¬ (h 2 296 x5 - 1 < x3)
              · refine (if_pos c4).trans ?_
                refine (rn_iconst (pc := 64) (dd bX13_isHidden dX13_isHidden_64) (by decide)).trans ?_
                refine (rn_goto (t := 69) (pc := 65) (dd bX13_isHidden dX13_isHidden_65) rfl).trans ?_
                refine Eq.trans (b := vrun mX13_isHidden 69 [(1, 282), (0, x1), (0, x2), (0, x3), (0, x4), (0, x5)] [(0, 1)] h) rfl ?_
                simp only [c4, true_or, false_or, or_true, or_false, true_and, false_and, and_true, and_false, not_true_eq_false, not_false_eq_true, ne_eq, if_true, if_false, ↓reduceIte]
              · refine (if_neg c4).trans ?_
                refine (rn_iconst (pc := 68) (dd bX13_isHidden dX13_isHidden_68) (by decide)).trans ?_
                refine Eq.trans (b := vrun mX13_isHidden 69 [(1, 282), (0, x1), (0, x2), (0, x3), (0, x4), (0, x5)] [(0, 0)] h) rfl ?_
                simp only [c4, true_or, false_or, or_true, or_false, true_and, false_and, and_true, and_false, not_true_eq_false, not_false_eq_true, ne_eq, if_true, if_false, ↓reduceIte]
            refine e1.trans ?_
            refine Eq.trans (b := vrun mX13_isHidden 69 [(1, 282), (0, x1), (0, x2), (0, x3), (0, x4), (0, x5)] [(0, (if ¬ (x3 < h 2 295 x5) ∧ ¬ (h 2 296 x5 - 1 < x3) then 1 else 0))] h) rfl ?_
            simp only [c3, true_or, false_or, or_true, or_false, true_and, false_and, and_true, and_false, not_true_eq_false, not_false_eq_true, ne_eq, if_true, if_false, ↓reduceIte]
          · refine (if_neg c3).trans ?_
            refine (rn_iconst (pc := 68) (dd bX13_isHidden dX13_isHidden_68) (by decide)).trans ?_
            refine Eq.trans (b := vrun mX13_isHidden 69 [(1, 282), (0, x1), (0, x2), (0, x3), (0, x4), (0, x5)] [(0, 0)] h) rfl ?_
            simp only [c3, true_or, false_or, or_true, or_false, true_and, false_and, and_true, and_false, not_true_eq_false, not_false_eq_true, ne_eq, if_true, if_false, ↓reduceIte]
        refine e2.trans ?_
        refine Eq.trans (b := vrun mX13_isHidden 69 [(1, 282), (0, x1), (0, x2), (0, x3), (0, x4), (0, x5)] [(0, (if h 2 294 x5 = x2 ∧ ¬ (x3 < h 2 295 x5) ∧ ¬ (h 2 296 x5 - 1 < x3) then 1 else 0))] h) rfl ?_
        simp only [c2, true_or, false_or, or_true, or_false, true_and, false_and, and_true, and_false, not_true_eq_false, not_false_eq_true, ne_eq, if_true, if_false, ↓reduceIte]
      · refine (if_neg c2).trans ?_
        refine (rn_iconst (pc := 64) (dd bX13_isHidden dX13_isHidden_64) (by decide)).trans ?_
        refine (rn_goto (t := 69) (pc := 65) (dd bX13_isHidden dX13_isHidden_65) rfl).trans ?_
        refine Eq.trans (b := vrun mX13_isHidden 69 [(1, 282), (0, x1), (0, x2), (0, x3), (0, x4), (0, x5)] [(0, 1)] h) rfl ?_
        simp only [c2, true_or, false_or, or_true, or_false, true_and, false_and, and_true, and_false, not_true_eq_false, not_false_eq_true, ne_eq, if_true, if_false, ↓reduceIte]
    refine e3.trans ?_
    refine (rn_istore (pc := 69) (dd bX13_isHidden dX13_isHidden_69) (Nat.le_of_ble_eq_true rfl) rfl).trans ?_
    refine (rg_iinc (pc := 71) (dd bX13_isHidden dX13_isHidden_71) rfl (Nat.le_of_ble_eq_true rfl) (p13 c1) (p14 c1) rfl).trans ?_
    refine (rn_goto (t := 9) (pc := 74) (dd bX13_isHidden dX13_isHidden_74) rfl).trans ?_
    rfl
