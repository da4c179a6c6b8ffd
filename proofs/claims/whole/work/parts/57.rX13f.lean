theorem bX13_findsBox : vmB mX13_findsBox = cX13_findsBox := rfl
theorem rX13_findsBox_0 {x1 : Int} {x2 : Int} {x3 : Int} {x4 : Int} {h : vH} (s1 : shModel h) : vrun mX13_findsBox 0 [(1, 282), (0, x1), (0, x2), (0, x3), (0, x4), (9, 0), (9, 0), (9, 0), (9, 0), (9, 0)] [] h = vrun mX13_findsBox 8 [(1, 282), (0, x1), (0, x2), (0, x3), (0, x4), (0, 0), (9, 0), (9, 0), (9, 0), (9, 0)] [] (vup h 1562 282 0 0) := by
  refine (rn_aload_n (pc := 0) (dd bX13_findsBox dX13_findsBox_0) rfl).trans ?_
  refine (rn_iconst (pc := 1) (dd bX13_findsBox dX13_findsBox_1) (by decide)).trans ?_
  refine (rg_pf (pc := 2) (dd bX13_findsBox dX13_findsBox_2) (ci := 14) (j := 62) rfl (key := 1562) rfl (kc := 34) rfl s1.1 rfl (by intro z; cases z) (by decide)).trans ?_
  refine (rn_iconst (pc := 5) (dd bX13_findsBox dX13_findsBox_5) (by decide)).trans ?_
  refine (rn_istore (pc := 6) (dd bX13_findsBox dX13_findsBox_6) (Nat.le_of_ble_eq_true rfl) rfl).trans ?_
  rfl
theorem rX13_findsBox_8 {x1 : Int} {x2 : Int} {x3 : Int} {x4 : Int} {x5 : Int} {v6 : vv} {v7 : vv} {v8 : vv} {v9 : vv} {h : vH} (p1 : ¬ (x3 ≤ x5) → (-2147483648) ≤ x2 + x5) (p2 : ¬ (x3 ≤ x5) → x2 + x5 < 2147483648) (s3 : shModel h) : vrun mX13_findsBox 8 [(1, 282), (0, x1), (0, x2), (0, x3), (0, x4), (0, x5), v6, v7, v8, v9] [] h = if x3 ≤ x5 then some (.inl none, h) else vret vrun mX13_findsBox 20 [(1, 282), (0, x1), (0, x2), (0, x3), (0, x4), (0, x5), v6, v7, v8, v9] [] (vcl mX13_lineOf [(1, 282), (0, x1), (0, x2 + x5)] h) := by
  refine (rn_iload (pc := 8) (dd bX13_findsBox dX13_findsBox_8) rfl).trans ?_
  refine (rn_iload_n (pc := 10) (dd bX13_findsBox dX13_findsBox_10) rfl).trans ?_
  refine (rn_icmp_ge (t := 138) (pc := 11) (dd bX13_findsBox dX13_findsBox_11) rfl).trans (itec (fun c1 => ?_) (fun c1 => ?_))
  · exact rn_return (pc := 138) (dd bX13_findsBox dX13_findsBox_138) rfl
  · refine (rn_aload_n (pc := 14) (dd bX13_findsBox dX13_findsBox_14) rfl).trans ?_
    refine (rn_iload_n (pc := 15) (dd bX13_findsBox dX13_findsBox_15) rfl).trans ?_
    refine (rn_iload_n (pc := 16) (dd bX13_findsBox dX13_findsBox_16) rfl).trans ?_
    refine (rn_iload (pc := 17) (dd bX13_findsBox dX13_findsBox_17) rfl).trans ?_
    refine (rg_iadd (pc := 19) (dd bX13_findsBox dX13_findsBox_19) (p1 c1) (p2 c1)).trans ?_
    exact rg_virtual (pc := 20) (dd bX13_findsBox dX13_findsBox_20) rfl rfl (by decide) (kc := 34) rfl s3.1 (as := [(1, 282), (0, x1), (0, x2 + x5)]) rfl ⟨Nat.le_of_ble_eq_true rfl, Nat.le_of_ble_eq_true rfl, Nat.le_of_ble_eq_true rfl, Nat.le_of_ble_eq_true rfl⟩
theorem rX13_findsBox_23 {x1 : Int} {x2 : Int} {x3 : Int} {x4 : Int} {x5 : Int} {v6 : vv} {v7 : vv} {v8 : vv} {v9 : vv} {y0 : Int} {h : vH} (p1 : (-2147483648) ≤ x2 + x5) (p2 : x2 + x5 < 2147483648) (s3 : shModel h) : vrun mX13_findsBox 23 [(1, 282), (0, x1), (0, x2), (0, x3), (0, x4), (0, x5), v6, v7, v8, v9] [(0, y0)] h = vret vrun mX13_findsBox 33 [(1, 282), (0, x1), (0, x2), (0, x3), (0, x4), (0, x5), (0, y0), v7, v8, v9] [] (vcl mX13_goesUp [(1, 282), (0, x1), (0, x2 + x5), (0, x4)] h) := by
  refine (rn_istore (pc := 23) (dd bX13_findsBox dX13_findsBox_23) (Nat.le_of_ble_eq_true rfl) rfl).trans ?_
  refine (rn_aload_n (pc := 25) (dd bX13_findsBox dX13_findsBox_25) rfl).trans ?_
  refine (rn_iload_n (pc := 26) (dd bX13_findsBox dX13_findsBox_26) rfl).trans ?_
  refine (rn_iload_n (pc := 27) (dd bX13_findsBox dX13_findsBox_27) rfl).trans ?_
  refine (rn_iload (pc := 28) (dd bX13_findsBox dX13_findsBox_28) rfl).trans ?_
  refine (rg_iadd (pc := 30) (dd bX13_findsBox dX13_findsBox_30) p1 p2).trans ?_
  refine (rn_iload (pc := 31) (dd bX13_findsBox dX13_findsBox_31) rfl).trans ?_
  exact rg_virtual (pc := 33) (dd bX13_findsBox dX13_findsBox_33) rfl rfl (by decide) (kc := 34) rfl s3.1 (as := [(1, 282), (0, x1), (0, x2 + x5), (0, x4)]) rfl ⟨Nat.le_of_ble_eq_true rfl, Nat.le_of_ble_eq_true rfl, Nat.le_of_ble_eq_true rfl, Nat.le_of_ble_eq_true rfl⟩
theorem rX13_findsBox_36 {x1 : Int} {x2 : Int} {x3 : Int} {x4 : Int} {x5 : Int} {x6 : Int} {v7 : vv} {v8 : vv} {v9 : vv} {y0 : Int} {h : vH} : vrun mX13_findsBox 36 [(1, 282), (0, x1), (0, x2), (0, x3), (0, x4), (0, x5), (0, x6), v7, v8, v9] [(0, y0)] h = vrun mX13_findsBox 44 [(1, 282), (0, x1), (0, x2), (0, x3), (0, x4), (0, x5), (0, x6), (0, y0), (0, 1), (0, 0)] [] h := by
  refine (rn_istore (pc := 36) (dd bX13_findsBox dX13_findsBox_36) (Nat.le_of_ble_eq_true rfl) rfl).trans ?_
  refine (rn_iconst (pc := 38) (dd bX13_findsBox dX13_findsBox_38) (by decide)).trans ?_
  refine (rn_istore (pc := 39) (dd bX13_findsBox dX13_findsBox_39) (Nat.le_of_ble_eq_true rfl) rfl).trans ?_
  refine (rn_iconst (pc := 41) (dd bX13_findsBox dX13_findsBox_41) (by decide)).trans ?_
  refine (rn_istore (pc := 42) (dd bX13_findsBox dX13_findsBox_42) (Nat.le_of_ble_eq_true rfl) rfl).trans ?_
  rfl
theorem rX13_findsBox_44 {x1 : Int} {x2 : Int} {x3 : Int} {x4 : Int} {x5 : Int} {x6 : Int} {x7 : Int} {x8 : Int} {x9 : Int} {h : vH} (s1 : shModel h) (p2 : h 1562 282 0 ≤ x9 → ¬ (x8 = 0) → 0 ≤ h 1562 282 0) (p3 : h 1562 282 0 ≤ x9 → ¬ (x8 = 0) → h 1562 282 0 < 10) (p4 : h 1562 282 0 ≤ x9 → (-2147483648) ≤ x5 + 1) (p5 : h 1562 282 0 ≤ x9 → x5 + 1 < 2147483648) (p6 : ¬ (h 1562 282 0 ≤ x9) → ¬ (x8 = 0) → 0 ≤ x9) (p7 : ¬ (h 1562 282 0 ≤ x9) → ¬ (x8 = 0) → x9 < 10) (p8 : ¬ (h 1562 282 0 ≤ x9) → (-2147483648) ≤ x9 + 1) (p9 : ¬ (h 1562 282 0 ≤ x9) → x9 + 1 < 2147483648) : vrun mX13_findsBox 44 [(1, 282), (0, x1), (0, x2), (0, x3), (0, x4), (0, x5), (0, x6), (0, x7), (0, x8), (0, x9)] [] h = if h 1562 282 0 ≤ x9 then vrun mX13_findsBox 8 [(1, 282), (0, x1), (0, x2), (0, x3), (0, x4), (0, x5 + 1), (0, x6), (0, x7), (0, x8), (0, x9)] [] (if x8 = 0 then h else vup (vup (vup h 2 336 (h 1562 282 0) x6) 2 337 (h 1562 282 0) x7) 1562 282 0 (h 1562 282 0 + 1)) else vrun mX13_findsBox 44 [(1, 282), (0, x1), (0, x2), (0, x3), (0, x4), (0, x5), (0, x6), (0, x7), (0, (if ¬ (x8 = 0) ∧ (¬ (h 2 336 x9 = x6) ∨ ¬ (h 2 337 x9 = x7)) then 1 else 0)), (0, x9 + 1)] [] h := by
  refine (rn_iload (pc := 44) (dd bX13_findsBox dX13_findsBox_44) rfl).trans ?_
  refine (rn_aload_n (pc := 46) (dd bX13_findsBox dX13_findsBox_46) rfl).trans ?_
  refine (rg_gf (pc := 47) (dd bX13_findsBox dX13_findsBox_47) (ci := 14) (j := 62) rfl rfl (key := 1562) rfl (kc := 34) rfl s1.1 rfl).trans ?_
  refine (rn_icmp_ge (t := 95) (pc := 50) (dd bX13_findsBox dX13_findsBox_50) rfl).trans (itec (fun c1 => ?_) (fun c1 => ?_))
  · refine (rn_iload (pc := 95) (dd bX13_findsBox dX13_findsBox_95) rfl).trans ?_
    have e1 : vrun mX13_findsBox 97 [(1, 282), (0, x1), (0, x2), (0, x3), (0, x4), (0, x5), (0, x6), (0, x7), (0, x8), (0, x9)] [(0, x8)] h = vrun mX13_findsBox 132 [(1, 282), (0, x1), (0, x2), (0, x3), (0, x4), (0, x5), (0, x6), (0, x7), (0, x8), (0, x9)] [] (if x8 = 0 then h else vup (vup (vup h 2 336 (h 1562 282 0) x6) 2 337 (h 1562 282 0) x7) 1562 282 0 (h 1562 282 0 + 1)) := by
      refine (rn_if_eq (t := 132) (pc := 97) (dd bX13_findsBox dX13_findsBox_97) rfl).trans ?_
      by_cases c2 : x8 = 0
      · refine (if_pos c2).trans ?_
        refine Eq.trans (b := vrun mX13_findsBox 132 [(1, 282), (0, x1), (0, x2), (0, x3), (0, x4), (0, x5), (0, x6), (0, x7), (0, x8), (0, x9)] [] h) rfl ?_
        simp only [if_pos c2]
      · refine (if_neg c2).trans ?_
        refine (rn_aload_n (pc := 100) (dd bX13_findsBox dX13_findsBox_100) rfl).trans ?_
        refine (rg_gf (pc := 101) (dd bX13_findsBox dX13_findsBox_101) (ci := 14) (j := 60) rfl rfl (key := 1560) rfl (kc := 34) rfl s1.1 s1.2.2.2.2.2.2.2.2.2.2.2.2.2.2.2.2.2.2.2.2.2.2.2.2.2.2.2.2.2.2.2.2.2.2.2.2.2.2.2.2.2.2.2.2.2.2.2.2.2.2.2.2.2.2.2.2.2.2.2.2.2.2.2.2.2.2.2.2.2.2.2.2.2.2.2.2.2.2.2.2.2.2.2.2.2.2.2.2.2.2.2.2.2.2.2.2.2.2.2.2.2.2.2.2.2.2.2.2.2.2.2.2.2.2.2.2.2.2.2.2.2.2.2.2.2.2.2.2.2.2.2.2.2.2.2.2.2.2.2.2.2.2.2.2.2.2.2.2.2.2.2.2.2.2.2.2.2.2.2.2.1).trans ?_
        refine (rn_aload_n (pc := 104) (dd bX13_findsBox dX13_findsBox_104) rfl).trans ?_
        refine (rg_gf (pc := 105) (dd bX13_findsBox dX13_findsBox_105) (ci := 14) (j := 62) rfl rfl (key := 1562) rfl (kc := 34) rfl s1.1 rfl).trans ?_
        refine (rn_iload (pc := 108) (dd bX13_findsBox dX13_findsBox_108) rfl).trans ?_
        refine (rg_iastore (pc := 110) (dd bX13_findsBox dX13_findsBox_110) s1.2.2.2.2.2.2.2.2.2.2.2.2.2.2.2.2.2.2.2.2.2.2.2.2.2.2.2.2.2.2.2.2.2.2.2.2.2.2.2.2.2.2.2.2.2.2.2.2.2.2.2.2.2.2.2.2.2.2.2.2.2.2.2.2.2.2.2.2.2.2.2.2.2.2.2.2.2.2.2.2.2.2.2.2.2.2.2.2.2.2.2.2.2.2.2.2.2.2.2.2.2.2.2.2.2.2.2.2.2.2.2.2.2.2.2.2.2.2.2.2.2.2.2.2.2.2.2.2.2.2.2.2.2.2.2.2.2.2.2.2.2.2.2.2.2.2.2.2.2.2.2.2.2.2.2.2.2.2.2.2.2.1 s1.2.2.2.2.2.2.2.2.2.2.2.2.2.2.2.2.2.2.2.2.2.2.2.2.2.2.2.2.2.2.2.2.2.2.2.2.2.2.2.2.2.2.2.2.2.2.2.2.2.2.2.2.2.2.2.2.2.2.2.2.2.2.2.2.2.2.2.2.2.2.2.2.2.2.2.2.2.2.2.2.2.2.2.2.2.2.2.2.2.2.2.2.2.2.2.2.2.2.2.2.2.2.2.2.2.2.2.2.2.2.2.2.2.2.2.2.2.2.2.2.2.2.2.2.2.2.2.2.2.2.2.2.2.2.2.2.2.2.2.2.2.2.2.2.2.2.2.2.2.2.2.2.2.2.2.2.2.2.2.2.2.2.1 (p2 c1 c2) (p3 c1 c2)).trans ?_
        refine (rn_aload_n (pc := 111) (dd bX13_findsBox dX13_findsBox_111) rfl).trans ?_
        refine (rg_gf (pc := 112) (dd bX13_findsBox dX13_findsBox_112) (ci := 14) (j := 61) rfl rfl (key := 1561) rfl (kc := 34) rfl ((vup_k (by decide)).trans s1.1) ((vup_k (by decide)).trans s1.2.2.2.2.2.2.2.2.2.2.2.2.2.2.2.2.2.2.2.2.2.2.2.2.2.2.2.2.2.2.2.2.2.2.2.2.2.2.2.2.2.2.2.2.2.2.2.2.2.2.2.2.2.2.2.2.2.2.2.2.2.2.2.2.2.2.2.2.2.2.2.2.2.2.2.2.2.2.2.2.2.2.2.2.2.2.2.2.2.2.2.2.2.2.2.2.2.2.2.2.2.2.2.2.2.2.2.2.2.2.2.2.2.2.2.2.2.2.2.2.2.2.2.2.2.2.2.2.2.2.2.2.2.2.2.2.2.2.2.2.2.2.2.2.2.2.2.2.2.2.2.2.2.2.2.2.2.2.2.2.2.2.2.1)).trans ?_
        refine (rn_aload_n (pc := 115) (dd bX13_findsBox dX13_findsBox_115) rfl).trans ?_
        refine (rg_gf (pc := 116) (dd bX13_findsBox dX13_findsBox_116) (ci := 14) (j := 62) rfl rfl (key := 1562) rfl (kc := 34) rfl ((vup_k (by decide)).trans s1.1) ((vup_k (by decide)).trans rfl)).trans ?_
        refine (rn_iload (pc := 119) (dd bX13_findsBox dX13_findsBox_119) rfl).trans ?_
        refine (rg_iastore (pc := 121) (dd bX13_findsBox dX13_findsBox_121) ((vup_k (by decide)).trans s1.2.2.2.2.2.2.2.2.2.2.2.2.2.2.2.2.2.2.2.2.2.2.2.2.2.2.2.2.2.2.2.2.2.2.2.2.2.2.2.2.2.2.2.2.2.2.2.2.2.2.2.2.2.2.2.2.2.2.2.2.2.2.2.2.2.2.2.2.2.2.2.2.2.2.2.2.2.2.2.2.2.2.2.2.2.2.2.2.2.2.2.2.2.2.2.2.2.2.2.2.2.2.2.2.2.2.2.2.2.2.2.2.2.2.2.2.2.2.2.2.2.2.2.2.2.2.2.2.2.2.2.2.2.2.2.2.2.2.2.2.2.2.2.2.2.2.2.2.2.2.2.2.2.2.2.2.2.2.2.2.2.2.2.2.1) ((vup_k (by decide)).trans s1.2.2.2.2.2.2.2.2.2.2.2.2.2.2.2.2.2.2.2.2.2.2.2.2.2.2.2.2.2.2.2.2.2.2.2.2.2.2.2.2.2.2.2.2.2.2.2.2.2.2.2.2.2.2.2.2.2.2.2.2.2.2.2.2.2.2.2.2.2.2.2.2.2.2.2.2.2.2.2.2.2.2.2.2.2.2.2.2.2.2.2.2.2.2.2.2.2.2.2.2.2.2.2.2.2.2.2.2.2.2.2.2.2.2.2.2.2.2.2.2.2.2.2.2.2.2.2.2.2.2.2.2.2.2.2.2.2.2.2.2.2.2.2.2.2.2.2.2.2.2.2.2.2.2.2.2.2.2.2.2.2.2.2.2.2) (by have z0 := p2 c1 c2; have z1 := p3 c1 c2; omega) (by have z0 := p2 c1 c2; have z1 := p3 c1 c2; omega)).trans ?_
        refine (rn_aload_n (pc := 122) (dd bX13_findsBox dX13_findsBox_122) rfl).trans ?_
        refine (rn_dup (pc := 123) (dd bX13_findsBox dX13_findsBox_123) (by decide)).trans ?_
        refine (rg_gf (pc := 124) (dd bX13_findsBox dX13_findsBox_124) (ci := 14) (j := 62) rfl rfl (key := 1562) rfl (kc := 34) rfl ((vup_k (by decide)).trans ((vup_k (by decide)).trans s1.1)) ((vup_k (by decide)).trans ((vup_k (by decide)).trans rfl))).trans ?_
        refine (rn_iconst (pc := 127) (dd bX13_findsBox dX13_findsBox_127) (by decide)).trans ?_
        refine (rg_iadd (pc := 128) (dd bX13_findsBox dX13_findsBox_128) (by have z0 := p2 c1 c2; have z1 := p3 c1 c2; omega) (by have z0 := p2 c1 c2; have z1 := p3 c1 c2; omega)).trans ?_
        refine (rg_pf (pc := 129) (dd bX13_findsBox dX13_findsBox_129) (ci := 14) (j := 62) rfl (key := 1562) rfl (kc := 34) rfl ((vup_k (by decide)).trans ((vup_k (by decide)).trans s1.1)) rfl (by intro z; cases z) (by decide)).trans ?_
        refine Eq.trans (b := vrun mX13_findsBox 132 [(1, 282), (0, x1), (0, x2), (0, x3), (0, x4), (0, x5), (0, x6), (0, x7), (0, x8), (0, x9)] [] (vup (vup (vup h 2 336 (h 1562 282 0) x6) 2 337 (h 1562 282 0) x7) 1562 282 0 (h 1562 282 0 + 1))) rfl ?_
        simp only [if_neg c2]
    refine e1.trans ?_
    refine (rg_iinc (pc := 132) (dd bX13_findsBox dX13_findsBox_132) rfl (Nat.le_of_ble_eq_true rfl) (p4 c1) (p5 c1) rfl).trans ?_
    refine (rn_goto (t := 8) (pc := 135) (dd bX13_findsBox dX13_findsBox_135) rfl).trans ?_
    rfl
  · refine (rn_iload (pc := 53) (dd bX13_findsBox dX13_findsBox_53) rfl).trans ?_
    have e4 : vrun mX13_findsBox 55 [(1, 282), (0, x1), (0, x2), (0, x3), (0, x4), (0, x5), (0, x6), (0, x7), (0, x8), (0, x9)] [(0, x8)] h = vrun mX13_findsBox 87 [(1, 282), (0, x1), (0, x2), (0, x3), (0, x4), (0, x5), (0, x6), (0, x7), (0, x8), (0, x9)] [(0, (if ¬ (x8 = 0) ∧ (¬ (h 2 336 x9 = x6) ∨ ¬ (h 2 337 x9 = x7)) then 1 else 0))] h := by
      refine (rn_if_eq (t := 86) (pc := 55) (dd bX13_findsBox dX13_findsBox_55) rfl).trans ?_
      by_cases c3 : x8 = 0
      · refine (if_pos c3).trans ?_
        refine (rn_iconst (pc := 86) (dd bX13_findsBox dX13_findsBox_86) (by decide)).trans ?_
        refine Eq.trans (b := vrun mX13_findsBox 87 [(1, 282), (0, x1), (0, x2), (0, x3), (0, x4), (0, x5), (0, x6), (0, x7), (0, x8), (0, x9)] [(0, 0)] h) rfl ?_
        simp only [c3, true_or, false_or, or_true, or_false, true_and, false_and, and_true, and_false, not_true_eq_false, not_false_eq_true, ne_eq, if_true, if_false, ↓reduceIte]
      · refine (if_neg c3).trans ?_
        refine (rn_aload_n (pc := 58) (dd bX13_findsBox dX13_findsBox_58) rfl).trans ?_
        refine (rg_gf (pc := 59) (dd bX13_findsBox dX13_findsBox_59) (ci := 14) (j := 60) rfl rfl (key := 1560) rfl (kc := 34) rfl s1.1 s1.2.2.2.2.2.2.2.2.2.2.2.2.2.2.2.2.2.2.2.2.2.2.2.2.2.2.2.2.2.2.2.2.2.2.2.2.2.2.2.2.2.2.2.2.2.2.2.2.2.2.2.2.2.2.2.2.2.2.2.2.2.2.2.2.2.2.2.2.2.2.2.2.2.2.2.2.2.2.2.2.2.2.2.2.2.2.2.2.2.2.2.2.2.2.2.2.2.2.2.2.2.2.2.2.2.2.2.2.2.2.2.2.2.2.2.2.2.2.2.2.2.2.2.2.2.2.2.2.2.2.2.2.2.2.2.2.2.2.2.2.2.2.2.2.2.2.2.2.2.2.2.2.2.2.2.2.2.2.2.2.1).trans ?_
        refine (rn_iload (pc := 62) (dd bX13_findsBox dX13_findsBox_62) rfl).trans ?_
        refine (rg_iaload (pc := 64) (dd bX13_findsBox dX13_findsBox_64) s1.2.2.2.2.2.2.2.2.2.2.2.2.2.2.2.2.2.2.2.2.2.2.2.2.2.2.2.2.2.2.2.2.2.2.2.2.2.2.2.2.2.2.2.2.2.2.2.2.2.2.2.2.2.2.2.2.2.2.2.2.2.2.2.2.2.2.2.2.2.2.2.2.2.2.2.2.2.2.2.2.2.2.2.2.2.2.2.2.2.2.2.2.2.2.2.2.2.2.2.2.2.2.2.2.2.2.2.2.2.2.2.2.2.2.2.2.2.2.2.2.2.2.2.2.2.2.2.2.2.2.2.2.2.2.2.2.2.2.2.2.2.2.2.2.2.2.2.2.2.2.2.2.2.2.2.2.2.2.2.2.2.1 s1.2.2.2.2.2.2.2.2.2.2.2.2.2.2.2.2.2.2.2.2.2.2.2.2.2.2.2.2.2.2.2.2.2.2.2.2.2.2.2.2.2.2.2.2.2.2.2.2.2.2.2.2.2.2.2.2.2.2.2.2.2.2.2.2.2.2.2.2.2.2.2.2.2.2.2.2.2.2.2.2.2.2.2.2.2.2.2.2.2.2.2.2.2.2.2.2.2.2.2.2.2.2.2.2.2.2.2.2.2.2.2.2.2.2.2.2.2.2.2.2.2.2.2.2.2.2.2.2.2.2.2.2.2.2.2.2.2.2.2.2.2.2.2.2.2.2.2.2.2.2.2.2.2.2.2.2.2.2.2.2.2.2.1 (p6 c1 c3) (p7 c1 c3) rfl).trans ?_
        refine (rn_iload (pc := 65) (dd bX13_findsBox dX13_findsBox_65) rfl).trans ?_
        have e3 : vrun mX13_findsBox 67 [(1, 282), (0, x1), (0, x2), (0, x3), (0, x4), (0, x5), (0, x6), (0, x7), (0, x8), (0, x9)] [(0, x6), (0, h 2 336 x9)] h = vrun mX13_findsBox 87 [(1, 282), (0, x1), (0, x2), (0, x3), (0, x4), (0, x5), (0, x6), (0, x7), (0, x8), (0, x9)] [(0, (if ¬ (h 2 336 x9 = x6) ∨ ¬ (h 2 337 x9 = x7) then 1 else 0))] h := by
          refine (rg_icmp_ne (t := 82) (pc := 67) (dd bX13_findsBox dX13_findsBox_67) rfl).trans ?_
          by_cases c4 : h 2 336 x9 = x6
          · refine (if_pos c4).trans ?_
            refine (rn_aload_n (pc := 70) (dd bX13_findsBox dX13_findsBox_70) rfl).trans ?_
            refine (rg_gf (pc := 71) (dd bX13_findsBox dX13_findsBox_71) (ci := 14) (j := 61) rfl rfl (key := 1561) rfl (kc := 34) rfl s1.1 s1.2.2.2.2.2.2.2.2.2.2.2.2.2.2.2.2.2.2.2.2.2.2.2.2.2.2.2.2.2.2.2.2.2.2.2.2.2.2.2.2.2.2.2.2.2.2.2.2.2.2.2.2.2.2.2.2.2.2.2.2.2.2.2.2.2.2.2.2.2.2.2.2.2.2.2.2.2.2.2.2.2.2.2.2.2.2.2.2.2.2.2.2.2.2.2.2.2.2.2.2.2.2.2.2.2.2.2.2.2.2.2.2.2.2.2.2.2.2.2.2.2.2.2.2.2.2.2.2.2.2.2.2.2.2.2.2.2.2.2.2.2.2.2.2.2.2.2.2.2.2.2.2.2.2.2.2.2.2.2.2.2.2.2.1).trans ?_
            refine (rn_iload (pc := 74) (dd bX13_findsBox dX13_findsBox_74) rfl).trans ?_
            refine (rg_iaload (pc := 76) (dd bX13_findsBox dX13_findsBox_76) s1.2.2.2.2.2.2.2.2.2.2.2.2.2.2.2.2.2.2.2.2.2.2.2.2.2.2.2.2.2.2.2.2.2.2.2.2.2.2.2.2.2.2.2.2.2.2.2.2.2.2.2.2.2.2.2.2.2.2.2.2.2.2.2.2.2.2.2.2.2.2.2.2.2.2.2.2.2.2.2.2.2.2.2.2.2.2.2.2.2.2.2.2.2.2.2.2.2.2.2.2.2.2.2.2.2.2.2.2.2.2.2.2.2.2.2.2.2.2.2.2.2.2.2.2.2.2.2.2.2.2.2.2.2.2.2.2.2.2.2.2.2.2.2.2.2.2.2.2.2.2.2.2.2.2.2.2.2.2.2.2.2.2.2.2.1 s1.2.2.2.2.2.2.2.2.2.2.2.2.2.2.2.2.2.2.2.2.2.2.2.2.2.2.2.2.2.2.2.2.2.2.2.2.2.2.2.2.2.2.2.2.2.2.2.2.2.2.2.2.2.2.2.2.2.2.2.2.2.2.2.2.2.2.2.2.2.2.2.2.2.2.2.2.2.2.2.2.2.2.2.2.2.2.2.2.2.2.2.2.2.2.2.2.2.2.2.2.2.2.2.2.2.2.2.2.2.2.2.2.2.2.2.2.2.2.2.2.2.2.2.2.2.2.2.2.2.2.2.2.2.2.2.2.2.2.2.2.2.2.2.2.2.2.2.2.2.2.2.2.2.2.2.2.2.2.2.2.2.2.2.2.2 (by have z0 := p6 c1 c3; have z1 := p7 c1 c3; omega) (by have z0 := p6 c1 c3; have z1 := p7 c1 c3; omega) rfl).trans ?_
            refine (rn_iload (pc := 77) (dd bX13_findsBox dX13_findsBox_77) rfl).trans ?_
            have e2 : vrun mX13_findsBox 79 [(1, 282), (0, x1), (0, x2), (0, x3), (0, x4), (0, x5), (0, x6), (0, x7), (0, x8), (0, x9)] [(0, x7), (0, h 2 337 x9)] h = vrun mX13_findsBox 87 [(1, 282), (0, x1), (0, x2), (0, x3), (0, x4), (0, x5), (0, x6), (0, x7), (0, x8), (0, x9)] [(0, (if ¬ (h 2 337 x9 = x7) then 1 else 0))] h := by
              refine (rn_icmp_eq (t := 86) (pc := 79) (dd bX13_findsBox dX13_findsBox_79) rfl).trans ?_
              by_cases c5 : h 2 337 x9 = x7
              · refine (if_pos c5).trans ?_
                refine (rn_iconst (pc := 86) (dd bX13_findsBox dX13_findsBox_86) (by decide)).trans ?_
                refine Eq.trans (b := vrun mX13_findsBox 87 [(1, 282), (0, x1), (0, x2), (0, x3), (0, x4), (0, x5), (0, x6), (0, x7), (0, x8), (0, x9)] [(0, 0)] h) rfl ?_
                simp only [c5, true_or, false_or, or_true, or_false, true_and, false_and, and_true, and_false, not_true_eq_false, not_false_eq_true, ne_eq, if_true, if_false, ↓reduceIte]
              · refine (if_neg c5).trans ?_
                refine (rn_iconst (pc := 82) (dd bX13_findsBox dX13_findsBox_82) (by decide)).trans ?_
                refine (rn_goto (t := 87) (pc := 83) (dd bX13_findsBox dX13_findsBox_83) rfl).trans ?_
                refine Eq.trans (b := vrun mX13_findsBox 87 [(1, 282), (0, x1), (0, x2), (0, x3), (0, x4), (0, x5), (0, x6), (0, x7), (0, x8), (0, x9)] [(0, 1)] h) rfl ?_
                simp only [c5, true_or, false_or, or_true, or_false, true_and, false_and, and_true, and_false, not_true_eq_false, not_false_eq_true, ne_eq, if_true, if_false, ↓reduceIte]
            refine e2.trans ?_
            refine Eq.trans (b := vrun mX13_findsBox 87 [(1, 282), (0, x1), (0, x2), (0, x3), (0, x4), (0, x5), (0, x6), (0, x7), (0, x8), (0, x9)] [(0, (if ¬ (h 2 337 x9 = x7) then 1 else 0))] h) rfl ?_
            simp only [c4, true_or, false_or, or_true, or_false, true_and, false_and, and_true, and_false, not_true_eq_false, not_false_eq_true, ne_eq, if_true, if_false, ↓reduceIte]
          · refine (if_neg c4).trans ?_
            refine (rn_iconst (pc := 82) (dd bX13_findsBox dX13_findsBox_82) (by decide)).trans ?_
            refine (rn_goto (t := 87) (pc := 83) (dd bX13_findsBox dX13_findsBox_83) rfl).trans ?_
            refine Eq.trans (b := vrun mX13_findsBox 87 [(1, 282), (0, x1), (0, x2), (0, x3), (0, x4), (0, x5), (0, x6), (0, x7), (0, x8), (0, x9)] [(0, 1)] h) rfl ?_
            simp only [c4, true_or, false_or, or_true, or_false, true_and, false_and, and_true, and_false, not_true_eq_false, not_false_eq_true, ne_eq, if_true, if_false, ↓reduceIte]
        refine e3.trans ?_
        refine Eq.trans (b := vrun mX13_findsBox 87 [(1, 282), (0, x1), (0, x2), (0, x3), (0, x4), (0, x5), (0, x6), (0, x7), (0, x8), (0, x9)] [(0, (if ¬ (h 2 336 x9 = x6) ∨ ¬ (h 2 337 x9 = x7) then 1 else 0))] h) rfl ?_
        simp only [c3, true_or, false_or, or_true, or_false, true_and, false_and, and_true, and_false, not_true_eq_false, not_false_eq_true, ne_eq, if_true, if_false, ↓reduceIte]
    refine e4.trans ?_
    refine (rn_istore (pc := 87) (dd bX13_findsBox dX13_findsBox_87) (Nat.le_of_ble_eq_true rfl) rfl).trans ?_
    refine (rg_iinc (pc := 89) (dd bX13_findsBox dX13_findsBox_89) rfl (Nat.le_of_ble_eq_true rfl) (p8 c1) (p9 c1) rfl).trans ?_
    refine (rn_goto (t := 44) (pc := 92) (dd bX13_findsBox dX13_findsBox_92) rfl).trans ?_
    rfl
theorem bX13_hasBoxRoom : vmB mX13_hasBoxRoom = cX13_hasBoxRoom := rfl
theorem rX13_hasBoxRoom_0 {h : vH} : vrun mX13_hasBoxRoom 0 [(1, 282), (9, 0), (9, 0), (9, 0), (9, 0)] [] h = vrun mX13_hasBoxRoom 4 [(1, 282), (0, 1), (0, 0), (9, 0), (9, 0)] [] h := by
  refine (rn_iconst (pc := 0) (dd bX13_hasBoxRoom dX13_hasBoxRoom_0) (by decide)).trans ?_
  refine (rn_istore_n (pc := 1) (dd bX13_hasBoxRoom dX13_hasBoxRoom_1) (Nat.le_of_ble_eq_true rfl) rfl).trans ?_
  refine (rn_iconst (pc := 2) (dd bX13_hasBoxRoom dX13_hasBoxRoom_2) (by decide)).trans ?_
  refine (rn_istore_n (pc := 3) (dd bX13_hasBoxRoom dX13_hasBoxRoom_3) (Nat.le_of_ble_eq_true rfl) rfl).trans ?_
  rfl
theorem rX13_hasBoxRoom_4 {x1 : Int} {x2 : Int} {v3 : vv} {v4 : vv} {h : vH} (s1 : shModel h) (p2 : h 1562 282 0 ≤ x2 → x1 = 0 ∨ x1 = 1) (p3 : ¬ (h 1562 282 0 ≤ x2) → 0 ≤ x2) (p4 : ¬ (h 1562 282 0 ≤ x2) → x2 < 10) (p5 : ¬ (h 1562 282 0 ≤ x2) → 0 ≤ h 2 336 x2) (p6 : ¬ (h 1562 282 0 ≤ x2) → h 2 336 x2 < 60) : vrun mX13_hasBoxRoom 4 [(1, 282), (0, x1), (0, x2), v3, v4] [] h = if h 1562 282 0 ≤ x2 then some (.inl (some (0, x1)), h) else vrun mX13_hasBoxRoom 27 [(1, 282), (0, x1), (0, x2), (0, h 2 284 (h 2 336 x2)), (0, 0)] [] h := by
  refine (rn_iload_n (pc := 4) (dd bX13_hasBoxRoom dX13_hasBoxRoom_4) rfl).trans ?_
  refine (rn_aload_n (pc := 5) (dd bX13_hasBoxRoom dX13_hasBoxRoom_5) rfl).trans ?_
  refine (rg_gf (pc := 6) (dd bX13_hasBoxRoom dX13_hasBoxRoom_6) (ci := 14) (j := 62) rfl rfl (key := 1562) rfl (kc := 34) rfl s1.1 rfl).trans ?_
  refine (rn_icmp_ge (t := 88) (pc := 9) (dd bX13_hasBoxRoom dX13_hasBoxRoom_9) rfl).trans (itec (fun c1 => ?_) (fun c1 => ?_))
  · refine (rn_iload_n (pc := 88) (dd bX13_hasBoxRoom dX13_hasBoxRoom_88) rfl).trans ?_
    exact rn_ireturn (pc := 89) (dd bX13_hasBoxRoom dX13_hasBoxRoom_89) (Or.inr ⟨rfl, (p2 c1)⟩)
  · refine (rn_aload_n (pc := 12) (dd bX13_hasBoxRoom dX13_hasBoxRoom_12) rfl).trans ?_
    refine (rg_gf (pc := 13) (dd bX13_hasBoxRoom dX13_hasBoxRoom_13) (ci := 14) (j := 2) rfl rfl (key := 1502) rfl (kc := 34) rfl s1.1 s1.2.2.2.2.1).trans ?_
    refine (rn_aload_n (pc := 16) (dd bX13_hasBoxRoom dX13_hasBoxRoom_16) rfl).trans ?_
    refine (rg_gf (pc := 17) (dd bX13_hasBoxRoom dX13_hasBoxRoom_17) (ci := 14) (j := 60) rfl rfl (key := 1560) rfl (kc := 34) rfl s1.1 s1.2.2.2.2.2.2.2.2.2.2.2.2.2.2.2.2.2.2.2.2.2.2.2.2.2.2.2.2.2.2.2.2.2.2.2.2.2.2.2.2.2.2.2.2.2.2.2.2.2.2.2.2.2.2.2.2.2.2.2.2.2.2.2.2.2.2.2.2.2.2.2.2.2.2.2.2.2.2.2.2.2.2.2.2.2.2.2.2.2.2.2.2.2.2.2.2.2.2.2.2.2.2.2.2.2.2.2.2.2.2.2.2.2.2.2.2.2.2.2.2.2.2.2.2.2.2.2.2.2.2.2.2.2.2.2.2.2.2.2.2.2.2.2.2.2.2.2.2.2.2.2.2.2.2.2.2.2.2.2.2.1).trans ?_
    refine (rn_iload_n (pc := 20) (dd bX13_hasBoxRoom dX13_hasBoxRoom_20) rfl).trans ?_
    refine (rg_iaload (pc := 21) (dd bX13_hasBoxRoom dX13_hasBoxRoom_21) s1.2.2.2.2.2.2.2.2.2.2.2.2.2.2.2.2.2.2.2.2.2.2.2.2.2.2.2.2.2.2.2.2.2.2.2.2.2.2.2.2.2.2.2.2.2.2.2.2.2.2.2.2.2.2.2.2.2.2.2.2.2.2.2.2.2.2.2.2.2.2.2.2.2.2.2.2.2.2.2.2.2.2.2.2.2.2.2.2.2.2.2.2.2.2.2.2.2.2.2.2.2.2.2.2.2.2.2.2.2.2.2.2.2.2.2.2.2.2.2.2.2.2.2.2.2.2.2.2.2.2.2.2.2.2.2.2.2.2.2.2.2.2.2.2.2.2.2.2.2.2.2.2.2.2.2.2.2.2.2.2.2.1 s1.2.2.2.2.2.2.2.2.2.2.2.2.2.2.2.2.2.2.2.2.2.2.2.2.2.2.2.2.2.2.2.2.2.2.2.2.2.2.2.2.2.2.2.2.2.2.2.2.2.2.2.2.2.2.2.2.2.2.2.2.2.2.2.2.2.2.2.2.2.2.2.2.2.2.2.2.2.2.2.2.2.2.2.2.2.2.2.2.2.2.2.2.2.2.2.2.2.2.2.2.2.2.2.2.2.2.2.2.2.2.2.2.2.2.2.2.2.2.2.2.2.2.2.2.2.2.2.2.2.2.2.2.2.2.2.2.2.2.2.2.2.2.2.2.2.2.2.2.2.2.2.2.2.2.2.2.2.2.2.2.2.2.1 (p3 c1) (p4 c1) rfl).trans ?_
    refine (rg_iaload (pc := 22) (dd bX13_hasBoxRoom dX13_hasBoxRoom_22) s1.2.2.2.2.2.1 s1.2.2.2.2.2.2.1 (p5 c1) (p6 c1) rfl).trans ?_
    refine (rn_istore_n (pc := 23) (dd bX13_hasBoxRoom dX13_hasBoxRoom_23) (Nat.le_of_ble_eq_true rfl) rfl).trans ?_
    refine (rn_iconst (pc := 24) (dd bX13_hasBoxRoom dX13_hasBoxRoom_24) (by decide)).trans ?_
    refine (rn_istore (pc := 25) (dd bX13_hasBoxRoom dX13_hasBoxRoom_25) (Nat.le_of_ble_eq_true rfl) rfl).trans ?_
    rfl
theorem rX13_hasBoxRoom_27 {x1 : Int} {x2 : Int} {x3 : Int} {x4 : Int} {h : vH} (s1 : shModel h) (p2 : h 1562 282 0 ≤ x4 → (-2147483648) ≤ x2 + 1) (p3 : h 1562 282 0 ≤ x4 → x2 + 1 < 2147483648) (p4 : ¬ (h 1562 282 0 ≤ x4) → 0 ≤ x4) (p5 : ¬ (h 1562 282 0 ≤ x4) → x4 < 10) (p6 : ¬ (h 1562 282 0 ≤ x4) → 0 ≤ x2) (p7 : ¬ (h 1562 282 0 ≤ x4) → x2 < 10) (p8 : ¬ (h 1562 282 0 ≤ x4) → (-2147483648) ≤ x3 + (if h 2 336 x4 = h 2 336 x2 then 1 else 0)) (p9 : ¬ (h 1562 282 0 ≤ x4) → x3 + (if h 2 336 x4 = h 2 336 x2 then 1 else 0) < 2147483648) : vrun mX13_hasBoxRoom 27 [(1, 282), (0, x1), (0, x2), (0, x3), (0, x4)] [] h = if h 1562 282 0 ≤ x4 then vrun mX13_hasBoxRoom 4 [(1, 282), (0, (if ¬ (x1 = 0) ∧ ¬ (80 < x3) then 1 else 0)), (0, x2 + 1), (0, x3), (0, x4)] [] h else vrun mX13_hasBoxRoom 27 [(1, 282), (0, x1), (0, x2), (0, x3 + (if h 2 336 x4 = h 2 336 x2 then 1 else 0)), (0, x4 + 1)] [] h := by
  refine (rn_iload (pc := 27) (dd bX13_hasBoxRoom dX13_hasBoxRoom_27) rfl).trans ?_
  refine (rn_aload_n (pc := 29) (dd bX13_hasBoxRoom dX13_hasBoxRoom_29) rfl).trans ?_
  refine (rg_gf (pc := 30) (dd bX13_hasBoxRoom dX13_hasBoxRoom_30) (ci := 14) (j := 62) rfl rfl (key := 1562) rfl (kc := 34) rfl s1.1 rfl).trans ?_
  refine (rn_icmp_ge (t := 66) (pc := 33) (dd bX13_hasBoxRoom dX13_hasBoxRoom_33) rfl).trans (itec (fun c1 => ?_) (fun c1 => ?_))
  · refine (rn_iload_n (pc := 66) (dd bX13_hasBoxRoom dX13_hasBoxRoom_66) rfl).trans ?_
    have e2 : vrun mX13_hasBoxRoom 67 [(1, 282), (0, x1), (0, x2), (0, x3), (0, x4)] [(0, x1)] h = vrun mX13_hasBoxRoom 81 [(1, 282), (0, x1), (0, x2), (0, x3), (0, x4)] [(0, (if ¬ (x1 = 0) ∧ ¬ (80 < x3) then 1 else 0))] h := by
      refine (rn_if_eq (t := 80) (pc := 67) (dd bX13_hasBoxRoom dX13_hasBoxRoom_67) rfl).trans ?_
      by_cases c2 : x1 = 0
      · refine (if_pos c2).trans ?_
        refine (rn_iconst (pc := 80) (dd bX13_hasBoxRoom dX13_hasBoxRoom_80) (by decide)).trans ?_
        refine Eq.trans (b := vrun mX13_hasBoxRoom 81 [(1, 282), (0, x1), (0, x2), (0, x3), (0, x4)] [(0, 0)] h) rfl ?_
        simp only [c2, true_or, false_or, or_true, or_false, true_and, false_and, and_true, and_false, not_true_eq_false, not_false_eq_true, ne_eq, if_true, if_false, ↓reduceIte]
      · refine (if_neg c2).trans ?_
        refine (rn_iload_n (pc := 70) (dd bX13_hasBoxRoom dX13_hasBoxRoom_70) rfl).trans ?_
        refine (rn_bipush (pc := 71) (dd bX13_hasBoxRoom dX13_hasBoxRoom_71) (by decide)).trans ?_
        have e1 : vrun mX13_hasBoxRoom 73 [(1, 282), (0, x1), (0, x2), (0, x3), (0, x4)] [(0, 80), (0, x3)] h = vrun mX13_hasBoxRoom 81 [(1, 282), (0, x1), (0, x2), (0, x3), (0, x4)] [(0, (if ¬ (80 < x3) then 1 else 0))] h := by
          refine (rn_icmp_gt (t := 80) (pc := 73) (dd bX13_hasBoxRoom dX13_hasBoxRoom_73) rfl).trans ?_
          by_cases c3 : 80 < x3
          · refine (if_pos c3).trans ?_
            refine (rn_iconst (pc := 80) (dd bX13_hasBoxRoom dX13_hasBoxRoom_80) (by decide)).trans ?_
            refine Eq.trans (b := vrun mX13_hasBoxRoom 81 [(1, 282), (0, x1), (0, x2), (0, x3), (0, x4)] [(0, 0)] h) rfl ?_
            simp only [c3, true_or, false_or, or_true, or_false, true_and, false_and, and_true, and_false, not_true_eq_false, not_false_eq_true, ne_eq, if_true, if_false, ↓reduceIte]
          · refine (if_neg c3).trans ?_
            refine (rn_iconst (pc := 76) (dd bX13_hasBoxRoom dX13_hasBoxRoom_76) (by decide)).trans ?_
            refine (rn_goto (t := 81) (pc := 77) (dd bX13_hasBoxRoom dX13_hasBoxRoom_77) rfl).trans ?_
            refine Eq.trans (b := vrun mX13_hasBoxRoom 81 [(1, 282), (0, x1), (0, x2), (0, x3), (0, x4)] [(0, 1)] h) rfl ?_
            simp only [c3, true_or, false_or, or_true, or_false, true_and, false_and, and_true, and_false, not_true_eq_false, not_false_eq_true, ne_eq, if_true, if_false, ↓reduceIte]
        refine e1.trans ?_
        refine Eq.trans (b := vrun mX13_hasBoxRoom 81 [(1, 282), (0, x1), (0, x2), (0, x3), (0, x4)] [(0, (if ¬ (80 < x3) then 1 else 0))] h) rfl ?_
        simp only [c2, true_or, false_or, or_true, or_false, true_and, false_and, and_true, and_false, not_true_eq_false, not_false_eq_true, ne_eq, if_true, if_false, ↓reduceIte]
    refine e2.trans ?_
    refine (rn_istore_n (pc := 81) (dd bX13_hasBoxRoom dX13_hasBoxRoom_81) (Nat.le_of_ble_eq_true rfl) rfl).trans ?_
    refine (rg_iinc (pc := 82) (dd bX13_hasBoxRoom dX13_hasBoxRoom_82) rfl (Nat.le_of_ble_eq_true rfl) (p2 c1) (p3 c1) rfl).trans ?_
    refine (rn_goto (t := 4) (pc := 85) (dd bX13_hasBoxRoom dX13_hasBoxRoom_85) rfl).trans ?_
    rfl
  · refine (rn_iload_n (pc := 36) (dd bX13_hasBoxRoom dX13_hasBoxRoom_36) rfl).trans ?_
    refine (rn_aload_n (pc := 37) (dd bX13_hasBoxRoom dX13_hasBoxRoom_37) rfl).trans ?_
    refine (rg_gf (pc := 38) (dd bX13_hasBoxRoom dX13_hasBoxRoom_38) (ci := 14) (j := 60) rfl rfl (key := 1560) rfl (kc := 34) rfl s1.1 s1.2.2.2.2.2.2.2.2.2.2.2.2.2.2.2.2.2.2.2.2.2.2.2.2.2.2.2.2.2.2.2.2.2.2.2.2.2.2.2.2.2.2.2.2.2.2.2.2.2.2.2.2.2.2.2.2.2.2.2.2.2.2.2.2.2.2.2.2.2.2.2.2.2.2.2.2.2.2.2.2.2.2.2.2.2.2.2.2.2.2.2.2.2.2.2.2.2.2.2.2.2.2.2.2.2.2.2.2.2.2.2.2.2.2.2.2.2.2.2.2.2.2.2.2.2.2.2.2.2.2.2.2.2.2.2.2.2.2.2.2.2.2.2.2.2.2.2.2.2.2.2.2.2.2.2.2.2.2.2.2.1).trans ?_
    refine (rn_iload (pc := 41) (dd bX13_hasBoxRoom dX13_hasBoxRoom_41) rfl).trans ?_
    refine (rg_iaload (pc := 43) (dd bX13_hasBoxRoom dX13_hasBoxRoom_43) s1.2.2.2.2.2.2.2.2.2.2.2.2.2.2.2.2.2.2.2.2.2.2.2.2.2.2.2.2.2.2.2.2.2.2.2.2.2.2.2.2.2.2.2.2.2.2.2.2.2.2.2.2.2.2.2.2.2.2.2.2.2.2.2.2.2.2.2.2.2.2.2.2.2.2.2.2.2.2.2.2.2.2.2.2.2.2.2.2.2.2.2.2.2.2.2.2.2.2.2.2.2.2.2.2.2.2.2.2.2.2.2.2.2.2.2.2.2.2.2.2.2.2.2.2.2.2.2.2.2.2.2.2.2.2.2.2.2.2.2.2.2.2.2.2.2.2.2.2.2.2.2.2.2.2.2.2.2.2.2.2.2.1 s1.2.2.2.2.2.2.2.2.2.2.2.2.2.2.2.2.2.2.2.2.2.2.2.2.2.2.2.2.2.2.2.2.2.2.2.2.2.2.2.2.2.2.2.2.2.2.2.2.2.2.2.2.2.2.2.2.2.2.2.2.2.2.2.2.2.2.2.2.2.2.2.2.2.2.2.2.2.2.2.2.2.2.2.2.2.2.2.2.2.2.2.2.2.2.2.2.2.2.2.2.2.2.2.2.2.2.2.2.2.2.2.2.2.2.2.2.2.2.2.2.2.2.2.2.2.2.2.2.2.2.2.2.2.2.2.2.2.2.2.2.2.2.2.2.2.2.2.2.2.2.2.2.2.2.2.2.2.2.2.2.2.2.1 (p4 c1) (p5 c1) rfl).trans ?_
    refine (rn_aload_n (pc := 44) (dd bX13_hasBoxRoom dX13_hasBoxRoom_44) rfl).trans ?_
    refine (rg_gf (pc := 45) (dd bX13_hasBoxRoom dX13_hasBoxRoom_45) (ci := 14) (j := 60) rfl rfl (key := 1560) rfl (kc := 34) rfl s1.1 s1.2.2.2.2.2.2.2.2.2.2.2.2.2.2.2.2.2.2.2.2.2.2.2.2.2.2.2.2.2.2.2.2.2.2.2.2.2.2.2.2.2.2.2.2.2.2.2.2.2.2.2.2.2.2.2.2.2.2.2.2.2.2.2.2.2.2.2.2.2.2.2.2.2.2.2.2.2.2.2.2.2.2.2.2.2.2.2.2.2.2.2.2.2.2.2.2.2.2.2.2.2.2.2.2.2.2.2.2.2.2.2.2.2.2.2.2.2.2.2.2.2.2.2.2.2.2.2.2.2.2.2.2.2.2.2.2.2.2.2.2.2.2.2.2.2.2.2.2.2.2.2.2.2.2.2.2.2.2.2.2.1).trans ?_
    refine (rn_iload_n (pc := 48) (dd bX13_hasBoxRoom dX13_hasBoxRoom_48) rfl).trans ?_
    refine (rg_iaload (pc := 49) (dd bX13_hasBoxRoom dX13_hasBoxRoom_49) s1.2.2.2.2.2.2.2.2.2.2.2.2.2.2.2.2.2.2.2.2.2.2.2.2.2.2.2.2.2.2.2.2.2.2.2.2.2.2.2.2.2.2.2.2.2.2.2.2.2.2.2.2.2.2.2.2.2.2.2.2.2.2.2.2.2.2.2.2.2.2.2.2.2.2.2.2.2.2.2.2.2.2.2.2.2.2.2.2.2.2.2.2.2.2.2.2.2.2.2.2.2.2.2.2.2.2.2.2.2.2.2.2.2.2.2.2.2.2.2.2.2.2.2.2.2.2.2.2.2.2.2.2.2.2.2.2.2.2.2.2.2.2.2.2.2.2.2.2.2.2.2.2.2.2.2.2.2.2.2.2.2.1 s1.2.2.2.2.2.2.2.2.2.2.2.2.2.2.2.2.2.2.2.2.2.2.2.2.2.2.2.2.2.2.2.2.2.2.2.2.2.2.2.2.2.2.2.2.2.2.2.2.2.2.2.2.2.2.2.2.2.2.2.2.2.2.2.2.2.2.2.2.2.2.2.2.2.2.2.2.2.2.2.2.2.2.2.2.2.2.2.2.2.2.2.2.2.2.2.2.2.2.2.2.2.2.2.2.2.2.2.2.2.2.2.2.2.2.2.2.2.2.2.2.2.2.2.2.2.2.2.2.2.2.2.2.2.2.2.2.2.2.2.2.2.2.2.2.2.2.2.2.2.2.2.2.2.2.2.2.2.2.2.2.2.2.1 (p6 c1) (p7 c1) rfl).trans ?_
    have e3 : vrun mX13_hasBoxRoom 50 [(1, 282), (0, x1), (0, x2), (0, x3), (0, x4)] [(0, h 2 336 x2), (0, h 2 336 x4), (0, x3)] h = vrun mX13_hasBoxRoom 58 [(1, 282), (0, x1), (0, x2), (0, x3), (0, x4)] [(0, (if h 2 336 x4 = h 2 336 x2 then 1 else 0)), (0, x3)] h := by
      refine (rg_icmp_ne (t := 57) (pc := 50) (dd bX13_hasBoxRoom dX13_hasBoxRoom_50) rfl).trans ?_
      by_cases c4 : h 2 336 x4 = h 2 336 x2
      · refine (if_pos c4).trans ?_
        refine (rn_iconst (pc := 53) (dd bX13_hasBoxRoom dX13_hasBoxRoom_53) (by decide)).trans ?_
        refine (rn_goto (t := 58) (pc := 54) (dd bX13_hasBoxRoom dX13_hasBoxRoom_54) rfl).trans ?_
        refine Eq.trans (b := vrun mX13_hasBoxRoom 58 [(1, 282), (0, x1), (0, x2), (0, x3), (0, x4)] [(0, 1), (0, x3)] h) rfl ?_
        simp only [c4, true_or, false_or, or_true, or_false, true_and, false_and, and_true, and_false, not_true_eq_false, not_false_eq_true, ne_eq, if_true, if_false, ↓reduceIte]
      · refine (if_neg c4).trans ?_
        refine (rn_iconst (pc := 57) (dd bX13_hasBoxRoom dX13_hasBoxRoom_57) (by decide)).trans ?_
        refine Eq.trans (b := vrun mX13_hasBoxRoom 58 [(1, 282), (0, x1), (0, x2), (0, x3), (0, x4)] [(0, 0), (0, x3)] h) rfl ?_
        simp only [c4, true_or, false_or, or_true, or_false, true_and, false_and, and_true, and_false, not_true_eq_false, not_false_eq_true, ne_eq, if_true, if_false, ↓reduceIte]
    refine e3.trans ?_
    refine (rg_iadd (pc := 58) (dd bX13_hasBoxRoom dX13_hasBoxRoom_58) (p8 c1) (p9 c1)).trans ?_
    refine (rn_istore_n (pc := 59) (dd bX13_hasBoxRoom dX13_hasBoxRoom_59) (Nat.le_of_ble_eq_true rfl) rfl).trans ?_
    refine (rg_iinc (pc := 60) (dd bX13_hasBoxRoom dX13_hasBoxRoom_60) rfl (Nat.le_of_ble_eq_true rfl) (by have z0 := p4 c1; have z1 := p5 c1; omega) (by have z0 := p4 c1; have z1 := p5 c1; omega) rfl).trans ?_
    refine (rn_goto (t := 27) (pc := 63) (dd bX13_hasBoxRoom dX13_hasBoxRoom_63) rfl).trans ?_
    rfl
theorem bX13_typesBox : vmB mX13_typesBox = cX13_typesBox := rfl
theorem rX13_typesBox_0 {x1 : Int} {h : vH} : vrun mX13_typesBox 0 [(1, 282), (0, x1), (9, 0), (9, 0), (9, 0)] [] h = vrun mX13_typesBox 2 [(1, 282), (0, x1), (0, 0), (9, 0), (9, 0)] [] h := by
  refine (rn_iconst (pc := 0) (dd bX13_typesBox dX13_typesBox_0) (by decide)).trans ?_
  refine (rn_istore_n (pc := 1) (dd bX13_typesBox dX13_typesBox_1) (Nat.le_of_ble_eq_true rfl) rfl).trans ?_
  rfl
theorem rX13_typesBox_2 {x1 : Int} {x2 : Int} {v3 : vv} {v4 : vv} {h : vH} (s1 : shModel h) (p2 : ¬ (h 1562 282 0 ≤ x2) → 0 ≤ x2) (p3 : ¬ (h 1562 282 0 ≤ x2) → x2 < 10) : vrun mX13_typesBox 2 [(1, 282), (0, x1), (0, x2), v3, v4] [] h = if h 1562 282 0 ≤ x2 then some (.inl none, h) else vret vrun mX13_typesBox 26 [(1, 282), (0, x1), (0, x2), (0, h 2 337 x2), v4] [] (vcl mX13_comes [(1, 282), (0, h 2 336 x2), (0, h 2 337 x2), (0, x1)] h) := by
  refine (rn_iload_n (pc := 2) (dd bX13_typesBox dX13_typesBox_2) rfl).trans ?_
  refine (rn_aload_n (pc := 3) (dd bX13_typesBox dX13_typesBox_3) rfl).trans ?_
  refine (rg_gf (pc := 4) (dd bX13_typesBox dX13_typesBox_4) (ci := 14) (j := 62) rfl rfl (key := 1562) rfl (kc := 34) rfl s1.1 rfl).trans ?_
  refine (rn_icmp_ge (t := 97) (pc := 7) (dd bX13_typesBox dX13_typesBox_7) rfl).trans (itec (fun c1 => ?_) (fun c1 => ?_))
  · exact rn_return (pc := 97) (dd bX13_typesBox dX13_typesBox_97) rfl
  · refine (rn_aload_n (pc := 10) (dd bX13_typesBox dX13_typesBox_10) rfl).trans ?_
    refine (rg_gf (pc := 11) (dd bX13_typesBox dX13_typesBox_11) (ci := 14) (j := 61) rfl rfl (key := 1561) rfl (kc := 34) rfl s1.1 s1.2.2.2.2.2.2.2.2.2.2.2.2.2.2.2.2.2.2.2.2.2.2.2.2.2.2.2.2.2.2.2.2.2.2.2.2.2.2.2.2.2.2.2.2.2.2.2.2.2.2.2.2.2.2.2.2.2.2.2.2.2.2.2.2.2.2.2.2.2.2.2.2.2.2.2.2.2.2.2.2.2.2.2.2.2.2.2.2.2.2.2.2.2.2.2.2.2.2.2.2.2.2.2.2.2.2.2.2.2.2.2.2.2.2.2.2.2.2.2.2.2.2.2.2.2.2.2.2.2.2.2.2.2.2.2.2.2.2.2.2.2.2.2.2.2.2.2.2.2.2.2.2.2.2.2.2.2.2.2.2.2.2.2.1).trans ?_
    refine (rn_iload_n (pc := 14) (dd bX13_typesBox dX13_typesBox_14) rfl).trans ?_
    refine (rg_iaload (pc := 15) (dd bX13_typesBox dX13_typesBox_15) s1.2.2.2.2.2.2.2.2.2.2.2.2.2.2.2.2.2.2.2.2.2.2.2.2.2.2.2.2.2.2.2.2.2.2.2.2.2.2.2.2.2.2.2.2.2.2.2.2.2.2.2.2.2.2.2.2.2.2.2.2.2.2.2.2.2.2.2.2.2.2.2.2.2.2.2.2.2.2.2.2.2.2.2.2.2.2.2.2.2.2.2.2.2.2.2.2.2.2.2.2.2.2.2.2.2.2.2.2.2.2.2.2.2.2.2.2.2.2.2.2.2.2.2.2.2.2.2.2.2.2.2.2.2.2.2.2.2.2.2.2.2.2.2.2.2.2.2.2.2.2.2.2.2.2.2.2.2.2.2.2.2.2.2.2.1 s1.2.2.2.2.2.2.2.2.2.2.2.2.2.2.2.2.2.2.2.2.2.2.2.2.2.2.2.2.2.2.2.2.2.2.2.2.2.2.2.2.2.2.2.2.2.2.2.2.2.2.2.2.2.2.2.2.2.2.2.2.2.2.2.2.2.2.2.2.2.2.2.2.2.2.2.2.2.2.2.2.2.2.2.2.2.2.2.2.2.2.2.2.2.2.2.2.2.2.2.2.2.2.2.2.2.2.2.2.2.2.2.2.2.2.2.2.2.2.2.2.2.2.2.2.2.2.2.2.2.2.2.2.2.2.2.2.2.2.2.2.2.2.2.2.2.2.2.2.2.2.2.2.2.2.2.2.2.2.2.2.2.2.2.2.2 (p2 c1) (p3 c1) rfl).trans ?_
    refine (rn_istore_n (pc := 16) (dd bX13_typesBox dX13_typesBox_16) (Nat.le_of_ble_eq_true rfl) rfl).trans ?_
    refine (rn_aload_n (pc := 17) (dd bX13_typesBox dX13_typesBox_17) rfl).trans ?_
    refine (rn_aload_n (pc := 18) (dd bX13_typesBox dX13_typesBox_18) rfl).trans ?_
    refine (rg_gf (pc := 19) (dd bX13_typesBox dX13_typesBox_19) (ci := 14) (j := 60) rfl rfl (key := 1560) rfl (kc := 34) rfl s1.1 s1.2.2.2.2.2.2.2.2.2.2.2.2.2.2.2.2.2.2.2.2.2.2.2.2.2.2.2.2.2.2.2.2.2.2.2.2.2.2.2.2.2.2.2.2.2.2.2.2.2.2.2.2.2.2.2.2.2.2.2.2.2.2.2.2.2.2.2.2.2.2.2.2.2.2.2.2.2.2.2.2.2.2.2.2.2.2.2.2.2.2.2.2.2.2.2.2.2.2.2.2.2.2.2.2.2.2.2.2.2.2.2.2.2.2.2.2.2.2.2.2.2.2.2.2.2.2.2.2.2.2.2.2.2.2.2.2.2.2.2.2.2.2.2.2.2.2.2.2.2.2.2.2.2.2.2.2.2.2.2.2.1).trans ?_
    refine (rn_iload_n (pc := 22) (dd bX13_typesBox dX13_typesBox_22) rfl).trans ?_
    refine (rg_iaload (pc := 23) (dd bX13_typesBox dX13_typesBox_23) s1.2.2.2.2.2.2.2.2.2.2.2.2.2.2.2.2.2.2.2.2.2.2.2.2.2.2.2.2.2.2.2.2.2.2.2.2.2.2.2.2.2.2.2.2.2.2.2.2.2.2.2.2.2.2.2.2.2.2.2.2.2.2.2.2.2.2.2.2.2.2.2.2.2.2.2.2.2.2.2.2.2.2.2.2.2.2.2.2.2.2.2.2.2.2.2.2.2.2.2.2.2.2.2.2.2.2.2.2.2.2.2.2.2.2.2.2.2.2.2.2.2.2.2.2.2.2.2.2.2.2.2.2.2.2.2.2.2.2.2.2.2.2.2.2.2.2.2.2.2.2.2.2.2.2.2.2.2.2.2.2.2.1 s1.2.2.2.2.2.2.2.2.2.2.2.2.2.2.2.2.2.2.2.2.2.2.2.2.2.2.2.2.2.2.2.2.2.2.2.2.2.2.2.2.2.2.2.2.2.2.2.2.2.2.2.2.2.2.2.2.2.2.2.2.2.2.2.2.2.2.2.2.2.2.2.2.2.2.2.2.2.2.2.2.2.2.2.2.2.2.2.2.2.2.2.2.2.2.2.2.2.2.2.2.2.2.2.2.2.2.2.2.2.2.2.2.2.2.2.2.2.2.2.2.2.2.2.2.2.2.2.2.2.2.2.2.2.2.2.2.2.2.2.2.2.2.2.2.2.2.2.2.2.2.2.2.2.2.2.2.2.2.2.2.2.2.1 (by have z0 := p2 c1; have z1 := p3 c1; omega) (by have z0 := p2 c1; have z1 := p3 c1; omega) rfl).trans ?_
    refine (rn_iload_n (pc := 24) (dd bX13_typesBox dX13_typesBox_24) rfl).trans ?_
    refine (rn_iload_n (pc := 25) (dd bX13_typesBox dX13_typesBox_25) rfl).trans ?_
    exact rg_virtual (pc := 26) (dd bX13_typesBox dX13_typesBox_26) rfl rfl (by decide) (kc := 34) rfl s1.1 (as := [(1, 282), (0, h 2 336 x2), (0, h 2 337 x2), (0, x1)]) rfl ⟨Nat.le_of_ble_eq_true rfl, Nat.le_of_ble_eq_true rfl, Nat.le_of_ble_eq_true rfl, Nat.le_of_ble_eq_true rfl⟩
theorem rX13_typesBox_29 {x1 : Int} {x2 : Int} {x3 : Int} {v4 : vv} {h : vH} (p1 : (-2147483648) ≤ x2 + 1) (p2 : x2 + 1 < 2147483648) : vrun mX13_typesBox 29 [(1, 282), (0, x1), (0, x2), (0, x3), v4] [] h = vrun mX13_typesBox 34 [(1, 282), (0, x1), (0, x2), (0, x3), (0, x2 + 1)] [] h := by
  refine (rn_iload_n (pc := 29) (dd bX13_typesBox dX13_typesBox_29) rfl).trans ?_
  refine (rn_iconst (pc := 30) (dd bX13_typesBox dX13_typesBox_30) (by decide)).trans ?_
  refine (rg_iadd (pc := 31) (dd bX13_typesBox dX13_typesBox_31) p1 p2).trans ?_
  refine (rn_istore (pc := 32) (dd bX13_typesBox dX13_typesBox_32) (Nat.le_of_ble_eq_true rfl) rfl).trans ?_
  rfl
theorem rX13_typesBox_34 {x1 : Int} {x2 : Int} {x3 : Int} {x4 : Int} {h : vH} (s1 : shModel h) (p2 : h 1562 282 0 ≤ x4 → (-2147483648) ≤ x2 + 1) (p3 : h 1562 282 0 ≤ x4 → x2 + 1 < 2147483648) (p4 : ¬ (h 1562 282 0 ≤ x4) → 0 ≤ x4) (p5 : ¬ (h 1562 282 0 ≤ x4) → x4 < 10) (p6 : ¬ (h 1562 282 0 ≤ x4) → 0 ≤ x2) (p7 : ¬ (h 1562 282 0 ≤ x4) → x2 < 10) (p8 : ¬ (h 1562 282 0 ≤ x4) → (-2147483648) ≤ h 2 337 x4 + (if h 2 336 x4 = h 2 336 x2 ∧ ¬ (h 2 337 x4 ≤ x3) then 1 else 0)) (p9 : ¬ (h 1562 282 0 ≤ x4) → h 2 337 x4 + (if h 2 336 x4 = h 2 336 x2 ∧ ¬ (h 2 337 x4 ≤ x3) then 1 else 0) < 2147483648) : vrun mX13_typesBox 34 [(1, 282), (0, x1), (0, x2), (0, x3), (0, x4)] [] h = if h 1562 282 0 ≤ x4 then vrun mX13_typesBox 2 [(1, 282), (0, x1), (0, x2 + 1), (0, x3), (0, x4)] [] h else vrun mX13_typesBox 34 [(1, 282), (0, x1), (0, x2), (0, x3), (0, x4 + 1)] [] (vup h 2 337 x4 (h 2 337 x4 + (if h 2 336 x4 = h 2 336 x2 ∧ ¬ (h 2 337 x4 ≤ x3) then 1 else 0))) := by
  refine (rn_iload (pc := 34) (dd bX13_typesBox dX13_typesBox_34) rfl).trans ?_
  refine (rn_aload_n (pc := 36) (dd bX13_typesBox dX13_typesBox_36) rfl).trans ?_
  refine (rg_gf (pc := 37) (dd bX13_typesBox dX13_typesBox_37) (ci := 14) (j := 62) rfl rfl (key := 1562) rfl (kc := 34) rfl s1.1 rfl).trans ?_
  refine (rn_icmp_ge (t := 91) (pc := 40) (dd bX13_typesBox dX13_typesBox_40) rfl).trans (itec (fun c1 => ?_) (fun c1 => ?_))
  · refine (rg_iinc (pc := 91) (dd bX13_typesBox dX13_typesBox_91) rfl (Nat.le_of_ble_eq_true rfl) (p2 c1) (p3 c1) rfl).trans ?_
    refine (rn_goto (t := 2) (pc := 94) (dd bX13_typesBox dX13_typesBox_94) rfl).trans ?_
    rfl
  · refine (rn_aload_n (pc := 43) (dd bX13_typesBox dX13_typesBox_43) rfl).trans ?_
    refine (rg_gf (pc := 44) (dd bX13_typesBox dX13_typesBox_44) (ci := 14) (j := 61) rfl rfl (key := 1561) rfl (kc := 34) rfl s1.1 s1.2.2.2.2.2.2.2.2.2.2.2.2.2.2.2.2.2.2.2.2.2.2.2.2.2.2.2.2.2.2.2.2.2.2.2.2.2.2.2.2.2.2.2.2.2.2.2.2.2.2.2.2.2.2.2.2.2.2.2.2.2.2.2.2.2.2.2.2.2.2.2.2.2.2.2.2.2.2.2.2.2.2.2.2.2.2.2.2.2.2.2.2.2.2.2.2.2.2.2.2.2.2.2.2.2.2.2.2.2.2.2.2.2.2.2.2.2.2.2.2.2.2.2.2.2.2.2.2.2.2.2.2.2.2.2.2.2.2.2.2.2.2.2.2.2.2.2.2.2.2.2.2.2.2.2.2.2.2.2.2.2.2.2.1).trans ?_
    refine (rn_iload (pc := 47) (dd bX13_typesBox dX13_typesBox_47) rfl).trans ?_
    refine (rn_dup2 (pc := 49) (dd bX13_typesBox dX13_typesBox_49) (by decide)).trans ?_
    refine (rg_iaload (pc := 50) (dd bX13_typesBox dX13_typesBox_50) s1.2.2.2.2.2.2.2.2.2.2.2.2.2.2.2.2.2.2.2.2.2.2.2.2.2.2.2.2.2.2.2.2.2.2.2.2.2.2.2.2.2.2.2.2.2.2.2.2.2.2.2.2.2.2.2.2.2.2.2.2.2.2.2.2.2.2.2.2.2.2.2.2.2.2.2.2.2.2.2.2.2.2.2.2.2.2.2.2.2.2.2.2.2.2.2.2.2.2.2.2.2.2.2.2.2.2.2.2.2.2.2.2.2.2.2.2.2.2.2.2.2.2.2.2.2.2.2.2.2.2.2.2.2.2.2.2.2.2.2.2.2.2.2.2.2.2.2.2.2.2.2.2.2.2.2.2.2.2.2.2.2.2.2.2.1 s1.2.2.2.2.2.2.2.2.2.2.2.2.2.2.2.2.2.2.2.2.2.2.2.2.2.2.2.2.2.2.2.2.2.2.2.2.2.2.2.2.2.2.2.2.2.2.2.2.2.2.2.2.2.2.2.2.2.2.2.2.2.2.2.2.2.2.2.2.2.2.2.2.2.2.2.2.2.2.2.2.2.2.2.2.2.2.2.2.2.2.2.2.2.2.2.2.2.2.2.2.2.2.2.2.2.2.2.2.2.2.2.2.2.2.2.2.2.2.2.2.2.2.2.2.2.2.2.2.2.2.2.2.2.2.2.2.2.2.2.2.2.2.2.2.2.2.2.2.2.2.2.2.2.2.2.2.2.2.2.2.2.2.2.2.2 (p4 c1) (p5 c1) rfl).trans ?_
    refine (rn_aload_n (pc := 51) (dd bX13_typesBox dX13_typesBox_51) rfl).trans ?_
    refine (rg_gf (pc := 52) (dd bX13_typesBox dX13_typesBox_52) (ci := 14) (j := 60) rfl rfl (key := 1560) rfl (kc := 34) rfl s1.1 s1.2.2.2.2.2.2.2.2.2.2.2.2.2.2.2.2.2.2.2.2.2.2.2.2.2.2.2.2.2.2.2.2.2.2.2.2.2.2.2.2.2.2.2.2.2.2.2.2.2.2.2.2.2.2.2.2.2.2.2.2.2.2.2.2.2.2.2.2.2.2.2.2.2.2.2.2.2.2.2.2.2.2.2.2.2.2.2.2.2.2.2.2.2.2.2.2.2.2.2.2.2.2.2.2.2.2.2.2.2.2.2.2.2.2.2.2.2.2.2.2.2.2.2.2.2.2.2.2.2.2.2.2.2.2.2.2.2.2.2.2.2.2.2.2.2.2.2.2.2.2.2.2.2.2.2.2.2.2.2.2.1).trans ?_
    refine (rn_iload (pc := 55) (dd bX13_typesBox dX13_typesBox_55) rfl).trans ?_
    refine (rg_iaload (pc := 57) (dd bX13_typesBox dX13_typesBox_57) s1.2.2.2.2.2.2.2.2.2.2.2.2.2.2.2.2.2.2.2.2.2.2.2.2.2.2.2.2.2.2.2.2.2.2.2.2.2.2.2.2.2.2.2.2.2.2.2.2.2.2.2.2.2.2.2.2.2.2.2.2.2.2.2.2.2.2.2.2.2.2.2.2.2.2.2.2.2.2.2.2.2.2.2.2.2.2.2.2.2.2.2.2.2.2.2.2.2.2.2.2.2.2.2.2.2.2.2.2.2.2.2.2.2.2.2.2.2.2.2.2.2.2.2.2.2.2.2.2.2.2.2.2.2.2.2.2.2.2.2.2.2.2.2.2.2.2.2.2.2.2.2.2.2.2.2.2.2.2.2.2.2.1 s1.2.2.2.2.2.2.2.2.2.2.2.2.2.2.2.2.2.2.2.2.2.2.2.2.2.2.2.2.2.2.2.2.2.2.2.2.2.2.2.2.2.2.2.2.2.2.2.2.2.2.2.2.2.2.2.2.2.2.2.2.2.2.2.2.2.2.2.2.2.2.2.2.2.2.2.2.2.2.2.2.2.2.2.2.2.2.2.2.2.2.2.2.2.2.2.2.2.2.2.2.2.2.2.2.2.2.2.2.2.2.2.2.2.2.2.2.2.2.2.2.2.2.2.2.2.2.2.2.2.2.2.2.2.2.2.2.2.2.2.2.2.2.2.2.2.2.2.2.2.2.2.2.2.2.2.2.2.2.2.2.2.2.1 (by have z0 := p4 c1; have z1 := p5 c1; omega) (by have z0 := p4 c1; have z1 := p5 c1; omega) rfl).trans ?_
    refine (rn_aload_n (pc := 58) (dd bX13_typesBox dX13_typesBox_58) rfl).trans ?_
    refine (rg_gf (pc := 59) (dd bX13_typesBox dX13_typesBox_59) (ci := 14) (j := 60) rfl rfl (key := 1560) rfl (kc := 34) rfl s1.1 s1.2.2.2.2.2.2.2.2.2.2.2.2.2.2.2.2.2.2.2.2.2.2.2.2.2.2.2.2.2.2.2.2.2.2.2.2.2.2.2.2.2.2.2.2.2.2.2.2.2.2.2.2.2.2.2.2.2.2.2.2.2.2.2.2.2.2.2.2.2.2.2.2.2.2.2.2.2.2.2.2.2.2.2.2.2.2.2.2.2.2.2.2.2.2.2.2.2.2.2.2.2.2.2.2.2.2.2.2.2.2.2.2.2.2.2.2.2.2.2.2.2.2.2.2.2.2.2.2.2.2.2.2.2.2.2.2.2.2.2.2.2.2.2.2.2.2.2.2.2.2.2.2.2.2.2.2.2.2.2.2.1).trans ?_
    refine (rn_iload_n (pc := 62) (dd bX13_typesBox dX13_typesBox_62) rfl).trans ?_
    refine (rg_iaload (pc := 63) (dd bX13_typesBox dX13_typesBox_63) s1.2.2.2.2.2.2.2.2.2.2.2.2.2.2.2.2.2.2.2.2.2.2.2.2.2.2.2.2.2.2.2.2.2.2.2.2.2.2.2.2.2.2.2.2.2.2.2.2.2.2.2.2.2.2.2.2.2.2.2.2.2.2.2.2.2.2.2.2.2.2.2.2.2.2.2.2.2.2.2.2.2.2.2.2.2.2.2.2.2.2.2.2.2.2.2.2.2.2.2.2.2.2.2.2.2.2.2.2.2.2.2.2.2.2.2.2.2.2.2.2.2.2.2.2.2.2.2.2.2.2.2.2.2.2.2.2.2.2.2.2.2.2.2.2.2.2.2.2.2.2.2.2.2.2.2.2.2.2.2.2.2.1 s1.2.2.2.2.2.2.2.2.2.2.2.2.2.2.2.2.2.2.2.2.2.2.2.2.2.2.2.2.2.2.2.2.2.2.2.2.2.2.2.2.2.2.2.2.2.2.2.2.2.2.2.2.2.2.2.2.2.2.2.2.2.2.2.2.2.2.2.2.2.2.2.2.2.2.2.2.2.2.2.2.2.2.2.2.2.2.2.2.2.2.2.2.2.2.2.2.2.2.2.2.2.2.2.2.2.2.2.2.2.2.2.2.2.2.2.2.2.2.2.2.2.2.2.2.2.2.2.2.2.2.2.2.2.2.2.2.2.2.2.2.2.2.2.2.2.2.2.2.2.2.2.2.2.2.2.2.2.2.2.2.2.2.1 (p6 c1) (p7 c1) rfl).trans ?_
    have e2 : vrun mX13_typesBox 64 [(1, 282), (0, x1), (0, x2), (0, x3), (0, x4)] [(0, h 2 336 x2), (0, h 2 336 x4), (0, h 2 337 x4), (0, x4), (1, 337)] h = vrun mX13_typesBox 83 [(1, 282), (0, x1), (0, x2), (0, x3), (0, x4)] [(0, (if h 2 336 x4 = h 2 336 x2 ∧ ¬ (h 2 337 x4 ≤ x3) then 1 else 0)), (0, h 2 337 x4), (0, x4), (1, 337)] h := by
      refine (rg_icmp_ne (t := 82) (pc := 64) (dd bX13_typesBox dX13_typesBox_64) rfl).trans ?_
      by_cases c2 : h 2 336 x4 = h 2 336 x2
      · refine (if_pos c2).trans ?_
        refine (rn_aload_n (pc := 67) (dd bX13_typesBox dX13_typesBox_67) rfl).trans ?_
        refine (rg_gf (pc := 68) (dd bX13_typesBox dX13_typesBox_68) (ci := 14) (j := 61) rfl rfl (key := 1561) rfl (kc := 34) rfl s1.1 s1.2.2.2.2.2.2.2.2.2.2.2.2.2.2.2.2.2.2.2.2.2.2.2.2.2.2.2.2.2.2.2.2.2.2.2.2.2.2.2.2.2.2.2.2.2.2.2.2.2.2.2.2.2.2.2.2.2.2.2.2.2.2.2.2.2.2.2.2.2.2.2.2.2.2.2.2.2.2.2.2.2.2.2.2.2.2.2.2.2.2.2.2.2.2.2.2.2.2.2.2.2.2.2.2.2.2.2.2.2.2.2.2.2.2.2.2.2.2.2.2.2.2.2.2.2.2.2.2.2.2.2.2.2.2.2.2.2.2.2.2.2.2.2.2.2.2.2.2.2.2.2.2.2.2.2.2.2.2.2.2.2.2.2.1).trans ?_
        refine (rn_iload (pc := 71) (dd bX13_typesBox dX13_typesBox_71) rfl).trans ?_
        refine (rg_iaload (pc := 73) (dd bX13_typesBox dX13_typesBox_73) s1.2.2.2.2.2.2.2.2.2.2.2.2.2.2.2.2.2.2.2.2.2.2.2.2.2.2.2.2.2.2.2.2.2.2.2.2.2.2.2.2.2.2.2.2.2.2.2.2.2.2.2.2.2.2.2.2.2.2.2.2.2.2.2.2.2.2.2.2.2.2.2.2.2.2.2.2.2.2.2.2.2.2.2.2.2.2.2.2.2.2.2.2.2.2.2.2.2.2.2.2.2.2.2.2.2.2.2.2.2.2.2.2.2.2.2.2.2.2.2.2.2.2.2.2.2.2.2.2.2.2.2.2.2.2.2.2.2.2.2.2.2.2.2.2.2.2.2.2.2.2.2.2.2.2.2.2.2.2.2.2.2.2.2.2.1 s1.2.2.2.2.2.2.2.2.2.2.2.2.2.2.2.2.2.2.2.2.2.2.2.2.2.2.2.2.2.2.2.2.2.2.2.2.2.2.2.2.2.2.2.2.2.2.2.2.2.2.2.2.2.2.2.2.2.2.2.2.2.2.2.2.2.2.2.2.2.2.2.2.2.2.2.2.2.2.2.2.2.2.2.2.2.2.2.2.2.2.2.2.2.2.2.2.2.2.2.2.2.2.2.2.2.2.2.2.2.2.2.2.2.2.2.2.2.2.2.2.2.2.2.2.2.2.2.2.2.2.2.2.2.2.2.2.2.2.2.2.2.2.2.2.2.2.2.2.2.2.2.2.2.2.2.2.2.2.2.2.2.2.2.2.2 (by have z0 := p4 c1; have z1 := p5 c1; omega) (by have z0 := p4 c1; have z1 := p5 c1; omega) rfl).trans ?_
        refine (rn_iload_n (pc := 74) (dd bX13_typesBox dX13_typesBox_74) rfl).trans ?_
        have e1 : vrun mX13_typesBox 75 [(1, 282), (0, x1), (0, x2), (0, x3), (0, x4)] [(0, x3), (0, h 2 337 x4), (0, h 2 337 x4), (0, x4), (1, 337)] h = vrun mX13_typesBox 83 [(1, 282), (0, x1), (0, x2), (0, x3), (0, x4)] [(0, (if ¬ (h 2 337 x4 ≤ x3) then 1 else 0)), (0, h 2 337 x4), (0, x4), (1, 337)] h := by
          refine (rn_icmp_le (t := 82) (pc := 75) (dd bX13_typesBox dX13_typesBox_75) rfl).trans ?_
          by_cases c3 : h 2 337 x4 ≤ x3
          · refine (if_pos c3).trans ?_
            refine (rn_iconst (pc := 82) (dd bX13_typesBox dX13_typesBox_82) (by decide)).trans ?_
            refine Eq.trans (b := vrun mX13_typesBox 83 [(1, 282), (0, x1), (0, x2), (0, x3), (0, x4)] [(0, 0), (0, h 2 337 x4), (0, x4), (1, 337)] h) rfl ?_
            simp only [c3, true_or, false_or, or_true, or_false, true_and, false_and, and_true, and_false, not_true_eq_false, not_false_eq_true, ne_eq, if_true, if_false, ↓reduceIte]
          · refine (if_neg c3).trans ?_
            refine (rn_iconst (pc := 78) (dd bX13_typesBox dX13_typesBox_78) (by decide)).trans ?_
            refine (rn_goto (t := 83) (pc := 79) (dd bX13_typesBox dX13_typesBox_79) rfl).trans ?_
            refine Eq.trans (b := vrun mX13_typesBox 83 [(1, 282), (0, x1), (0, x2), (0, x3), (0, x4)] [(0, 1), (0, h 2 337 x4), (0, x4), (1, 337)] h) rfl ?_
            simp only [c3, true_or, false_or, or_true, or_false, true_and, false_and, and_true, and_false, not_true_eq_false, not_false_eq_true, ne_eq, if_true, if_false, ↓reduceIte]
        refine e1.trans ?_
        refine Eq.trans (b := vrun mX13_typesBox 83 [(1, 282), (0, x1), (0, x2), (0, x3), (0, x4)] [(0, (if ¬ (h 2 337 x4 ≤ x3) then 1 else 0)), (0, h 2 337 x4), (0, x4), (1, 337)] h) rfl ?_
        simp only [c2, true_or, false_or, or_true, or_false, true_and, false_and, and_true, and_false, not_true_eq_false, not_false_eq_true, ne_eq, if_true, if_false, ↓reduceIte]
      · refine (if_neg c2).trans ?_
        refine (rn_iconst (pc := 82) (dd bX13_typesBox dX13_typesBox_82) (by decide)).trans ?_
        refine Eq.trans (b := vrun mX13_typesBox 83 [(1, 282), (0, x1), (0, x2), (0, x3), (0, x4)] [(0, 0), (0, h 2 337 x4), (0, x4), (1, 337)] h) rfl ?_
        simp only [c2, true_or, false_or, or_true, or_false, true_and, false_and, and_true, and_false, not_true_eq_false, not_false_eq_true, ne_eq, if_true, if_false, ↓reduceIte]
    refine e2.trans ?_
    refine (rg_iadd (pc := 83) (dd bX13_typesBox dX13_typesBox_83) (p8 c1) (p9 c1)).trans ?_
    refine (rg_iastore (pc := 84) (dd bX13_typesBox dX13_typesBox_84) s1.2.2.2.2.2.2.2.2.2.2.2.2.2.2.2.2.2.2.2.2.2.2.2.2.2.2.2.2.2.2.2.2.2.2.2.2.2.2.2.2.2.2.2.2.2.2.2.2.2.2.2.2.2.2.2.2.2.2.2.2.2.2.2.2.2.2.2.2.2.2.2.2.2.2.2.2.2.2.2.2.2.2.2.2.2.2.2.2.2.2.2.2.2.2.2.2.2.2.2.2.2.2.2.2.2.2.2.2.2.2.2.2.2.2.2.2.2.2.2.2.2.2.2.2.2.2.2.2.2.2.2.2.2.2.2.2.2.2.2.2.2.2.2.2.2.2.2.2.2.2.2.2.2.2.2.2.2.2.2.2.2.2.2.2.1 s1.2.2.2.2.2.2.2.2.2.2.2.2.2.2.2.2.2.2.2.2.2.2.2.2.2.2.2.2.2.2.2.2.2.2.2.2.2.2.2.2.2.2.2.2.2.2.2.2.2.2.2.2.2.2.2.2.2.2.2.2.2.2.2.2.2.2.2.2.2.2.2.2.2.2.2.2.2.2.2.2.2.2.2.2.2.2.2.2.2.2.2.2.2.2.2.2.2.2.2.2.2.2.2.2.2.2.2.2.2.2.2.2.2.2.2.2.2.2.2.2.2.2.2.2.2.2.2.2.2.2.2.2.2.2.2.2.2.2.2.2.2.2.2.2.2.2.2.2.2.2.2.2.2.2.2.2.2.2.2.2.2.2.2.2.2 (by have z0 := p4 c1; have z1 := p5 c1; omega) (by have z0 := p4 c1; have z1 := p5 c1; omega)).trans ?_
    refine (rg_iinc (pc := 85) (dd bX13_typesBox dX13_typesBox_85) rfl (Nat.le_of_ble_eq_true rfl) (by have z0 := p4 c1; have z1 := p5 c1; omega) (by have z0 := p4 c1; have z1 := p5 c1; omega) rfl).trans ?_
    refine (rn_goto (t := 34) (pc := 88) (dd bX13_typesBox dX13_typesBox_88) rfl).trans ?_
    rfl
theorem bX13_typeBox : vmB mX13_typeBox = cX13_typeBox := rfl
theorem rX13_typeBox_0 {x1 : Int} {x2 : Int} {x3 : Int} {x4 : Int} {x5 : Int} {h : vH} (s1 : shModel h) : vrun mX13_typeBox 0 [(1, 282), (0, x1), (0, x2), (0, x3), (0, x4), (0, x5), (9, 0), (9, 0), (9, 0), (9, 0)] [] h = if ¬ (x1 < 0) ∧ ¬ (3 < x1) then if ¬ (x3 < 1) ∧ ¬ (10 < x3) then vret vrun mX13_typeBox 28 [(1, 282), (0, x1), (0, x2), (0, x3), (0, x4), (0, x5), (0, (if ¬ (x1 < 0) ∧ ¬ (3 < x1) then 1 else 0)), (0, (if ¬ (x3 < 1) ∧ ¬ (10 < x3) then 1 else 0)), (9, 0), (9, 0)] [] (vcl mX13_isRow [(1, 282), (0, x1), (0, x2)] h) else if ¬ (x1 < 0) ∧ ¬ (3 < x1) then if ¬ (x3 < 1) ∧ ¬ (10 < x3) then vret vrun mX13_typeBox 148 [(1, 282), (0, x1), (0, x2), (0, x3), (0, x4), (0, x5), (0, (if ¬ (x1 < 0) ∧ ¬ (3 < x1) then 1 else 0)), (0, (if ¬ (x3 < 1) ∧ ¬ (10 < x3) then 1 else 0)), (0, 0), (0, 0)] [] (vcl mX13_isFine [(1, 282), (0, 1)] h) else vret vrun mX13_typeBox 148 [(1, 282), (0, x1), (0, x2), (0, x3), (0, x4), (0, x5), (0, (if ¬ (x1 < 0) ∧ ¬ (3 < x1) then 1 else 0)), (0, (if ¬ (x3 < 1) ∧ ¬ (10 < x3) then 1 else 0)), (0, 0), (0, 0)] [] (vcl mX13_isFine [(1, 282), (0, 2)] h) else vret vrun mX13_typeBox 148 [(1, 282), (0, x1), (0, x2), (0, x3), (0, x4), (0, x5), (0, (if ¬ (x1 < 0) ∧ ¬ (3 < x1) then 1 else 0)), (0, (if ¬ (x3 < 1) ∧ ¬ (10 < x3) then 1 else 0)), (0, 0), (0, 0)] [] (vcl mX13_isFine [(1, 282), (0, 1)] h) else if ¬ (x1 < 0) ∧ ¬ (3 < x1) then if ¬ (x3 < 1) ∧ ¬ (10 < x3) then vret vrun mX13_typeBox 148 [(1, 282), (0, x1), (0, x2), (0, x3), (0, x4), (0, x5), (0, (if ¬ (x1 < 0) ∧ ¬ (3 < x1) then 1 else 0)), (0, (if ¬ (x3 < 1) ∧ ¬ (10 < x3) then 1 else 0)), (0, 0), (0, 0)] [] (vcl mX13_isFine [(1, 282), (0, 1)] h) else vret vrun mX13_typeBox 148 [(1, 282), (0, x1), (0, x2), (0, x3), (0, x4), (0, x5), (0, (if ¬ (x1 < 0) ∧ ¬ (3 < x1) then 1 else 0)), (0, (if ¬ (x3 < 1) ∧ ¬ (10 < x3) then 1 else 0)), (0, 0), (0, 0)] [] (vcl mX13_isFine [(1, 282), (0, 2)] h) else vret vrun mX13_typeBox 148 [(1, 282), (0, x1), (0, x2), (0, x3), (0, x4), (0, x5), (0, (if ¬ (x1 < 0) ∧ ¬ (3 < x1) then 1 else 0)), (0, (if ¬ (x3 < 1) ∧ ¬ (10 < x3) then 1 else 0)), (0, 0), (0, 0)] [] (vcl mX13_isFine [(1, 282), (0, 1)] h) := by
  refine (rn_iload_n (pc := 0) (dd bX13_typeBox dX13_typeBox_0) rfl).trans ?_
  refine (rg_static (pc := 1) (dd bX13_typeBox dX13_typeBox_1) rfl (by decide) (Nat.le_of_ble_eq_true rfl) (as := [(0, x1)]) rfl rfl ⟨Nat.le_of_ble_eq_true rfl, Nat.le_of_ble_eq_true rfl, Nat.le_of_ble_eq_true rfl, Nat.le_of_ble_eq_true rfl⟩).trans ?_
  refine (vret_v spX13_isPane).trans ?_
  refine (rn_istore (pc := 4) (dd bX13_typeBox dX13_typeBox_4) (Nat.le_of_ble_eq_true rfl) rfl).trans ?_
  refine (rn_iload_n (pc := 6) (dd bX13_typeBox dX13_typeBox_6) rfl).trans ?_
  refine (rn_iconst (pc := 7) (dd bX13_typeBox dX13_typeBox_7) (by decide)).trans ?_
  refine (rn_bipush (pc := 8) (dd bX13_typeBox dX13_typeBox_8) (by decide)).trans ?_
  refine (rg_static (pc := 10) (dd bX13_typeBox dX13_typeBox_10) rfl (by decide) (Nat.le_of_ble_eq_true rfl) (as := [(0, x3), (0, 1), (0, 10)]) rfl rfl ⟨Nat.le_of_ble_eq_true rfl, Nat.le_of_ble_eq_true rfl, Nat.le_of_ble_eq_true rfl, Nat.le_of_ble_eq_true rfl⟩).trans ?_
  refine (vret_v spX13_isIn).trans ?_
  refine (rn_istore (pc := 13) (dd bX13_typeBox dX13_typeBox_13) (Nat.le_of_ble_eq_true rfl) rfl).trans ?_
  refine (rn_iload (pc := 15) (dd bX13_typeBox dX13_typeBox_15) rfl).trans ?_
  refine (rg_beq (t := 51) (pc := 17) (dd bX13_typeBox dX13_typeBox_17) rfl).trans (itec (fun c1 => ?_) (fun c1 => ?_))
  · refine (rn_iload (pc := 20) (dd bX13_typeBox dX13_typeBox_20) rfl).trans ?_
    refine (rg_beq (t := 51) (pc := 22) (dd bX13_typeBox dX13_typeBox_22) rfl).trans (itec (fun c2 => ?_) (fun c2 => ?_))
    · refine (rn_aload_n (pc := 25) (dd bX13_typeBox dX13_typeBox_25) rfl).trans ?_
      refine (rn_iload_n (pc := 26) (dd bX13_typeBox dX13_typeBox_26) rfl).trans ?_
      refine (rn_iload_n (pc := 27) (dd bX13_typeBox dX13_typeBox_27) rfl).trans ?_
      exact rg_virtual (pc := 28) (dd bX13_typeBox dX13_typeBox_28) rfl rfl (by decide) (kc := 34) rfl s1.1 (as := [(1, 282), (0, x1), (0, x2)]) rfl ⟨Nat.le_of_ble_eq_true rfl, Nat.le_of_ble_eq_true rfl, Nat.le_of_ble_eq_true rfl, Nat.le_of_ble_eq_true rfl⟩
    · refine (rn_iconst (pc := 51) (dd bX13_typeBox dX13_typeBox_51) (by decide)).trans ?_
      refine (rn_istore (pc := 52) (dd bX13_typeBox dX13_typeBox_52) (Nat.le_of_ble_eq_true rfl) rfl).trans ?_
      refine (rn_iload (pc := 54) (dd bX13_typeBox dX13_typeBox_54) rfl).trans ?_
      refine (rn_if_eq (t := 82) (pc := 56) (dd bX13_typeBox dX13_typeBox_56) rfl).trans ((if_pos (by decide)).trans ?_)
      refine (rn_iconst (pc := 82) (dd bX13_typeBox dX13_typeBox_82) (by decide)).trans ?_
      refine (rn_istore (pc := 83) (dd bX13_typeBox dX13_typeBox_83) (Nat.le_of_ble_eq_true rfl) rfl).trans ?_
      refine (rn_iload (pc := 85) (dd bX13_typeBox dX13_typeBox_85) rfl).trans ?_
      refine (rn_if_eq (t := 99) (pc := 87) (dd bX13_typeBox dX13_typeBox_87) rfl).trans ((if_pos (by decide)).trans ?_)
      refine (rn_aload_n (pc := 99) (dd bX13_typeBox dX13_typeBox_99) rfl).trans ?_
      refine (rn_iload (pc := 100) (dd bX13_typeBox dX13_typeBox_100) rfl).trans ?_
      refine (rg_bne (t := 109) (pc := 102) (dd bX13_typeBox dX13_typeBox_102) rfl).trans (itec (fun c3 => ?_) (fun c3 => ?_))
      · refine (rn_iload (pc := 109) (dd bX13_typeBox dX13_typeBox_109) rfl).trans ?_
        refine (rg_bne (t := 118) (pc := 111) (dd bX13_typeBox dX13_typeBox_111) rfl).trans (itec (fun c4 => ?_) (fun c4 => ?_))
        · refine (rn_iload (pc := 118) (dd bX13_typeBox dX13_typeBox_118) rfl).trans ?_
          refine (rg_if_ne (t := 127) (pc := 120) (dd bX13_typeBox dX13_typeBox_120) rfl).trans ((if_pos (by decide)).trans ?_)
          refine (rn_iconst (pc := 123) (dd bX13_typeBox dX13_typeBox_123) (by decide)).trans ?_
          refine (rn_goto (t := 148) (pc := 124) (dd bX13_typeBox dX13_typeBox_124) rfl).trans ?_
          exact rg_virtual (pc := 148) (dd bX13_typeBox dX13_typeBox_148) rfl rfl (by decide) (kc := 34) rfl s1.1 (as := [(1, 282), (0, 1)]) rfl ⟨Nat.le_of_ble_eq_true rfl, Nat.le_of_ble_eq_true rfl, Nat.le_of_ble_eq_true rfl, Nat.le_of_ble_eq_true rfl⟩
        · refine (rn_iconst (pc := 114) (dd bX13_typeBox dX13_typeBox_114) (by decide)).trans ?_
          refine (rn_goto (t := 148) (pc := 115) (dd bX13_typeBox dX13_typeBox_115) rfl).trans ?_
          exact rg_virtual (pc := 148) (dd bX13_typeBox dX13_typeBox_148) rfl rfl (by decide) (kc := 34) rfl s1.1 (as := [(1, 282), (0, 2)]) rfl ⟨Nat.le_of_ble_eq_true rfl, Nat.le_of_ble_eq_true rfl, Nat.le_of_ble_eq_true rfl, Nat.le_of_ble_eq_true rfl⟩
      · refine (rn_iconst (pc := 105) (dd bX13_typeBox dX13_typeBox_105) (by decide)).trans ?_
        refine (rn_goto (t := 148) (pc := 106) (dd bX13_typeBox dX13_typeBox_106) rfl).trans ?_
        exact rg_virtual (pc := 148) (dd bX13_typeBox dX13_typeBox_148) rfl rfl (by decide) (kc := 34) rfl s1.1 (as := [(1, 282), (0, 1)]) rfl ⟨Nat.le_of_ble_eq_true rfl, Nat.le_of_ble_eq_true rfl, Nat.le_of_ble_eq_true rfl, Nat.le_of_ble_eq_true rfl⟩
  · refine (rn_iconst (pc := 51) (dd bX13_typeBox dX13_typeBox_51) (by decide)).trans ?_
    refine (rn_istore (pc := 52) (dd bX13_typeBox dX13_typeBox_52) (Nat.le_of_ble_eq_true rfl) rfl).trans ?_
    refine (rn_iload (pc := 54) (dd bX13_typeBox dX13_typeBox_54) rfl).trans ?_
    refine (rn_if_eq (t := 82) (pc := 56) (dd bX13_typeBox dX13_typeBox_56) rfl).trans ((if_pos (by decide)).trans ?_)
    refine (rn_iconst (pc := 82) (dd bX13_typeBox dX13_typeBox_82) (by decide)).trans ?_
    refine (rn_istore (pc := 83) (dd bX13_typeBox dX13_typeBox_83) (Nat.le_of_ble_eq_true rfl) rfl).trans ?_
    refine (rn_iload (pc := 85) (dd bX13_typeBox dX13_typeBox_85) rfl).trans ?_
    refine (rn_if_eq (t := 99) (pc := 87) (dd bX13_typeBox dX13_typeBox_87) rfl).trans ((if_pos (by decide)).trans ?_)
    refine (rn_aload_n (pc := 99) (dd bX13_typeBox dX13_typeBox_99) rfl).trans ?_
    refine (rn_iload (pc := 100) (dd bX13_typeBox dX13_typeBox_100) rfl).trans ?_
    refine (rg_bne (t := 109) (pc := 102) (dd bX13_typeBox dX13_typeBox_102) rfl).trans (itec (fun c5 => ?_) (fun c5 => ?_))
    · refine (rn_iload (pc := 109) (dd bX13_typeBox dX13_typeBox_109) rfl).trans ?_
      refine (rg_bne (t := 118) (pc := 111) (dd bX13_typeBox dX13_typeBox_111) rfl).trans (itec (fun c6 => ?_) (fun c6 => ?_))
      · refine (rn_iload (pc := 118) (dd bX13_typeBox dX13_typeBox_118) rfl).trans ?_
        refine (rg_if_ne (t := 127) (pc := 120) (dd bX13_typeBox dX13_typeBox_120) rfl).trans ((if_pos (by decide)).trans ?_)
        refine (rn_iconst (pc := 123) (dd bX13_typeBox dX13_typeBox_123) (by decide)).trans ?_
        refine (rn_goto (t := 148) (pc := 124) (dd bX13_typeBox dX13_typeBox_124) rfl).trans ?_
        exact rg_virtual (pc := 148) (dd bX13_typeBox dX13_typeBox_148) rfl rfl (by decide) (kc := 34) rfl s1.1 (as := [(1, 282), (0, 1)]) rfl ⟨Nat.le_of_ble_eq_true rfl, Nat.le_of_ble_eq_true rfl, Nat.le_of_ble_eq_true rfl, Nat.le_of_ble_eq_true rfl⟩
      · refine (rn_iconst (pc := 114) (dd bX13_typeBox dX13_typeBox_114) (by decide)).trans ?_
        refine (rn_goto (t := 148) (pc := 115) (dd bX13_typeBox dX13_typeBox_115) rfl).trans ?_
        exact rg_virtual (pc := 148) (dd bX13_typeBox dX13_typeBox_148) rfl rfl (by decide) (kc := 34) rfl s1.1 (as := [(1, 282), (0, 2)]) rfl ⟨Nat.le_of_ble_eq_true rfl, Nat.le_of_ble_eq_true rfl, Nat.le_of_ble_eq_true rfl, Nat.le_of_ble_eq_true rfl⟩
    · refine (rn_iconst (pc := 105) (dd bX13_typeBox dX13_typeBox_105) (by decide)).trans ?_
      refine (rn_goto (t := 148) (pc := 106) (dd bX13_typeBox dX13_typeBox_106) rfl).trans ?_
      exact rg_virtual (pc := 148) (dd bX13_typeBox dX13_typeBox_148) rfl rfl (by decide) (kc := 34) rfl s1.1 (as := [(1, 282), (0, 1)]) rfl ⟨Nat.le_of_ble_eq_true rfl, Nat.le_of_ble_eq_true rfl, Nat.le_of_ble_eq_true rfl, Nat.le_of_ble_eq_true rfl⟩
theorem rX13_typeBox_31 {x1 : Int} {x2 : Int} {x3 : Int} {x4 : Int} {x5 : Int} {x6 : Int} {x7 : Int} {y0 : Int} {h : vH} (s1 : shModel h) (p2 : ¬ (y0 = 0) → (-2147483648) ≤ x2 + x3) (p3 : ¬ (y0 = 0) → x2 + x3 < 2147483648) (p4 : ¬ (y0 = 0) → (-2147483648) ≤ x2 + x3 - 1) : vrun mX13_typeBox 31 [(1, 282), (0, x1), (0, x2), (0, x3), (0, x4), (0, x5), (0, x6), (0, x7), (9, 0), (9, 0)] [(0, y0)] h = if y0 = 0 then if x6 = 0 then vret vrun mX13_typeBox 148 [(1, 282), (0, x1), (0, x2), (0, x3), (0, x4), (0, x5), (0, x6), (0, x7), (0, 0), (0, 0)] [] (vcl mX13_isFine [(1, 282), (0, 1)] h) else if x7 = 0 then vret vrun mX13_typeBox 148 [(1, 282), (0, x1), (0, x2), (0, x3), (0, x4), (0, x5), (0, x6), (0, x7), (0, 0), (0, 0)] [] (vcl mX13_isFine [(1, 282), (0, 2)] h) else vret vrun mX13_typeBox 148 [(1, 282), (0, x1), (0, x2), (0, x3), (0, x4), (0, x5), (0, x6), (0, x7), (0, 0), (0, 0)] [] (vcl mX13_isFine [(1, 282), (0, 1)] h) else vret vrun mX13_typeBox 41 [(1, 282), (0, x1), (0, x2), (0, x3), (0, x4), (0, x5), (0, x6), (0, x7), (9, 0), (9, 0)] [] (vcl mX13_isRow [(1, 282), (0, x1), (0, x2 + x3 - 1)] h) := by
  refine (rn_if_eq (t := 51) (pc := 31) (dd bX13_typeBox dX13_typeBox_31) rfl).trans (itec (fun c1 => ?_) (fun c1 => ?_))
  · refine (rn_iconst (pc := 51) (dd bX13_typeBox dX13_typeBox_51) (by decide)).trans ?_
    refine (rn_istore (pc := 52) (dd bX13_typeBox dX13_typeBox_52) (Nat.le_of_ble_eq_true rfl) rfl).trans ?_
    refine (rn_iload (pc := 54) (dd bX13_typeBox dX13_typeBox_54) rfl).trans ?_
    refine (rn_if_eq (t := 82) (pc := 56) (dd bX13_typeBox dX13_typeBox_56) rfl).trans ((if_pos (by decide)).trans ?_)
    refine (rn_iconst (pc := 82) (dd bX13_typeBox dX13_typeBox_82) (by decide)).trans ?_
    refine (rn_istore (pc := 83) (dd bX13_typeBox dX13_typeBox_83) (Nat.le_of_ble_eq_true rfl) rfl).trans ?_
    refine (rn_iload (pc := 85) (dd bX13_typeBox dX13_typeBox_85) rfl).trans ?_
    refine (rn_if_eq (t := 99) (pc := 87) (dd bX13_typeBox dX13_typeBox_87) rfl).trans ((if_pos (by decide)).trans ?_)
    refine (rn_aload_n (pc := 99) (dd bX13_typeBox dX13_typeBox_99) rfl).trans ?_
    refine (rn_iload (pc := 100) (dd bX13_typeBox dX13_typeBox_100) rfl).trans ?_
    refine (rg_if_ne (t := 109) (pc := 102) (dd bX13_typeBox dX13_typeBox_102) rfl).trans (itec (fun c2 => ?_) (fun c2 => ?_))
    · refine (rn_iconst (pc := 105) (dd bX13_typeBox dX13_typeBox_105) (by decide)).trans ?_
      refine (rn_goto (t := 148) (pc := 106) (dd bX13_typeBox dX13_typeBox_106) rfl).trans ?_
      exact rg_virtual (pc := 148) (dd bX13_typeBox dX13_typeBox_148) rfl rfl (by decide) (kc := 34) rfl s1.1 (as := [(1, 282), (0, 1)]) rfl ⟨Nat.le_of_ble_eq_true rfl, Nat.le_of_ble_eq_true rfl, Nat.le_of_ble_eq_true rfl, Nat.le_of_ble_eq_true rfl⟩
    · refine (rn_iload (pc := 109) (dd bX13_typeBox dX13_typeBox_109) rfl).trans ?_
      refine (rg_if_ne (t := 118) (pc := 111) (dd bX13_typeBox dX13_typeBox_111) rfl).trans (itec (fun c3 => ?_) (fun c3 => ?_))
      · refine (rn_iconst (pc := 114) (dd bX13_typeBox dX13_typeBox_114) (by decide)).trans ?_
        refine (rn_goto (t := 148) (pc := 115) (dd bX13_typeBox dX13_typeBox_115) rfl).trans ?_
        exact rg_virtual (pc := 148) (dd bX13_typeBox dX13_typeBox_148) rfl rfl (by decide) (kc := 34) rfl s1.1 (as := [(1, 282), (0, 2)]) rfl ⟨Nat.le_of_ble_eq_true rfl, Nat.le_of_ble_eq_true rfl, Nat.le_of_ble_eq_true rfl, Nat.le_of_ble_eq_true rfl⟩
      · refine (rn_iload (pc := 118) (dd bX13_typeBox dX13_typeBox_118) rfl).trans ?_
        refine (rg_if_ne (t := 127) (pc := 120) (dd bX13_typeBox dX13_typeBox_120) rfl).trans ((if_pos (by decide)).trans ?_)
        refine (rn_iconst (pc := 123) (dd bX13_typeBox dX13_typeBox_123) (by decide)).trans ?_
        refine (rn_goto (t := 148) (pc := 124) (dd bX13_typeBox dX13_typeBox_124) rfl).trans ?_
        exact rg_virtual (pc := 148) (dd bX13_typeBox dX13_typeBox_148) rfl rfl (by decide) (kc := 34) rfl s1.1 (as := [(1, 282), (0, 1)]) rfl ⟨Nat.le_of_ble_eq_true rfl, Nat.le_of_ble_eq_true rfl, Nat.le_of_ble_eq_true rfl, Nat.le_of_ble_eq_true rfl⟩
  · refine (rn_aload_n (pc := 34) (dd bX13_typeBox dX13_typeBox_34) rfl).trans ?_
    refine (rn_iload_n (pc := 35) (dd bX13_typeBox dX13_typeBox_35) rfl).trans ?_
    refine (rn_iload_n (pc := 36) (dd bX13_typeBox dX13_typeBox_36) rfl).trans ?_
    refine (rn_iload_n (pc := 37) (dd bX13_typeBox dX13_typeBox_37) rfl).trans ?_
    refine (rg_iadd (pc := 38) (dd bX13_typeBox dX13_typeBox_38) (p2 c1) (p3 c1)).trans ?_
    refine (rn_iconst (pc := 39) (dd bX13_typeBox dX13_typeBox_39) (by decide)).trans ?_
    refine (rg_isub (pc := 40) (dd bX13_typeBox dX13_typeBox_40) (p4 c1) (by have z0 := p2 c1; have z1 := p3 c1; have z2 := p4 c1; omega)).trans ?_
    exact rg_virtual (pc := 41) (dd bX13_typeBox dX13_typeBox_41) rfl rfl (by decide) (kc := 34) rfl s1.1 (as := [(1, 282), (0, x1), (0, x2 + x3 - 1)]) rfl ⟨Nat.le_of_ble_eq_true rfl, Nat.le_of_ble_eq_true rfl, Nat.le_of_ble_eq_true rfl, Nat.le_of_ble_eq_true rfl⟩
theorem rX13_typeBox_151 {x1 : Int} {x2 : Int} {x3 : Int} {x4 : Int} {x5 : Int} {x6 : Int} {x7 : Int} {x8 : Int} {x9 : Int} {y0 : Int} {h : vH} (s1 : shModel h) : vrun mX13_typeBox 151 [(1, 282), (0, x1), (0, x2), (0, x3), (0, x4), (0, x5), (0, x6), (0, x7), (0, x8), (0, x9)] [(0, y0)] h = if y0 = 0 then some (.inl (some (0, 0)), h) else vret vrun mX13_typeBox 159 [(1, 282), (0, x1), (0, x2), (0, x3), (0, x4), (0, x5), (0, x6), (0, x7), (0, x8), (0, x9)] [] (vcl mX13_typesBox [(1, 282), (0, x5)] h) := by
  refine (rg_if_ne (t := 156) (pc := 151) (dd bX13_typeBox dX13_typeBox_151) rfl).trans (itec (fun c1 => ?_) (fun c1 => ?_))
  · refine (rn_iconst (pc := 154) (dd bX13_typeBox dX13_typeBox_154) (by decide)).trans ?_
    exact rn_ireturn (pc := 155) (dd bX13_typeBox dX13_typeBox_155) (Or.inl rfl)
  · refine (rn_aload_n (pc := 156) (dd bX13_typeBox dX13_typeBox_156) rfl).trans ?_
    refine (rn_iload (pc := 157) (dd bX13_typeBox dX13_typeBox_157) rfl).trans ?_
    exact rg_virtual (pc := 159) (dd bX13_typeBox dX13_typeBox_159) rfl rfl (by decide) (kc := 34) rfl s1.1 (as := [(1, 282), (0, x5)]) rfl ⟨Nat.le_of_ble_eq_true rfl, Nat.le_of_ble_eq_true rfl, Nat.le_of_ble_eq_true rfl, Nat.le_of_ble_eq_true rfl⟩
theorem rX13_typeBox_44 {x1 : Int} {x2 : Int} {x3 : Int} {x4 : Int} {x5 : Int} {x6 : Int} {x7 : Int} {y0 : Int} {h : vH} (s1 : shModel h) : vrun mX13_typeBox 44 [(1, 282), (0, x1), (0, x2), (0, x3), (0, x4), (0, x5), (0, x6), (0, x7), (9, 0), (9, 0)] [(0, y0)] h = if ¬ (y0 = 0) ∧ (¬ (x4 < 0) ∧ ¬ (39 < x4)) ∧ ¬ (fX13_isSign h x5 = 0) then vret vrun mX13_typeBox 96 [(1, 282), (0, x1), (0, x2), (0, x3), (0, x4), (0, x5), (0, x6), (0, x7), (0, (if ¬ (y0 = 0) then 1 else 0)), (0, (if ¬ (y0 = 0) ∧ (¬ (x4 < 0) ∧ ¬ (39 < x4)) ∧ ¬ (fX13_isSign h x5 = 0) then 1 else 0))] [] (vcl mX13_findsBox [(1, 282), (0, x1), (0, x2), (0, x3), (0, x4)] h) else if x6 = 0 then vret vrun mX13_typeBox 148 [(1, 282), (0, x1), (0, x2), (0, x3), (0, x4), (0, x5), (0, x6), (0, x7), (0, (if ¬ (y0 = 0) then 1 else 0)), (0, (if ¬ (y0 = 0) ∧ (¬ (x4 < 0) ∧ ¬ (39 < x4)) ∧ ¬ (fX13_isSign h x5 = 0) then 1 else 0))] [] (vcl mX13_isFine [(1, 282), (0, 1)] h) else if x7 = 0 then vret vrun mX13_typeBox 148 [(1, 282), (0, x1), (0, x2), (0, x3), (0, x4), (0, x5), (0, x6), (0, x7), (0, (if ¬ (y0 = 0) then 1 else 0)), (0, (if ¬ (y0 = 0) ∧ (¬ (x4 < 0) ∧ ¬ (39 < x4)) ∧ ¬ (fX13_isSign h x5 = 0) then 1 else 0))] [] (vcl mX13_isFine [(1, 282), (0, 2)] h) else if ¬ (y0 = 0) then if ¬ (y0 = 0) ∧ (¬ (x4 < 0) ∧ ¬ (39 < x4)) ∧ ¬ (fX13_isSign h x5 = 0) then vret vrun mX13_typeBox 137 [(1, 282), (0, x1), (0, x2), (0, x3), (0, x4), (0, x5), (0, x6), (0, x7), (0, (if ¬ (y0 = 0) then 1 else 0)), (0, (if ¬ (y0 = 0) ∧ (¬ (x4 < 0) ∧ ¬ (39 < x4)) ∧ ¬ (fX13_isSign h x5 = 0) then 1 else 0))] [(1, 282)] (vcl mX13_hasBoxRoom [(1, 282)] h) else vret vrun mX13_typeBox 148 [(1, 282), (0, x1), (0, x2), (0, x3), (0, x4), (0, x5), (0, x6), (0, x7), (0, (if ¬ (y0 = 0) then 1 else 0)), (0, (if ¬ (y0 = 0) ∧ (¬ (x4 < 0) ∧ ¬ (39 < x4)) ∧ ¬ (fX13_isSign h x5 = 0) then 1 else 0))] [] (vcl mX13_isFine [(1, 282), (0, 2)] h) else vret vrun mX13_typeBox 148 [(1, 282), (0, x1), (0, x2), (0, x3), (0, x4), (0, x5), (0, x6), (0, x7), (0, (if ¬ (y0 = 0) then 1 else 0)), (0, (if ¬ (y0 = 0) ∧ (¬ (x4 < 0) ∧ ¬ (39 < x4)) ∧ ¬ (fX13_isSign h x5 = 0) then 1 else 0))] [] (vcl mX13_isFine [(1, 282), (0, 1)] h) := by
  have e1 : vrun mX13_typeBox 44 [(1, 282), (0, x1), (0, x2), (0, x3), (0, x4), (0, x5), (0, x6), (0, x7), (9, 0), (9, 0)] [(0, y0)] h = vrun mX13_typeBox 52 [(1, 282), (0, x1), (0, x2), (0, x3), (0, x4), (0, x5), (0, x6), (0, x7), (9, 0), (9, 0)] [(0, (if ¬ (y0 = 0) then 1 else 0))] h := by
    refine (rn_if_eq (t := 51) (pc := 44) (dd bX13_typeBox dX13_typeBox_44) rfl).trans ?_
    by_cases c1 : y0 = 0
    · refine (if_pos c1).trans ?_
      refine (rn_iconst (pc := 51) (dd bX13_typeBox dX13_typeBox_51) (by decide)).trans ?_
      refine Eq.trans (b := vrun mX13_typeBox 52 [(1, 282), (0, x1), (0, x2), (0, x3), (0, x4), (0, x5), (0, x6), (0, x7), (9, 0), (9, 0)] [(0, 0)] h) rfl ?_
      simp only [c1, true_or, false_or, or_true, or_false, true_and, false_and, and_true, and_false, not_true_eq_false, not_false_eq_true, ne_eq, if_true, if_false, ↓reduceIte]
    · refine (if_neg c1).trans ?_
      refine (rn_iconst (pc := 47) (dd bX13_typeBox dX13_typeBox_47) (by decide)).trans ?_
      refine (rn_goto (t := 52) (pc := 48) (dd bX13_typeBox dX13_typeBox_48) rfl).trans ?_
      refine Eq.trans (b := vrun mX13_typeBox 52 [(1, 282), (0, x1), (0, x2), (0, x3), (0, x4), (0, x5), (0, x6), (0, x7), (9, 0), (9, 0)] [(0, 1)] h) rfl ?_
      simp only [c1, true_or, false_or, or_true, or_false, true_and, false_and, and_true, and_false, not_true_eq_false, not_false_eq_true, ne_eq, if_true, if_false, ↓reduceIte]
  refine e1.trans ?_
  refine (rn_istore (pc := 52) (dd bX13_typeBox dX13_typeBox_52) (Nat.le_of_ble_eq_true rfl) rfl).trans ?_
  refine (rn_iload (pc := 54) (dd bX13_typeBox dX13_typeBox_54) rfl).trans ?_
  have e4 : vrun mX13_typeBox 56 [(1, 282), (0, x1), (0, x2), (0, x3), (0, x4), (0, x5), (0, x6), (0, x7), (0, (if ¬ (y0 = 0) then 1 else 0)), (9, 0)] [(0, (if ¬ (y0 = 0) then 1 else 0))] h = vrun mX13_typeBox 83 [(1, 282), (0, x1), (0, x2), (0, x3), (0, x4), (0, x5), (0, x6), (0, x7), (0, (if ¬ (y0 = 0) then 1 else 0)), (9, 0)] [(0, (if ¬ (y0 = 0) ∧ (¬ (x4 < 0) ∧ ¬ (39 < x4)) ∧ ¬ (fX13_isSign h x5 = 0) then 1 else 0))] h := by
    refine (rg_beq (t := 82) (pc := 56) (dd bX13_typeBox dX13_typeBox_56) rfl).trans ?_
    by_cases c2 : ¬ (y0 = 0)
    · refine (if_pos c2).trans ?_
      refine (rn_iload (pc := 59) (dd bX13_typeBox dX13_typeBox_59) rfl).trans ?_
      refine (rn_iconst (pc := 61) (dd bX13_typeBox dX13_typeBox_61) (by decide)).trans ?_
      refine (rn_bipush (pc := 62) (dd bX13_typeBox dX13_typeBox_62) (by decide)).trans ?_
      refine (rg_static (pc := 64) (dd bX13_typeBox dX13_typeBox_64) rfl (by decide) (Nat.le_of_ble_eq_true rfl) (as := [(0, x4), (0, 0), (0, 39)]) rfl rfl ⟨Nat.le_of_ble_eq_true rfl, Nat.le_of_ble_eq_true rfl, Nat.le_of_ble_eq_true rfl, Nat.le_of_ble_eq_true rfl⟩).trans ?_
      refine (vret_v spX13_isIn).trans ?_
      have e3 : vrun mX13_typeBox 67 [(1, 282), (0, x1), (0, x2), (0, x3), (0, x4), (0, x5), (0, x6), (0, x7), (0, (if ¬ (y0 = 0) then 1 else 0)), (9, 0)] [(0, (if ¬ (x4 < 0) ∧ ¬ (39 < x4) then 1 else 0))] h = vrun mX13_typeBox 83 [(1, 282), (0, x1), (0, x2), (0, x3), (0, x4), (0, x5), (0, x6), (0, x7), (0, (if ¬ (y0 = 0) then 1 else 0)), (9, 0)] [(0, (if (¬ (x4 < 0) ∧ ¬ (39 < x4)) ∧ ¬ (fX13_isSign h x5 = 0) then 1 else 0))] h := by
        refine (rg_beq (t := 82) (pc := 67) (dd bX13_typeBox dX13_typeBox_67) rfl).trans ?_
        by_cases c3 : ¬ (x4 < 0) ∧ ¬ (39 < x4)
        · refine (if_pos c3).trans ?_
          refine (rn_iload (pc := 70) (dd bX13_typeBox dX13_typeBox_70) rfl).trans ?_
          refine (rg_static (pc := 72) (dd bX13_typeBox dX13_typeBox_72) rfl (by decide) (Nat.le_of_ble_eq_true rfl) (as := [(0, x5)]) rfl rfl ⟨Nat.le_of_ble_eq_true rfl, Nat.le_of_ble_eq_true rfl, Nat.le_of_ble_eq_true rfl, Nat.le_of_ble_eq_true rfl⟩).trans ?_
          refine (vret_v spX13_isSign).trans ?_
          have e2 : vrun mX13_typeBox 75 [(1, 282), (0, x1), (0, x2), (0, x3), (0, x4), (0, x5), (0, x6), (0, x7), (0, (if ¬ (y0 = 0) then 1 else 0)), (9, 0)] [(0, fX13_isSign h x5)] h = vrun mX13_typeBox 83 [(1, 282), (0, x1), (0, x2), (0, x3), (0, x4), (0, x5), (0, x6), (0, x7), (0, (if ¬ (y0 = 0) then 1 else 0)), (9, 0)] [(0, (if ¬ (fX13_isSign h x5 = 0) then 1 else 0))] h := by
            refine (rn_if_eq (t := 82) (pc := 75) (dd bX13_typeBox dX13_typeBox_75) rfl).trans ?_
            by_cases c4 : fX13_isSign h x5 = 0
            · refine (if_pos c4).trans ?_
              refine (rn_iconst (pc := 82) (dd bX13_typeBox dX13_typeBox_82) (by decide)).trans ?_
              refine Eq.trans (b := vrun mX13_typeBox 83 [(1, 282), (0, x1), (0, x2), (0, x3), (0, x4), (0, x5), (0, x6), (0, x7), (0, (if ¬ (y0 = 0) then 1 else 0)), (9, 0)] [(0, 0)] h) rfl ?_
              simp only [c4, true_or, false_or, or_true, or_false, true_and, false_and, and_true, and_false, not_true_eq_false, not_false_eq_true, ne_eq, if_true, if_false, ↓reduceIte]
            · refine (if_neg c4).trans ?_
              refine (rn_iconst (pc := 78) (dd bX13_typeBox dX13_typeBox_78) (by decide)).trans ?_
              refine (rn_goto (t := 83) (pc := 79) (dd bX13_typeBox dX13_typeBox_79) rfl).trans ?_
              refine Eq.trans (b := vrun mX13_typeBox 83 [(1, 282), (0, x1), (0, x2), (0, x3), (0, x4), (0, x5), (0, x6), (0, x7), (0, (if ¬ (y0 = 0) then 1 else 0)), (9, 0)] [(0, 1)] h) rfl ?_
              simp only [c4, true_or, false_or, or_true, or_false, true_and, false_and, and_true, and_false, not_true_eq_false, not_false_eq_true, ne_eq, if_true, if_false, ↓reduceIte]
          refine e2.trans ?_
          refine Eq.trans (b := vrun mX13_typeBox 83 [(1, 282), (0, x1), (0, x2), (0, x3), (0, x4), (0, x5), (0, x6), (0, x7), (0, (if ¬ (y0 = 0) then 1 else 0)), (9, 0)] [(0, (if ¬ (fX13_isSign h x5 = 0) then 1 else 0))] h) rfl ?_
          simp only [c3, true_or, false_or, or_true, or_false, true_and, false_and, and_true, and_false, not_true_eq_false, not_false_eq_true, ne_eq, if_true, if_false, ↓reduceIte]
        · refine (if_neg c3).trans ?_
          refine (rn_iconst (pc := 82) (dd bX13_typeBox dX13_typeBox_82) (by decide)).trans ?_
          refine Eq.trans (b := vrun mX13_typeBox 83 [(1, 282), (0, x1), (0, x2), (0, x3), (0, x4), (0, x5), (0, x6), (0, x7), (0, (if ¬ (y0 = 0) then 1 else 0)), (9, 0)] [(0, 0)] h) rfl ?_
          simp only [c3, true_or, false_or, or_true, or_false, true_and, false_and, and_true, and_false, not_true_eq_false, not_false_eq_true, ne_eq, if_true, if_false, ↓reduceIte]
      refine e3.trans ?_
      refine Eq.trans (b := vrun mX13_typeBox 83 [(1, 282), (0, x1), (0, x2), (0, x3), (0, x4), (0, x5), (0, x6), (0, x7), (0, (if ¬ (y0 = 0) then 1 else 0)), (9, 0)] [(0, (if (¬ (x4 < 0) ∧ ¬ (39 < x4)) ∧ ¬ (fX13_isSign h x5 = 0) then 1 else 0))] h) rfl ?_
      simp only [c2, true_or, false_or, or_true, or_false, true_and, false_and, and_true, and_false, not_true_eq_false, not_false_eq_true, ne_eq, if_true, if_false, ↓reduceIte]
    · refine (if_neg c2).trans ?_
      refine (rn_iconst (pc := 82) (dd bX13_typeBox dX13_typeBox_82) (by decide)).trans ?_
      refine Eq.trans (b := vrun mX13_typeBox 83 [(1, 282), (0, x1), (0, x2), (0, x3), (0, x4), (0, x5), (0, x6), (0, x7), (0, (if ¬ (y0 = 0) then 1 else 0)), (9, 0)] [(0, 0)] h) rfl ?_
      simp only [c2, true_or, false_or, or_true, or_false, true_and, false_and, and_true, and_false, not_true_eq_false, not_false_eq_true, ne_eq, if_true, if_false, ↓reduceIte]
  refine e4.trans ?_
  refine (rn_istore (pc := 83) (dd bX13_typeBox dX13_typeBox_83) (Nat.le_of_ble_eq_true rfl) rfl).trans ?_
  refine (rn_iload (pc := 85) (dd bX13_typeBox dX13_typeBox_85) rfl).trans ?_
  refine (rg_beq (t := 99) (pc := 87) (dd bX13_typeBox dX13_typeBox_87) rfl).trans (itec (fun c5 => ?_) (fun c5 => ?_))
  · refine (rn_aload_n (pc := 90) (dd bX13_typeBox dX13_typeBox_90) rfl).trans ?_
    refine (rn_iload_n (pc := 91) (dd bX13_typeBox dX13_typeBox_91) rfl).trans ?_
    refine (rn_iload_n (pc := 92) (dd bX13_typeBox dX13_typeBox_92) rfl).trans ?_
    refine (rn_iload_n (pc := 93) (dd bX13_typeBox dX13_typeBox_93) rfl).trans ?_
    refine (rn_iload (pc := 94) (dd bX13_typeBox dX13_typeBox_94) rfl).trans ?_
    exact rg_virtual (pc := 96) (dd bX13_typeBox dX13_typeBox_96) rfl rfl (by decide) (kc := 34) rfl s1.1 (as := [(1, 282), (0, x1), (0, x2), (0, x3), (0, x4)]) rfl ⟨Nat.le_of_ble_eq_true rfl, Nat.le_of_ble_eq_true rfl, Nat.le_of_ble_eq_true rfl, Nat.le_of_ble_eq_true rfl⟩
  · refine (rn_aload_n (pc := 99) (dd bX13_typeBox dX13_typeBox_99) rfl).trans ?_
    refine (rn_iload (pc := 100) (dd bX13_typeBox dX13_typeBox_100) rfl).trans ?_
    refine (rg_if_ne (t := 109) (pc := 102) (dd bX13_typeBox dX13_typeBox_102) rfl).trans (itec (fun c6 => ?_) (fun c6 => ?_))
    · refine (rn_iconst (pc := 105) (dd bX13_typeBox dX13_typeBox_105) (by decide)).trans ?_
      refine (rn_goto (t := 148) (pc := 106) (dd bX13_typeBox dX13_typeBox_106) rfl).trans ?_
      exact rg_virtual (pc := 148) (dd bX13_typeBox dX13_typeBox_148) rfl rfl (by decide) (kc := 34) rfl s1.1 (as := [(1, 282), (0, 1)]) rfl ⟨Nat.le_of_ble_eq_true rfl, Nat.le_of_ble_eq_true rfl, Nat.le_of_ble_eq_true rfl, Nat.le_of_ble_eq_true rfl⟩
    · refine (rn_iload (pc := 109) (dd bX13_typeBox dX13_typeBox_109) rfl).trans ?_
      refine (rg_if_ne (t := 118) (pc := 111) (dd bX13_typeBox dX13_typeBox_111) rfl).trans (itec (fun c7 => ?_) (fun c7 => ?_))
      · refine (rn_iconst (pc := 114) (dd bX13_typeBox dX13_typeBox_114) (by decide)).trans ?_
        refine (rn_goto (t := 148) (pc := 115) (dd bX13_typeBox dX13_typeBox_115) rfl).trans ?_
        exact rg_virtual (pc := 148) (dd bX13_typeBox dX13_typeBox_148) rfl rfl (by decide) (kc := 34) rfl s1.1 (as := [(1, 282), (0, 2)]) rfl ⟨Nat.le_of_ble_eq_true rfl, Nat.le_of_ble_eq_true rfl, Nat.le_of_ble_eq_true rfl, Nat.le_of_ble_eq_true rfl⟩
      · refine (rn_iload (pc := 118) (dd bX13_typeBox dX13_typeBox_118) rfl).trans ?_
        refine (rg_bne (t := 127) (pc := 120) (dd bX13_typeBox dX13_typeBox_120) rfl).trans (itec (fun c8 => ?_) (fun c8 => ?_))
        · refine (rn_iload (pc := 127) (dd bX13_typeBox dX13_typeBox_127) rfl).trans ?_
          refine (rg_bne (t := 136) (pc := 129) (dd bX13_typeBox dX13_typeBox_129) rfl).trans (itec (fun c9 => ?_) (fun c9 => ?_))
          · refine (rn_aload_n (pc := 136) (dd bX13_typeBox dX13_typeBox_136) rfl).trans ?_
            exact rg_virtual (pc := 137) (dd bX13_typeBox dX13_typeBox_137) rfl rfl (by decide) (kc := 34) rfl s1.1 (as := [(1, 282)]) rfl ⟨Nat.le_of_ble_eq_true rfl, Nat.le_of_ble_eq_true rfl, Nat.le_of_ble_eq_true rfl, Nat.le_of_ble_eq_true rfl⟩
          · refine (rn_iconst (pc := 132) (dd bX13_typeBox dX13_typeBox_132) (by decide)).trans ?_
            refine (rn_goto (t := 148) (pc := 133) (dd bX13_typeBox dX13_typeBox_133) rfl).trans ?_
            exact rg_virtual (pc := 148) (dd bX13_typeBox dX13_typeBox_148) rfl rfl (by decide) (kc := 34) rfl s1.1 (as := [(1, 282), (0, 2)]) rfl ⟨Nat.le_of_ble_eq_true rfl, Nat.le_of_ble_eq_true rfl, Nat.le_of_ble_eq_true rfl, Nat.le_of_ble_eq_true rfl⟩
        · refine (rn_iconst (pc := 123) (dd bX13_typeBox dX13_typeBox_123) (by decide)).trans ?_
          refine (rn_goto (t := 148) (pc := 124) (dd bX13_typeBox dX13_typeBox_124) rfl).trans ?_
          exact rg_virtual (pc := 148) (dd bX13_typeBox dX13_typeBox_148) rfl rfl (by decide) (kc := 34) rfl s1.1 (as := [(1, 282), (0, 1)]) rfl ⟨Nat.le_of_ble_eq_true rfl, Nat.le_of_ble_eq_true rfl, Nat.le_of_ble_eq_true rfl, Nat.le_of_ble_eq_true rfl⟩
theorem rX13_typeBox_162 {x1 : Int} {x2 : Int} {x3 : Int} {x4 : Int} {x5 : Int} {x6 : Int} {x7 : Int} {x8 : Int} {x9 : Int} {h : vH} (s1 : shModel h) : vrun mX13_typeBox 162 [(1, 282), (0, x1), (0, x2), (0, x3), (0, x4), (0, x5), (0, x6), (0, x7), (0, x8), (0, x9)] [] h = some (.inl (some (0, h 1562 282 0)), h) := by
  refine (rn_aload_n (pc := 162) (dd bX13_typeBox dX13_typeBox_162) rfl).trans ?_
  refine (rg_gf (pc := 163) (dd bX13_typeBox dX13_typeBox_163) (ci := 14) (j := 62) rfl rfl (key := 1562) rfl (kc := 34) rfl s1.1 rfl).trans ?_
  exact rn_ireturn (pc := 166) (dd bX13_typeBox dX13_typeBox_166) (Or.inl rfl)
theorem rX13_typeBox_99 {x1 : Int} {x2 : Int} {x3 : Int} {x4 : Int} {x5 : Int} {x6 : Int} {x7 : Int} {x8 : Int} {x9 : Int} {h : vH} (s1 : shModel h) : vrun mX13_typeBox 99 [(1, 282), (0, x1), (0, x2), (0, x3), (0, x4), (0, x5), (0, x6), (0, x7), (0, x8), (0, x9)] [] h = if x6 = 0 then vret vrun mX13_typeBox 148 [(1, 282), (0, x1), (0, x2), (0, x3), (0, x4), (0, x5), (0, x6), (0, x7), (0, x8), (0, x9)] [] (vcl mX13_isFine [(1, 282), (0, 1)] h) else if x7 = 0 then vret vrun mX13_typeBox 148 [(1, 282), (0, x1), (0, x2), (0, x3), (0, x4), (0, x5), (0, x6), (0, x7), (0, x8), (0, x9)] [] (vcl mX13_isFine [(1, 282), (0, 2)] h) else if x8 = 0 then vret vrun mX13_typeBox 148 [(1, 282), (0, x1), (0, x2), (0, x3), (0, x4), (0, x5), (0, x6), (0, x7), (0, x8), (0, x9)] [] (vcl mX13_isFine [(1, 282), (0, 1)] h) else if x9 = 0 then vret vrun mX13_typeBox 148 [(1, 282), (0, x1), (0, x2), (0, x3), (0, x4), (0, x5), (0, x6), (0, x7), (0, x8), (0, x9)] [] (vcl mX13_isFine [(1, 282), (0, 2)] h) else vret vrun mX13_typeBox 137 [(1, 282), (0, x1), (0, x2), (0, x3), (0, x4), (0, x5), (0, x6), (0, x7), (0, x8), (0, x9)] [(1, 282)] (vcl mX13_hasBoxRoom [(1, 282)] h) := by
  refine (rn_aload_n (pc := 99) (dd bX13_typeBox dX13_typeBox_99) rfl).trans ?_
  refine (rn_iload (pc := 100) (dd bX13_typeBox dX13_typeBox_100) rfl).trans ?_
  refine (rg_if_ne (t := 109) (pc := 102) (dd bX13_typeBox dX13_typeBox_102) rfl).trans (itec (fun c1 => ?_) (fun c1 => ?_))
  · refine (rn_iconst (pc := 105) (dd bX13_typeBox dX13_typeBox_105) (by decide)).trans ?_
    refine (rn_goto (t := 148) (pc := 106) (dd bX13_typeBox dX13_typeBox_106) rfl).trans ?_
    exact rg_virtual (pc := 148) (dd bX13_typeBox dX13_typeBox_148) rfl rfl (by decide) (kc := 34) rfl s1.1 (as := [(1, 282), (0, 1)]) rfl ⟨Nat.le_of_ble_eq_true rfl, Nat.le_of_ble_eq_true rfl, Nat.le_of_ble_eq_true rfl, Nat.le_of_ble_eq_true rfl⟩
  · refine (rn_iload (pc := 109) (dd bX13_typeBox dX13_typeBox_109) rfl).trans ?_
    refine (rg_if_ne (t := 118) (pc := 111) (dd bX13_typeBox dX13_typeBox_111) rfl).trans (itec (fun c2 => ?_) (fun c2 => ?_))
    · refine (rn_iconst (pc := 114) (dd bX13_typeBox dX13_typeBox_114) (by decide)).trans ?_
      refine (rn_goto (t := 148) (pc := 115) (dd bX13_typeBox dX13_typeBox_115) rfl).trans ?_
      exact rg_virtual (pc := 148) (dd bX13_typeBox dX13_typeBox_148) rfl rfl (by decide) (kc := 34) rfl s1.1 (as := [(1, 282), (0, 2)]) rfl ⟨Nat.le_of_ble_eq_true rfl, Nat.le_of_ble_eq_true rfl, Nat.le_of_ble_eq_true rfl, Nat.le_of_ble_eq_true rfl⟩
    · refine (rn_iload (pc := 118) (dd bX13_typeBox dX13_typeBox_118) rfl).trans ?_
      refine (rg_if_ne (t := 127) (pc := 120) (dd bX13_typeBox dX13_typeBox_120) rfl).trans (itec (fun c3 => ?_) (fun c3 => ?_))
      · refine (rn_iconst (pc := 123) (dd bX13_typeBox dX13_typeBox_123) (by decide)).trans ?_
        refine (rn_goto (t := 148) (pc := 124) (dd bX13_typeBox dX13_typeBox_124) rfl).trans ?_
        exact rg_virtual (pc := 148) (dd bX13_typeBox dX13_typeBox_148) rfl rfl (by decide) (kc := 34) rfl s1.1 (as := [(1, 282), (0, 1)]) rfl ⟨Nat.le_of_ble_eq_true rfl, Nat.le_of_ble_eq_true rfl, Nat.le_of_ble_eq_true rfl, Nat.le_of_ble_eq_true rfl⟩
      · refine (rn_iload (pc := 127) (dd bX13_typeBox dX13_typeBox_127) rfl).trans ?_
        refine (rg_if_ne (t := 136) (pc := 129) (dd bX13_typeBox dX13_typeBox_129) rfl).trans (itec (fun c4 => ?_) (fun c4 => ?_))
        · refine (rn_iconst (pc := 132) (dd bX13_typeBox dX13_typeBox_132) (by decide)).trans ?_
          refine (rn_goto (t := 148) (pc := 133) (dd bX13_typeBox dX13_typeBox_133) rfl).trans ?_
          exact rg_virtual (pc := 148) (dd bX13_typeBox dX13_typeBox_148) rfl rfl (by decide) (kc := 34) rfl s1.1 (as := [(1, 282), (0, 2)]) rfl ⟨Nat.le_of_ble_eq_true rfl, Nat.le_of_ble_eq_true rfl, Nat.le_of_ble_eq_true rfl, Nat.le_of_ble_eq_true rfl⟩
        · refine (rn_aload_n (pc := 136) (dd bX13_typeBox dX13_typeBox_136) rfl).trans ?_
          exact rg_virtual (pc := 137) (dd bX13_typeBox dX13_typeBox_137) rfl rfl (by decide) (kc := 34) rfl s1.1 (as := [(1, 282)]) rfl ⟨Nat.le_of_ble_eq_true rfl, Nat.le_of_ble_eq_true rfl, Nat.le_of_ble_eq_true rfl, Nat.le_of_ble_eq_true rfl⟩
theorem rX13_typeBox_140 {x1 : Int} {x2 : Int} {x3 : Int} {x4 : Int} {x5 : Int} {x6 : Int} {x7 : Int} {x8 : Int} {x9 : Int} {y0 : Int} {h : vH} (s1 : shModel h) : vrun mX13_typeBox 140 [(1, 282), (0, x1), (0, x2), (0, x3), (0, x4), (0, x5), (0, x6), (0, x7), (0, x8), (0, x9)] [(0, y0), (1, 282)] h = vret vrun mX13_typeBox 148 [(1, 282), (0, x1), (0, x2), (0, x3), (0, x4), (0, x5), (0, x6), (0, x7), (0, x8), (0, x9)] [] (vcl mX13_isFine [(1, 282), (0, (if y0 = 0 then 3 else 0))] h) := by
  have e1 : vrun mX13_typeBox 140 [(1, 282), (0, x1), (0, x2), (0, x3), (0, x4), (0, x5), (0, x6), (0, x7), (0, x8), (0, x9)] [(0, y0), (1, 282)] h = vrun mX13_typeBox 148 [(1, 282), (0, x1), (0, x2), (0, x3), (0, x4), (0, x5), (0, x6), (0, x7), (0, x8), (0, x9)] [(0, (if y0 = 0 then 3 else 0)), (1, 282)] h := by
    refine (rg_if_ne (t := 147) (pc := 140) (dd bX13_typeBox dX13_typeBox_140) rfl).trans ?_
    by_cases c1 : y0 = 0
    · refine (if_pos c1).trans ?_
      refine (rn_iconst (pc := 143) (dd bX13_typeBox dX13_typeBox_143) (by decide)).trans ?_
      refine (rn_goto (t := 148) (pc := 144) (dd bX13_typeBox dX13_typeBox_144) rfl).trans ?_
      refine Eq.trans (b := vrun mX13_typeBox 148 [(1, 282), (0, x1), (0, x2), (0, x3), (0, x4), (0, x5), (0, x6), (0, x7), (0, x8), (0, x9)] [(0, 3), (1, 282)] h) rfl ?_
      simp only [if_pos c1]
    · refine (if_neg c1).trans ?_
      refine (rn_iconst (pc := 147) (dd bX13_typeBox dX13_typeBox_147) (by decide)).trans ?_
      refine Eq.trans (b := vrun mX13_typeBox 148 [(1, 282), (0, x1), (0, x2), (0, x3), (0, x4), (0, x5), (0, x6), (0, x7), (0, x8), (0, x9)] [(0, 0), (1, 282)] h) rfl ?_
      simp only [if_neg c1]
  refine e1.trans ?_
  exact rg_virtual (pc := 148) (dd bX13_typeBox dX13_typeBox_148) rfl rfl (by decide) (kc := 34) rfl s1.1 (as := [(1, 282), (0, (if y0 = 0 then 3 else 0))]) rfl ⟨Nat.le_of_ble_eq_true rfl, Nat.le_of_ble_eq_true rfl, Nat.le_of_ble_eq_true rfl, Nat.le_of_ble_eq_true rfl⟩
theorem bX13_tellsRows : vmB mX13_tellsRows = cX13_tellsRows := rfl
theorem rX13_tellsRows_0 {x1 : Int} {h : vH} (s1 : shModel h) : vrun mX13_tellsRows 0 [(1, 282), (0, x1), (9, 0), (9, 0), (9, 0), (9, 0), (9, 0), (9, 0), (9, 0)] [] h = vret vrun mX13_tellsRows 2 [(1, 282), (0, x1), (9, 0), (9, 0), (9, 0), (9, 0), (9, 0), (9, 0), (9, 0)] [] (vcl mX13_topRow [(1, 282), (0, x1)] h) := by
  refine (rn_aload_n (pc := 0) (dd bX13_tellsRows dX13_tellsRows_0) rfl).trans ?_
  refine (rn_iload_n (pc := 1) (dd bX13_tellsRows dX13_tellsRows_1) rfl).trans ?_
  exact rg_virtual (pc := 2) (dd bX13_tellsRows dX13_tellsRows_2) rfl rfl (by decide) (kc := 34) rfl s1.1 (as := [(1, 282), (0, x1)]) rfl ⟨Nat.le_of_ble_eq_true rfl, Nat.le_of_ble_eq_true rfl, Nat.le_of_ble_eq_true rfl, Nat.le_of_ble_eq_true rfl⟩
theorem rX13_tellsRows_5 {x1 : Int} {y0 : Int} {h : vH} (s1 : shModel h) : vrun mX13_tellsRows 5 [(1, 282), (0, x1), (9, 0), (9, 0), (9, 0), (9, 0), (9, 0), (9, 0), (9, 0)] [(0, y0)] h = vret vrun mX13_tellsRows 12 [(1, 282), (0, x1), (0, y0), (9, 0), (9, 0), (9, 0), (9, 0), (9, 0), (9, 0)] [] (vcl mX13_rowsAhead [(1, 282), (0, x1), (0, h 1504 282 0)] h) := by
  refine (rn_istore_n (pc := 5) (dd bX13_tellsRows dX13_tellsRows_5) (Nat.le_of_ble_eq_true rfl) rfl).trans ?_
  refine (rn_aload_n (pc := 6) (dd bX13_tellsRows dX13_tellsRows_6) rfl).trans ?_
  refine (rn_iload_n (pc := 7) (dd bX13_tellsRows dX13_tellsRows_7) rfl).trans ?_
  refine (rn_aload_n (pc := 8) (dd bX13_tellsRows dX13_tellsRows_8) rfl).trans ?_
  refine (rg_gf (pc := 9) (dd bX13_tellsRows dX13_tellsRows_9) (ci := 14) (j := 4) rfl rfl (key := 1504) rfl (kc := 34) rfl s1.1 rfl).trans ?_
  exact rg_virtual (pc := 12) (dd bX13_tellsRows dX13_tellsRows_12) rfl rfl (by decide) (kc := 34) rfl s1.1 (as := [(1, 282), (0, x1), (0, h 1504 282 0)]) rfl ⟨Nat.le_of_ble_eq_true rfl, Nat.le_of_ble_eq_true rfl, Nat.le_of_ble_eq_true rfl, Nat.le_of_ble_eq_true rfl⟩
theorem rX13_tellsRows_15 {x1 : Int} {x2 : Int} {y0 : Int} {h : vH} : vrun mX13_tellsRows 15 [(1, 282), (0, x1), (0, x2), (9, 0), (9, 0), (9, 0), (9, 0), (9, 0), (9, 0)] [(0, y0)] h = vrun mX13_tellsRows 19 [(1, 282), (0, x1), (0, x2), (0, y0), (0, 0), (9, 0), (9, 0), (9, 0), (9, 0)] [] h := by
  refine (rn_istore_n (pc := 15) (dd bX13_tellsRows dX13_tellsRows_15) (Nat.le_of_ble_eq_true rfl) rfl).trans ?_
  refine (rn_iconst (pc := 16) (dd bX13_tellsRows dX13_tellsRows_16) (by decide)).trans ?_
  refine (rn_istore (pc := 17) (dd bX13_tellsRows dX13_tellsRows_17) (Nat.le_of_ble_eq_true rfl) rfl).trans ?_
  rfl
theorem rX13_tellsRows_19 {x1 : Int} {x2 : Int} {x3 : Int} {x4 : Int} {v5 : vv} {v6 : vv} {v7 : vv} {v8 : vv} {h : vH} (s1 : shModel h) (p2 : 0 ≤ x1) (p3 : x1 < 4) (p4 : ¬ (h 2 310 x1 ≤ x4) → 0 ≤ x4) (p5 : ¬ (h 2 310 x1 ≤ x4) → x4 < 24) (p6 : ¬ (h 2 310 x1 ≤ x4) → (-2147483648) ≤ x2 + x4) (p7 : ¬ (h 2 310 x1 ≤ x4) → x2 + x4 < 2147483648) : vrun mX13_tellsRows 19 [(1, 282), (0, x1), (0, x2), (0, x3), (0, x4), v5, v6, v7, v8] [] h = if h 2 310 x1 ≤ x4 then some (.inl none, h) else if x3 ≤ x2 + x4 then vrun mX13_tellsRows 19 [(1, 282), (0, x1), (0, x2), (0, x3), (0, x4 + 1), v5, v6, v7, v8] [] (vup (vup h 2 332 x4 (-1)) 2 333 x4 0) else vret vrun mX13_tellsRows 60 [(1, 282), (0, x1), (0, x2), (0, x3), (0, x4), v5, v6, v7, v8] [] (vcl mX13_laysRow [(1, 282), (0, x1), (0, x2 + x4)] (vup (vup h 2 332 x4 (-1)) 2 333 x4 0)) := by
  refine (rn_iload (pc := 19) (dd bX13_tellsRows dX13_tellsRows_19) rfl).trans ?_
  refine (rn_aload_n (pc := 21) (dd bX13_tellsRows dX13_tellsRows_21) rfl).trans ?_
  refine (rg_gf (pc := 22) (dd bX13_tellsRows dX13_tellsRows_22) (ci := 14) (j := 29) rfl rfl (key := 1529) rfl (kc := 34) rfl s1.1 s1.2.2.2.2.2.2.2.2.2.2.2.2.2.2.2.2.2.2.2.2.2.2.2.2.2.2.2.2.2.2.2.2.2.2.2.2.2.2.2.2.2.2.2.2.2.2.2.2.2.2.2.2.2.2.2.2.2.2.2.2.2.2.2.2.2.2.2.2.2.2.2.2.2.2.2.2.2.2.2.2.2.2.1).trans ?_
  refine (rn_iload_n (pc := 25) (dd bX13_tellsRows dX13_tellsRows_25) rfl).trans ?_
  refine (rg_iaload (pc := 26) (dd bX13_tellsRows dX13_tellsRows_26) s1.2.2.2.2.2.2.2.2.2.2.2.2.2.2.2.2.2.2.2.2.2.2.2.2.2.2.2.2.2.2.2.2.2.2.2.2.2.2.2.2.2.2.2.2.2.2.2.2.2.2.2.2.2.2.2.2.2.2.2.2.2.2.2.2.2.2.2.2.2.2.2.2.2.2.2.2.2.2.2.2.2.2.2.1 s1.2.2.2.2.2.2.2.2.2.2.2.2.2.2.2.2.2.2.2.2.2.2.2.2.2.2.2.2.2.2.2.2.2.2.2.2.2.2.2.2.2.2.2.2.2.2.2.2.2.2.2.2.2.2.2.2.2.2.2.2.2.2.2.2.2.2.2.2.2.2.2.2.2.2.2.2.2.2.2.2.2.2.2.2.1 p2 p3 rfl).trans ?_
  refine (rn_icmp_ge (t := 216) (pc := 27) (dd bX13_tellsRows dX13_tellsRows_27) rfl).trans (itec (fun c1 => ?_) (fun c1 => ?_))
  · exact rn_return (pc := 216) (dd bX13_tellsRows dX13_tellsRows_216) rfl
  · refine (rn_aload_n (pc := 30) (dd bX13_tellsRows dX13_tellsRows_30) rfl).trans ?_
    refine (rg_gf (pc := 31) (dd bX13_tellsRows dX13_tellsRows_31) (ci := 14) (j := 55) rfl rfl (key := 1555) rfl (kc := 34) rfl s1.1 s1.2.2.2.2.2.2.2.2.2.2.2.2.2.2.2.2.2.2.2.2.2.2.2.2.2.2.2.2.2.2.2.2.2.2.2.2.2.2.2.2.2.2.2.2.2.2.2.2.2.2.2.2.2.2.2.2.2.2.2.2.2.2.2.2.2.2.2.2.2.2.2.2.2.2.2.2.2.2.2.2.2.2.2.2.2.2.2.2.2.2.2.2.2.2.2.2.2.2.2.2.2.2.2.2.2.2.2.2.2.2.2.2.2.2.2.2.2.2.2.2.2.2.2.2.2.2.2.2.2.2.2.2.2.2.2.2.2.2.2.2.2.2.2.2.2.2.2.2.1).trans ?_
    refine (rn_iload (pc := 34) (dd bX13_tellsRows dX13_tellsRows_34) rfl).trans ?_
    refine (rn_iconst (pc := 36) (dd bX13_tellsRows dX13_tellsRows_36) (by decide)).trans ?_
    refine (rg_iastore (pc := 37) (dd bX13_tellsRows dX13_tellsRows_37) s1.2.2.2.2.2.2.2.2.2.2.2.2.2.2.2.2.2.2.2.2.2.2.2.2.2.2.2.2.2.2.2.2.2.2.2.2.2.2.2.2.2.2.2.2.2.2.2.2.2.2.2.2.2.2.2.2.2.2.2.2.2.2.2.2.2.2.2.2.2.2.2.2.2.2.2.2.2.2.2.2.2.2.2.2.2.2.2.2.2.2.2.2.2.2.2.2.2.2.2.2.2.2.2.2.2.2.2.2.2.2.2.2.2.2.2.2.2.2.2.2.2.2.2.2.2.2.2.2.2.2.2.2.2.2.2.2.2.2.2.2.2.2.2.2.2.2.2.2.2.1 s1.2.2.2.2.2.2.2.2.2.2.2.2.2.2.2.2.2.2.2.2.2.2.2.2.2.2.2.2.2.2.2.2.2.2.2.2.2.2.2.2.2.2.2.2.2.2.2.2.2.2.2.2.2.2.2.2.2.2.2.2.2.2.2.2.2.2.2.2.2.2.2.2.2.2.2.2.2.2.2.2.2.2.2.2.2.2.2.2.2.2.2.2.2.2.2.2.2.2.2.2.2.2.2.2.2.2.2.2.2.2.2.2.2.2.2.2.2.2.2.2.2.2.2.2.2.2.2.2.2.2.2.2.2.2.2.2.2.2.2.2.2.2.2.2.2.2.2.2.2.2.1 (p4 c1) (p5 c1)).trans ?_
    refine (rn_aload_n (pc := 38) (dd bX13_tellsRows dX13_tellsRows_38) rfl).trans ?_
    refine (rg_gf (pc := 39) (dd bX13_tellsRows dX13_tellsRows_39) (ci := 14) (j := 56) rfl rfl (key := 1556) rfl (kc := 34) rfl ((vup_k (by decide)).trans s1.1) ((vup_k (by decide)).trans s1.2.2.2.2.2.2.2.2.2.2.2.2.2.2.2.2.2.2.2.2.2.2.2.2.2.2.2.2.2.2.2.2.2.2.2.2.2.2.2.2.2.2.2.2.2.2.2.2.2.2.2.2.2.2.2.2.2.2.2.2.2.2.2.2.2.2.2.2.2.2.2.2.2.2.2.2.2.2.2.2.2.2.2.2.2.2.2.2.2.2.2.2.2.2.2.2.2.2.2.2.2.2.2.2.2.2.2.2.2.2.2.2.2.2.2.2.2.2.2.2.2.2.2.2.2.2.2.2.2.2.2.2.2.2.2.2.2.2.2.2.2.2.2.2.2.2.2.2.2.2.2.1)).trans ?_
    refine (rn_iload (pc := 42) (dd bX13_tellsRows dX13_tellsRows_42) rfl).trans ?_
    refine (rn_iconst (pc := 44) (dd bX13_tellsRows dX13_tellsRows_44) (by decide)).trans ?_
    refine (rg_iastore (pc := 45) (dd bX13_tellsRows dX13_tellsRows_45) ((vup_k (by decide)).trans s1.2.2.2.2.2.2.2.2.2.2.2.2.2.2.2.2.2.2.2.2.2.2.2.2.2.2.2.2.2.2.2.2.2.2.2.2.2.2.2.2.2.2.2.2.2.2.2.2.2.2.2.2.2.2.2.2.2.2.2.2.2.2.2.2.2.2.2.2.2.2.2.2.2.2.2.2.2.2.2.2.2.2.2.2.2.2.2.2.2.2.2.2.2.2.2.2.2.2.2.2.2.2.2.2.2.2.2.2.2.2.2.2.2.2.2.2.2.2.2.2.2.2.2.2.2.2.2.2.2.2.2.2.2.2.2.2.2.2.2.2.2.2.2.2.2.2.2.2.2.2.2.2.1) ((vup_k (by decide)).trans s1.2.2.2.2.2.2.2.2.2.2.2.2.2.2.2.2.2.2.2.2.2.2.2.2.2.2.2.2.2.2.2.2.2.2.2.2.2.2.2.2.2.2.2.2.2.2.2.2.2.2.2.2.2.2.2.2.2.2.2.2.2.2.2.2.2.2.2.2.2.2.2.2.2.2.2.2.2.2.2.2.2.2.2.2.2.2.2.2.2.2.2.2.2.2.2.2.2.2.2.2.2.2.2.2.2.2.2.2.2.2.2.2.2.2.2.2.2.2.2.2.2.2.2.2.2.2.2.2.2.2.2.2.2.2.2.2.2.2.2.2.2.2.2.2.2.2.2.2.2.2.2.2.2.1) (by have z0 := p4 c1; have z1 := p5 c1; omega) (by have z0 := p4 c1; have z1 := p5 c1; omega)).trans ?_
    refine (rn_iload_n (pc := 46) (dd bX13_tellsRows dX13_tellsRows_46) rfl).trans ?_
    refine (rn_iload (pc := 47) (dd bX13_tellsRows dX13_tellsRows_47) rfl).trans ?_
    refine (rg_iadd (pc := 49) (dd bX13_tellsRows dX13_tellsRows_49) (p6 c1) (p7 c1)).trans ?_
    refine (rn_iload_n (pc := 50) (dd bX13_tellsRows dX13_tellsRows_50) rfl).trans ?_
    refine (rn_icmp_ge (t := 210) (pc := 51) (dd bX13_tellsRows dX13_tellsRows_51) rfl).trans (itec (fun c2 => ?_) (fun c2 => ?_))
    · refine (rg_iinc (pc := 210) (dd bX13_tellsRows dX13_tellsRows_210) rfl (Nat.le_of_ble_eq_true rfl) (by have z0 := p4 c1; have z1 := p5 c1; omega) (by have z0 := p4 c1; have z1 := p5 c1; omega) rfl).trans ?_
      refine (rn_goto (t := 19) (pc := 213) (dd bX13_tellsRows dX13_tellsRows_213) rfl).trans ?_
      rfl
    · refine (rn_aload_n (pc := 54) (dd bX13_tellsRows dX13_tellsRows_54) rfl).trans ?_
      refine (rn_iload_n (pc := 55) (dd bX13_tellsRows dX13_tellsRows_55) rfl).trans ?_
      refine (rn_iload_n (pc := 56) (dd bX13_tellsRows dX13_tellsRows_56) rfl).trans ?_
      refine (rn_iload (pc := 57) (dd bX13_tellsRows dX13_tellsRows_57) rfl).trans ?_
      refine (rg_iadd (pc := 59) (dd bX13_tellsRows dX13_tellsRows_59) (by have z0 := p4 c1; have z1 := p5 c1; have z2 := p6 c1; have z3 := p7 c1; omega) (by have z0 := p4 c1; have z1 := p5 c1; have z2 := p6 c1; have z3 := p7 c1; omega)).trans ?_
      exact rg_virtual (pc := 60) (dd bX13_tellsRows dX13_tellsRows_60) rfl rfl (by decide) (kc := 34) rfl ((vup_k (by decide)).trans ((vup_k (by decide)).trans s1.1)) (as := [(1, 282), (0, x1), (0, x2 + x4)]) rfl ⟨Nat.le_of_ble_eq_true rfl, Nat.le_of_ble_eq_true rfl, Nat.le_of_ble_eq_true rfl, Nat.le_of_ble_eq_true rfl⟩
theorem rX13_tellsRows_63 {x1 : Int} {x2 : Int} {x3 : Int} {x4 : Int} {v5 : vv} {v6 : vv} {v7 : vv} {v8 : vv} {y0 : Int} {h : vH} (s1 : shModel h) (p2 : 0 ≤ y0) (p3 : y0 < 142) (p4 : y0 + 1 < 142) (p5 : (-2147483648) ≤ h 2 320 (y0 + 1) - h 2 320 y0) (p6 : h 2 320 (y0 + 1) - h 2 320 y0 < 2147483648) (p7 : 0 ≤ x4) (p8 : x4 < 24) : vrun mX13_tellsRows 63 [(1, 282), (0, x1), (0, x2), (0, x3), (0, x4), v5, v6, v7, v8] [(0, y0)] h = vrun mX13_tellsRows 96 [(1, 282), (0, x1), (0, x2), (0, x3), (0, x4), (0, y0), (0, h 2 320 y0), (0, 0), v8] [] (vup h 2 332 x4 (h 2 320 (y0 + 1) - h 2 320 y0)) := by
  refine (rn_istore (pc := 63) (dd bX13_tellsRows dX13_tellsRows_63) (Nat.le_of_ble_eq_true rfl) rfl).trans ?_
  refine (rn_aload_n (pc := 65) (dd bX13_tellsRows dX13_tellsRows_65) rfl).trans ?_
  refine (rg_gf (pc := 66) (dd bX13_tellsRows dX13_tellsRows_66) (ci := 14) (j := 39) rfl rfl (key := 1539) rfl (kc := 34) rfl s1.1 s1.2.2.2.2.2.2.2.2.2.2.2.2.2.2.2.2.2.2.2.2.2.2.2.2.2.2.2.2.2.2.2.2.2.2.2.2.2.2.2.2.2.2.2.2.2.2.2.2.2.2.2.2.2.2.2.2.2.2.2.2.2.2.2.2.2.2.2.2.2.2.2.2.2.2.2.2.2.2.2.2.2.2.2.2.2.2.2.2.2.2.2.2.2.2.2.2.2.2.2.2.2.2.2.2.2.2.2.2.2.2.2.2.1).trans ?_
  refine (rn_iload (pc := 69) (dd bX13_tellsRows dX13_tellsRows_69) rfl).trans ?_
  refine (rg_iaload (pc := 71) (dd bX13_tellsRows dX13_tellsRows_71) s1.2.2.2.2.2.2.2.2.2.2.2.2.2.2.2.2.2.2.2.2.2.2.2.2.2.2.2.2.2.2.2.2.2.2.2.2.2.2.2.2.2.2.2.2.2.2.2.2.2.2.2.2.2.2.2.2.2.2.2.2.2.2.2.2.2.2.2.2.2.2.2.2.2.2.2.2.2.2.2.2.2.2.2.2.2.2.2.2.2.2.2.2.2.2.2.2.2.2.2.2.2.2.2.2.2.2.2.2.2.2.2.2.2.1 s1.2.2.2.2.2.2.2.2.2.2.2.2.2.2.2.2.2.2.2.2.2.2.2.2.2.2.2.2.2.2.2.2.2.2.2.2.2.2.2.2.2.2.2.2.2.2.2.2.2.2.2.2.2.2.2.2.2.2.2.2.2.2.2.2.2.2.2.2.2.2.2.2.2.2.2.2.2.2.2.2.2.2.2.2.2.2.2.2.2.2.2.2.2.2.2.2.2.2.2.2.2.2.2.2.2.2.2.2.2.2.2.2.2.2.1 p2 p3 rfl).trans ?_
  refine (rn_istore (pc := 72) (dd bX13_tellsRows dX13_tellsRows_72) (Nat.le_of_ble_eq_true rfl) rfl).trans ?_
  refine (rn_aload_n (pc := 74) (dd bX13_tellsRows dX13_tellsRows_74) rfl).trans ?_
  refine (rg_gf (pc := 75) (dd bX13_tellsRows dX13_tellsRows_75) (ci := 14) (j := 55) rfl rfl (key := 1555) rfl (kc := 34) rfl s1.1 s1.2.2.2.2.2.2.2.2.2.2.2.2.2.2.2.2.2.2.2.2.2.2.2.2.2.2.2.2.2.2.2.2.2.2.2.2.2.2.2.2.2.2.2.2.2.2.2.2.2.2.2.2.2.2.2.2.2.2.2.2.2.2.2.2.2.2.2.2.2.2.2.2.2.2.2.2.2.2.2.2.2.2.2.2.2.2.2.2.2.2.2.2.2.2.2.2.2.2.2.2.2.2.2.2.2.2.2.2.2.2.2.2.2.2.2.2.2.2.2.2.2.2.2.2.2.2.2.2.2.2.2.2.2.2.2.2.2.2.2.2.2.2.2.2.2.2.2.2.1).trans ?_
  refine (rn_iload (pc := 78) (dd bX13_tellsRows dX13_tellsRows_78) rfl).trans ?_
  refine (rn_aload_n (pc := 80) (dd bX13_tellsRows dX13_tellsRows_80) rfl).trans ?_
  refine (rg_gf (pc := 81) (dd bX13_tellsRows dX13_tellsRows_81) (ci := 14) (j := 39) rfl rfl (key := 1539) rfl (kc := 34) rfl s1.1 s1.2.2.2.2.2.2.2.2.2.2.2.2.2.2.2.2.2.2.2.2.2.2.2.2.2.2.2.2.2.2.2.2.2.2.2.2.2.2.2.2.2.2.2.2.2.2.2.2.2.2.2.2.2.2.2.2.2.2.2.2.2.2.2.2.2.2.2.2.2.2.2.2.2.2.2.2.2.2.2.2.2.2.2.2.2.2.2.2.2.2.2.2.2.2.2.2.2.2.2.2.2.2.2.2.2.2.2.2.2.2.2.2.1).trans ?_
  refine (rn_iload (pc := 84) (dd bX13_tellsRows dX13_tellsRows_84) rfl).trans ?_
  refine (rn_iconst (pc := 86) (dd bX13_tellsRows dX13_tellsRows_86) (by decide)).trans ?_
  refine (rg_iadd (pc := 87) (dd bX13_tellsRows dX13_tellsRows_87) (by omega) (by omega)).trans ?_
  refine (rg_iaload (pc := 88) (dd bX13_tellsRows dX13_tellsRows_88) s1.2.2.2.2.2.2.2.2.2.2.2.2.2.2.2.2.2.2.2.2.2.2.2.2.2.2.2.2.2.2.2.2.2.2.2.2.2.2.2.2.2.2.2.2.2.2.2.2.2.2.2.2.2.2.2.2.2.2.2.2.2.2.2.2.2.2.2.2.2.2.2.2.2.2.2.2.2.2.2.2.2.2.2.2.2.2.2.2.2.2.2.2.2.2.2.2.2.2.2.2.2.2.2.2.2.2.2.2.2.2.2.2.2.1 s1.2.2.2.2.2.2.2.2.2.2.2.2.2.2.2.2.2.2.2.2.2.2.2.2.2.2.2.2.2.2.2.2.2.2.2.2.2.2.2.2.2.2.2.2.2.2.2.2.2.2.2.2.2.2.2.2.2.2.2.2.2.2.2.2.2.2.2.2.2.2.2.2.2.2.2.2.2.2.2.2.2.2.2.2.2.2.2.2.2.2.2.2.2.2.2.2.2.2.2.2.2.2.2.2.2.2.2.2.2.2.2.2.2.2.1 (by omega) p4 rfl).trans ?_
  refine (rn_iload (pc := 89) (dd bX13_tellsRows dX13_tellsRows_89) rfl).trans ?_
  refine (rg_isub (pc := 91) (dd bX13_tellsRows dX13_tellsRows_91) p5 p6).trans ?_
  refine (rg_iastore (pc := 92) (dd bX13_tellsRows dX13_tellsRows_92) s1.2.2.2.2.2.2.2.2.2.2.2.2.2.2.2.2.2.2.2.2.2.2.2.2.2.2.2.2.2.2.2.2.2.2.2.2.2.2.2.2.2.2.2.2.2.2.2.2.2.2.2.2.2.2.2.2.2.2.2.2.2.2.2.2.2.2.2.2.2.2.2.2.2.2.2.2.2.2.2.2.2.2.2.2.2.2.2.2.2.2.2.2.2.2.2.2.2.2.2.2.2.2.2.2.2.2.2.2.2.2.2.2.2.2.2.2.2.2.2.2.2.2.2.2.2.2.2.2.2.2.2.2.2.2.2.2.2.2.2.2.2.2.2.2.2.2.2.2.2.1 s1.2.2.2.2.2.2.2.2.2.2.2.2.2.2.2.2.2.2.2.2.2.2.2.2.2.2.2.2.2.2.2.2.2.2.2.2.2.2.2.2.2.2.2.2.2.2.2.2.2.2.2.2.2.2.2.2.2.2.2.2.2.2.2.2.2.2.2.2.2.2.2.2.2.2.2.2.2.2.2.2.2.2.2.2.2.2.2.2.2.2.2.2.2.2.2.2.2.2.2.2.2.2.2.2.2.2.2.2.2.2.2.2.2.2.2.2.2.2.2.2.2.2.2.2.2.2.2.2.2.2.2.2.2.2.2.2.2.2.2.2.2.2.2.2.2.2.2.2.2.2.1 p7 p8).trans ?_
  refine (rn_iconst (pc := 93) (dd bX13_tellsRows dX13_tellsRows_93) (by decide)).trans ?_
  refine (rn_istore (pc := 94) (dd bX13_tellsRows dX13_tellsRows_94) (Nat.le_of_ble_eq_true rfl) rfl).trans ?_
  rfl
theorem rX13_tellsRows_96 {x1 : Int} {x2 : Int} {x3 : Int} {x4 : Int} {x5 : Int} {x6 : Int} {x7 : Int} {v8 : vv} {h : vH} (s1 : shModel h) (p2 : 0 ≤ x4) (p3 : x4 < 24) (p4 : h 2 332 x4 ≤ x7 → (-2147483648) ≤ x2 + x4) (p5 : h 2 332 x4 ≤ x7 → x2 + x4 < 2147483648) (p6 : ¬ (h 2 332 x4 ≤ x7) → (-2147483648) ≤ x6 + x7) (p7 : ¬ (h 2 332 x4 ≤ x7) → x6 + x7 < 2147483648) (p8 : ¬ (h 2 332 x4 ≤ x7) → 0 ≤ x6 + x7) (p9 : ¬ (h 2 332 x4 ≤ x7) → x6 + x7 < 140) (p10 : ¬ (h 2 332 x4 ≤ x7) → (-2147483648) ≤ 132 * x4) (p11 : ¬ (h 2 332 x4 ≤ x7) → 132 * x4 < 2147483648) (p12 : ¬ (h 2 332 x4 ≤ x7) → (-2147483648) ≤ 132 * x4 + x7) (p13 : ¬ (h 2 332 x4 ≤ x7) → 132 * x4 + x7 < 2147483648) (p14 : ¬ (h 2 332 x4 ≤ x7) → 0 ≤ h 2 319 (x6 + x7)) (p15 : ¬ (h 2 332 x4 ≤ x7) → h 2 319 (x6 + x7) < 140) (p16 : ¬ (h 2 332 x4 ≤ x7) → (-2147483648) ≤ 128 * h 2 312 (h 2 319 (x6 + x7))) (p17 : ¬ (h 2 332 x4 ≤ x7) → 128 * h 2 312 (h 2 319 (x6 + x7)) < 2147483648) (p18 : ¬ (h 2 332 x4 ≤ x7) → (-2147483648) ≤ h 2 311 (h 2 319 (x6 + x7)) + 128 * h 2 312 (h 2 319 (x6 + x7))) (p19 : ¬ (h 2 332 x4 ≤ x7) → h 2 311 (h 2 319 (x6 + x7)) + 128 * h 2 312 (h 2 319 (x6 + x7)) < 2147483648) (p20 : ¬ (h 2 332 x4 ≤ x7) → (-2147483648) ≤ 64 * h 2 315 (h 2 319 (x6 + x7))) (p21 : ¬ (h 2 332 x4 ≤ x7) → 64 * h 2 315 (h 2 319 (x6 + x7)) < 2147483648) (p22 : ¬ (h 2 332 x4 ≤ x7) → (-2147483648) ≤ h 2 317 (h 2 319 (x6 + x7)) + 64 * h 2 315 (h 2 319 (x6 + x7))) (p23 : ¬ (h 2 332 x4 ≤ x7) → h 2 317 (h 2 319 (x6 + x7)) + 64 * h 2 315 (h 2 319 (x6 + x7)) < 2147483648) (p24 : ¬ (h 2 332 x4 ≤ x7) → (-2147483648) ≤ 512 * h 2 316 (h 2 319 (x6 + x7))) (p25 : ¬ (h 2 332 x4 ≤ x7) → 512 * h 2 316 (h 2 319 (x6 + x7)) < 2147483648) (p26 : ¬ (h 2 332 x4 ≤ x7) → (-2147483648) ≤ h 2 317 (h 2 319 (x6 + x7)) + 64 * h 2 315 (h 2 319 (x6 + x7)) + 512 * h 2 316 (h 2 319 (x6 + x7))) (p27 : ¬ (h 2 332 x4 ≤ x7) → h 2 317 (h 2 319 (x6 + x7)) + 64 * h 2 315 (h 2 319 (x6 + x7)) + 512 * h 2 316 (h 2 319 (x6 + x7)) < 2147483648) (p28 : ¬ (h 2 332 x4 ≤ x7) → (-2147483648) ≤ 16384 * (h 2 317 (h 2 319 (x6 + x7)) + 64 * h 2 315 (h 2 319 (x6 + x7)) + 512 * h 2 316 (h 2 319 (x6 + x7)))) (p29 : ¬ (h 2 332 x4 ≤ x7) → 16384 * (h 2 317 (h 2 319 (x6 + x7)) + 64 * h 2 315 (h 2 319 (x6 + x7)) + 512 * h 2 316 (h 2 319 (x6 + x7))) < 2147483648) (p30 : ¬ (h 2 332 x4 ≤ x7) → (-2147483648) ≤ h 2 311 (h 2 319 (x6 + x7)) + 128 * h 2 312 (h 2 319 (x6 + x7)) + 16384 * (h 2 317 (h 2 319 (x6 + x7)) + 64 * h 2 315 (h 2 319 (x6 + x7)) + 512 * h 2 316 (h 2 319 (x6 + x7)))) (p31 : ¬ (h 2 332 x4 ≤ x7) → h 2 311 (h 2 319 (x6 + x7)) + 128 * h 2 312 (h 2 319 (x6 + x7)) + 16384 * (h 2 317 (h 2 319 (x6 + x7)) + 64 * h 2 315 (h 2 319 (x6 + x7)) + 512 * h 2 316 (h 2 319 (x6 + x7))) < 2147483648) (p32 : ¬ (h 2 332 x4 ≤ x7) → 0 ≤ 132 * x4 + x7) (p33 : ¬ (h 2 332 x4 ≤ x7) → 132 * x4 + x7 < 3168) (p34 : ¬ (h 2 332 x4 ≤ x7) → (-2147483648) ≤ x7 + 1) (p35 : ¬ (h 2 332 x4 ≤ x7) → x7 + 1 < 2147483648) : vrun mX13_tellsRows 96 [(1, 282), (0, x1), (0, x2), (0, x3), (0, x4), (0, x5), (0, x6), (0, x7), v8] [] h = if h 2 332 x4 ≤ x7 then vret vrun mX13_tellsRows 206 [(1, 282), (0, x1), (0, x2), (0, x3), (0, x4), (0, x5), (0, x6), (0, x7), v8] [(0, x4), (1, 333)] (vcl mX13_marks [(1, 282), (0, x1), (0, x2 + x4)] h) else vrun mX13_tellsRows 96 [(1, 282), (0, x1), (0, x2), (0, x3), (0, x4), (0, x5), (0, x6), (0, x7 + 1), (0, h 2 319 (x6 + x7))] [] (vup h 2 331 (132 * x4 + x7) (h 2 311 (h 2 319 (x6 + x7)) + 128 * h 2 312 (h 2 319 (x6 + x7)) + 16384 * (h 2 317 (h 2 319 (x6 + x7)) + 64 * h 2 315 (h 2 319 (x6 + x7)) + 512 * h 2 316 (h 2 319 (x6 + x7))))) := by
  refine (rn_iload (pc := 96) (dd bX13_tellsRows dX13_tellsRows_96) rfl).trans ?_
  refine (rn_aload_n (pc := 98) (dd bX13_tellsRows dX13_tellsRows_98) rfl).trans ?_
  refine (rg_gf (pc := 99) (dd bX13_tellsRows dX13_tellsRows_99) (ci := 14) (j := 55) rfl rfl (key := 1555) rfl (kc := 34) rfl s1.1 s1.2.2.2.2.2.2.2.2.2.2.2.2.2.2.2.2.2.2.2.2.2.2.2.2.2.2.2.2.2.2.2.2.2.2.2.2.2.2.2.2.2.2.2.2.2.2.2.2.2.2.2.2.2.2.2.2.2.2.2.2.2.2.2.2.2.2.2.2.2.2.2.2.2.2.2.2.2.2.2.2.2.2.2.2.2.2.2.2.2.2.2.2.2.2.2.2.2.2.2.2.2.2.2.2.2.2.2.2.2.2.2.2.2.2.2.2.2.2.2.2.2.2.2.2.2.2.2.2.2.2.2.2.2.2.2.2.2.2.2.2.2.2.2.2.2.2.2.2.1).trans ?_
  refine (rn_iload (pc := 102) (dd bX13_tellsRows dX13_tellsRows_102) rfl).trans ?_
  refine (rg_iaload (pc := 104) (dd bX13_tellsRows dX13_tellsRows_104) s1.2.2.2.2.2.2.2.2.2.2.2.2.2.2.2.2.2.2.2.2.2.2.2.2.2.2.2.2.2.2.2.2.2.2.2.2.2.2.2.2.2.2.2.2.2.2.2.2.2.2.2.2.2.2.2.2.2.2.2.2.2.2.2.2.2.2.2.2.2.2.2.2.2.2.2.2.2.2.2.2.2.2.2.2.2.2.2.2.2.2.2.2.2.2.2.2.2.2.2.2.2.2.2.2.2.2.2.2.2.2.2.2.2.2.2.2.2.2.2.2.2.2.2.2.2.2.2.2.2.2.2.2.2.2.2.2.2.2.2.2.2.2.2.2.2.2.2.2.2.1 s1.2.2.2.2.2.2.2.2.2.2.2.2.2.2.2.2.2.2.2.2.2.2.2.2.2.2.2.2.2.2.2.2.2.2.2.2.2.2.2.2.2.2.2.2.2.2.2.2.2.2.2.2.2.2.2.2.2.2.2.2.2.2.2.2.2.2.2.2.2.2.2.2.2.2.2.2.2.2.2.2.2.2.2.2.2.2.2.2.2.2.2.2.2.2.2.2.2.2.2.2.2.2.2.2.2.2.2.2.2.2.2.2.2.2.2.2.2.2.2.2.2.2.2.2.2.2.2.2.2.2.2.2.2.2.2.2.2.2.2.2.2.2.2.2.2.2.2.2.2.2.1 p2 p3 rfl).trans ?_
  refine (rn_icmp_ge (t := 194) (pc := 105) (dd bX13_tellsRows dX13_tellsRows_105) rfl).trans (itec (fun c1 => ?_) (fun c1 => ?_))
  · refine (rn_aload_n (pc := 194) (dd bX13_tellsRows dX13_tellsRows_194) rfl).trans ?_
    refine (rg_gf (pc := 195) (dd bX13_tellsRows dX13_tellsRows_195) (ci := 14) (j := 56) rfl rfl (key := 1556) rfl (kc := 34) rfl s1.1 s1.2.2.2.2.2.2.2.2.2.2.2.2.2.2.2.2.2.2.2.2.2.2.2.2.2.2.2.2.2.2.2.2.2.2.2.2.2.2.2.2.2.2.2.2.2.2.2.2.2.2.2.2.2.2.2.2.2.2.2.2.2.2.2.2.2.2.2.2.2.2.2.2.2.2.2.2.2.2.2.2.2.2.2.2.2.2.2.2.2.2.2.2.2.2.2.2.2.2.2.2.2.2.2.2.2.2.2.2.2.2.2.2.2.2.2.2.2.2.2.2.2.2.2.2.2.2.2.2.2.2.2.2.2.2.2.2.2.2.2.2.2.2.2.2.2.2.2.2.2.2.2.1).trans ?_
    refine (rn_iload (pc := 198) (dd bX13_tellsRows dX13_tellsRows_198) rfl).trans ?_
    refine (rn_aload_n (pc := 200) (dd bX13_tellsRows dX13_tellsRows_200) rfl).trans ?_
    refine (rn_iload_n (pc := 201) (dd bX13_tellsRows dX13_tellsRows_201) rfl).trans ?_
    refine (rn_iload_n (pc := 202) (dd bX13_tellsRows dX13_tellsRows_202) rfl).trans ?_
    refine (rn_iload (pc := 203) (dd bX13_tellsRows dX13_tellsRows_203) rfl).trans ?_
    refine (rg_iadd (pc := 205) (dd bX13_tellsRows dX13_tellsRows_205) (p4 c1) (p5 c1)).trans ?_
    exact rg_virtual (pc := 206) (dd bX13_tellsRows dX13_tellsRows_206) rfl rfl (by decide) (kc := 34) rfl s1.1 (as := [(1, 282), (0, x1), (0, x2 + x4)]) rfl ⟨Nat.le_of_ble_eq_true rfl, Nat.le_of_ble_eq_true rfl, Nat.le_of_ble_eq_true rfl, Nat.le_of_ble_eq_true rfl⟩
  · refine (rn_aload_n (pc := 108) (dd bX13_tellsRows dX13_tellsRows_108) rfl).trans ?_
    refine (rg_gf (pc := 109) (dd bX13_tellsRows dX13_tellsRows_109) (ci := 14) (j := 38) rfl rfl (key := 1538) rfl (kc := 34) rfl s1.1 s1.2.2.2.2.2.2.2.2.2.2.2.2.2.2.2.2.2.2.2.2.2.2.2.2.2.2.2.2.2.2.2.2.2.2.2.2.2.2.2.2.2.2.2.2.2.2.2.2.2.2.2.2.2.2.2.2.2.2.2.2.2.2.2.2.2.2.2.2.2.2.2.2.2.2.2.2.2.2.2.2.2.2.2.2.2.2.2.2.2.2.2.2.2.2.2.2.2.2.2.2.2.2.2.2.2.2.2.2.2.1).trans ?_
    refine (rn_iload (pc := 112) (dd bX13_tellsRows dX13_tellsRows_112) rfl).trans ?_
    refine (rn_iload (pc := 114) (dd bX13_tellsRows dX13_tellsRows_114) rfl).trans ?_
    refine (rg_iadd (pc := 116) (dd bX13_tellsRows dX13_tellsRows_116) (p6 c1) (p7 c1)).trans ?_
    refine (rg_iaload (pc := 117) (dd bX13_tellsRows dX13_tellsRows_117) s1.2.2.2.2.2.2.2.2.2.2.2.2.2.2.2.2.2.2.2.2.2.2.2.2.2.2.2.2.2.2.2.2.2.2.2.2.2.2.2.2.2.2.2.2.2.2.2.2.2.2.2.2.2.2.2.2.2.2.2.2.2.2.2.2.2.2.2.2.2.2.2.2.2.2.2.2.2.2.2.2.2.2.2.2.2.2.2.2.2.2.2.2.2.2.2.2.2.2.2.2.2.2.2.2.2.2.2.2.2.2.1 s1.2.2.2.2.2.2.2.2.2.2.2.2.2.2.2.2.2.2.2.2.2.2.2.2.2.2.2.2.2.2.2.2.2.2.2.2.2.2.2.2.2.2.2.2.2.2.2.2.2.2.2.2.2.2.2.2.2.2.2.2.2.2.2.2.2.2.2.2.2.2.2.2.2.2.2.2.2.2.2.2.2.2.2.2.2.2.2.2.2.2.2.2.2.2.2.2.2.2.2.2.2.2.2.2.2.2.2.2.2.2.2.1 (p8 c1) (p9 c1) rfl).trans ?_
    refine (rn_istore (pc := 118) (dd bX13_tellsRows dX13_tellsRows_118) (Nat.le_of_ble_eq_true rfl) rfl).trans ?_
    refine (rn_aload_n (pc := 120) (dd bX13_tellsRows dX13_tellsRows_120) rfl).trans ?_
    refine (rg_gf (pc := 121) (dd bX13_tellsRows dX13_tellsRows_121) (ci := 14) (j := 54) rfl rfl (key := 1554) rfl (kc := 34) rfl s1.1 s1.2.2.2.2.2.2.2.2.2.2.2.2.2.2.2.2.2.2.2.2.2.2.2.2.2.2.2.2.2.2.2.2.2.2.2.2.2.2.2.2.2.2.2.2.2.2.2.2.2.2.2.2.2.2.2.2.2.2.2.2.2.2.2.2.2.2.2.2.2.2.2.2.2.2.2.2.2.2.2.2.2.2.2.2.2.2.2.2.2.2.2.2.2.2.2.2.2.2.2.2.2.2.2.2.2.2.2.2.2.2.2.2.2.2.2.2.2.2.2.2.2.2.2.2.2.2.2.2.2.2.2.2.2.2.2.2.2.2.2.2.2.2.2.2.2.1).trans ?_
    refine (rn_sipush (pc := 124) (dd bX13_tellsRows dX13_tellsRows_124) (by decide)).trans ?_
    refine (rn_iload (pc := 127) (dd bX13_tellsRows dX13_tellsRows_127) rfl).trans ?_
    refine (rg_imul (pc := 129) (dd bX13_tellsRows dX13_tellsRows_129) (p10 c1) (p11 c1)).trans ?_
    refine (rn_iload (pc := 130) (dd bX13_tellsRows dX13_tellsRows_130) rfl).trans ?_
    refine (rg_iadd (pc := 132) (dd bX13_tellsRows dX13_tellsRows_132) (p12 c1) (p13 c1)).trans ?_
    refine (rn_aload_n (pc := 133) (dd bX13_tellsRows dX13_tellsRows_133) rfl).trans ?_
    refine (rg_gf (pc := 134) (dd bX13_tellsRows dX13_tellsRows_134) (ci := 14) (j := 30) rfl rfl (key := 1530) rfl (kc := 34) rfl s1.1 s1.2.2.2.2.2.2.2.2.2.2.2.2.2.2.2.2.2.2.2.2.2.2.2.2.2.2.2.2.2.2.2.2.2.2.2.2.2.2.2.2.2.2.2.2.2.2.2.2.2.2.2.2.2.2.2.2.2.2.2.2.2.2.2.2.2.2.2.2.2.2.2.2.2.2.2.2.2.2.2.2.2.2.2.2.2.1).trans ?_
    refine (rn_iload (pc := 137) (dd bX13_tellsRows dX13_tellsRows_137) rfl).trans ?_
    refine (rg_iaload (pc := 139) (dd bX13_tellsRows dX13_tellsRows_139) s1.2.2.2.2.2.2.2.2.2.2.2.2.2.2.2.2.2.2.2.2.2.2.2.2.2.2.2.2.2.2.2.2.2.2.2.2.2.2.2.2.2.2.2.2.2.2.2.2.2.2.2.2.2.2.2.2.2.2.2.2.2.2.2.2.2.2.2.2.2.2.2.2.2.2.2.2.2.2.2.2.2.2.2.2.2.2.1 s1.2.2.2.2.2.2.2.2.2.2.2.2.2.2.2.2.2.2.2.2.2.2.2.2.2.2.2.2.2.2.2.2.2.2.2.2.2.2.2.2.2.2.2.2.2.2.2.2.2.2.2.2.2.2.2.2.2.2.2.2.2.2.2.2.2.2.2.2.2.2.2.2.2.2.2.2.2.2.2.2.2.2.2.2.2.2.2.1 (p14 c1) (p15 c1) rfl).trans ?_
    refine (rn_sipush (pc := 140) (dd bX13_tellsRows dX13_tellsRows_140) (by decide)).trans ?_
    refine (rn_aload_n (pc := 143) (dd bX13_tellsRows dX13_tellsRows_143) rfl).trans ?_
    refine (rg_gf (pc := 144) (dd bX13_tellsRows dX13_tellsRows_144) (ci := 14) (j := 31) rfl rfl (key := 1531) rfl (kc := 34) rfl s1.1 s1.2.2.2.2.2.2.2.2.2.2.2.2.2.2.2.2.2.2.2.2.2.2.2.2.2.2.2.2.2.2.2.2.2.2.2.2.2.2.2.2.2.2.2.2.2.2.2.2.2.2.2.2.2.2.2.2.2.2.2.2.2.2.2.2.2.2.2.2.2.2.2.2.2.2.2.2.2.2.2.2.2.2.2.2.2.2.2.2.1).trans ?_
    refine (rn_iload (pc := 147) (dd bX13_tellsRows dX13_tellsRows_147) rfl).trans ?_
    refine (rg_iaload (pc := 149) (dd bX13_tellsRows dX13_tellsRows_149) s1.2.2.2.2.2.2.2.2.2.2.2.2.2.2.2.2.2.2.2.2.2.2.2.2.2.2.2.2.2.2.2.2.2.2.2.2.2.2.2.2.2.2.2.2.2.2.2.2.2.2.2.2.2.2.2.2.2.2.2.2.2.2.2.2.2.2.2.2.2.2.2.2.2.2.2.2.2.2.2.2.2.2.2.2.2.2.2.2.2.1 s1.2.2.2.2.2.2.2.2.2.2.2.2.2.2.2.2.2.2.2.2.2.2.2.2.2.2.2.2.2.2.2.2.2.2.2.2.2.2.2.2.2.2.2.2.2.2.2.2.2.2.2.2.2.2.2.2.2.2.2.2.2.2.2.2.2.2.2.2.2.2.2.2.2.2.2.2.2.2.2.2.2.2.2.2.2.2.2.2.2.2.1 (by have z0 := p14 c1; have z1 := p15 c1; omega) (by have z0 := p14 c1; have z1 := p15 c1; omega) rfl).trans ?_
    refine (rg_imul (pc := 150) (dd bX13_tellsRows dX13_tellsRows_150) (p16 c1) (p17 c1)).trans ?_
    refine (rg_iadd (pc := 151) (dd bX13_tellsRows dX13_tellsRows_151) (p18 c1) (p19 c1)).trans ?_
    refine (rn_sipush (pc := 152) (dd bX13_tellsRows dX13_tellsRows_152) (by decide)).trans ?_
    refine (rn_aload_n (pc := 155) (dd bX13_tellsRows dX13_tellsRows_155) rfl).trans ?_
    refine (rg_gf (pc := 156) (dd bX13_tellsRows dX13_tellsRows_156) (ci := 14) (j := 36) rfl rfl (key := 1536) rfl (kc := 34) rfl s1.1 s1.2.2.2.2.2.2.2.2.2.2.2.2.2.2.2.2.2.2.2.2.2.2.2.2.2.2.2.2.2.2.2.2.2.2.2.2.2.2.2.2.2.2.2.2.2.2.2.2.2.2.2.2.2.2.2.2.2.2.2.2.2.2.2.2.2.2.2.2.2.2.2.2.2.2.2.2.2.2.2.2.2.2.2.2.2.2.2.2.2.2.2.2.2.2.2.2.2.2.2.2.2.2.2.1).trans ?_
    refine (rn_iload (pc := 159) (dd bX13_tellsRows dX13_tellsRows_159) rfl).trans ?_
    refine (rg_iaload (pc := 161) (dd bX13_tellsRows dX13_tellsRows_161) s1.2.2.2.2.2.2.2.2.2.2.2.2.2.2.2.2.2.2.2.2.2.2.2.2.2.2.2.2.2.2.2.2.2.2.2.2.2.2.2.2.2.2.2.2.2.2.2.2.2.2.2.2.2.2.2.2.2.2.2.2.2.2.2.2.2.2.2.2.2.2.2.2.2.2.2.2.2.2.2.2.2.2.2.2.2.2.2.2.2.2.2.2.2.2.2.2.2.2.2.2.2.2.2.2.1 s1.2.2.2.2.2.2.2.2.2.2.2.2.2.2.2.2.2.2.2.2.2.2.2.2.2.2.2.2.2.2.2.2.2.2.2.2.2.2.2.2.2.2.2.2.2.2.2.2.2.2.2.2.2.2.2.2.2.2.2.2.2.2.2.2.2.2.2.2.2.2.2.2.2.2.2.2.2.2.2.2.2.2.2.2.2.2.2.2.2.2.2.2.2.2.2.2.2.2.2.2.2.2.2.2.2.1 (by have z0 := p14 c1; have z1 := p15 c1; omega) (by have z0 := p14 c1; have z1 := p15 c1; omega) rfl).trans ?_
    refine (rn_bipush (pc := 162) (dd bX13_tellsRows dX13_tellsRows_162) (by decide)).trans ?_
    refine (rn_aload_n (pc := 164) (dd bX13_tellsRows dX13_tellsRows_164) rfl).trans ?_
    refine (rg_gf (pc := 165) (dd bX13_tellsRows dX13_tellsRows_165) (ci := 14) (j := 34) rfl rfl (key := 1534) rfl (kc := 34) rfl s1.1 s1.2.2.2.2.2.2.2.2.2.2.2.2.2.2.2.2.2.2.2.2.2.2.2.2.2.2.2.2.2.2.2.2.2.2.2.2.2.2.2.2.2.2.2.2.2.2.2.2.2.2.2.2.2.2.2.2.2.2.2.2.2.2.2.2.2.2.2.2.2.2.2.2.2.2.2.2.2.2.2.2.2.2.2.2.2.2.2.2.2.2.2.2.2.2.2.2.2.1).trans ?_
    refine (rn_iload (pc := 168) (dd bX13_tellsRows dX13_tellsRows_168) rfl).trans ?_
    refine (rg_iaload (pc := 170) (dd bX13_tellsRows dX13_tellsRows_170) s1.2.2.2.2.2.2.2.2.2.2.2.2.2.2.2.2.2.2.2.2.2.2.2.2.2.2.2.2.2.2.2.2.2.2.2.2.2.2.2.2.2.2.2.2.2.2.2.2.2.2.2.2.2.2.2.2.2.2.2.2.2.2.2.2.2.2.2.2.2.2.2.2.2.2.2.2.2.2.2.2.2.2.2.2.2.2.2.2.2.2.2.2.2.2.2.2.2.2.1 s1.2.2.2.2.2.2.2.2.2.2.2.2.2.2.2.2.2.2.2.2.2.2.2.2.2.2.2.2.2.2.2.2.2.2.2.2.2.2.2.2.2.2.2.2.2.2.2.2.2.2.2.2.2.2.2.2.2.2.2.2.2.2.2.2.2.2.2.2.2.2.2.2.2.2.2.2.2.2.2.2.2.2.2.2.2.2.2.2.2.2.2.2.2.2.2.2.2.2.2.1 (by have z0 := p14 c1; have z1 := p15 c1; omega) (by have z0 := p14 c1; have z1 := p15 c1; omega) rfl).trans ?_
    refine (rg_imul (pc := 171) (dd bX13_tellsRows dX13_tellsRows_171) (p20 c1) (p21 c1)).trans ?_
    refine (rg_iadd (pc := 172) (dd bX13_tellsRows dX13_tellsRows_172) (p22 c1) (p23 c1)).trans ?_
    refine (rn_sipush (pc := 173) (dd bX13_tellsRows dX13_tellsRows_173) (by decide)).trans ?_
    refine (rn_aload_n (pc := 176) (dd bX13_tellsRows dX13_tellsRows_176) rfl).trans ?_
    refine (rg_gf (pc := 177) (dd bX13_tellsRows dX13_tellsRows_177) (ci := 14) (j := 35) rfl rfl (key := 1535) rfl (kc := 34) rfl s1.1 s1.2.2.2.2.2.2.2.2.2.2.2.2.2.2.2.2.2.2.2.2.2.2.2.2.2.2.2.2.2.2.2.2.2.2.2.2.2.2.2.2.2.2.2.2.2.2.2.2.2.2.2.2.2.2.2.2.2.2.2.2.2.2.2.2.2.2.2.2.2.2.2.2.2.2.2.2.2.2.2.2.2.2.2.2.2.2.2.2.2.2.2.2.2.2.2.2.2.2.2.2.1).trans ?_
    refine (rn_iload (pc := 180) (dd bX13_tellsRows dX13_tellsRows_180) rfl).trans ?_
    refine (rg_iaload (pc := 182) (dd bX13_tellsRows dX13_tellsRows_182) s1.2.2.2.2.2.2.2.2.2.2.2.2.2.2.2.2.2.2.2.2.2.2.2.2.2.2.2.2.2.2.2.2.2.2.2.2.2.2.2.2.2.2.2.2.2.2.2.2.2.2.2.2.2.2.2.2.2.2.2.2.2.2.2.2.2.2.2.2.2.2.2.2.2.2.2.2.2.2.2.2.2.2.2.2.2.2.2.2.2.2.2.2.2.2.2.2.2.2.2.2.2.1 s1.2.2.2.2.2.2.2.2.2.2.2.2.2.2.2.2.2.2.2.2.2.2.2.2.2.2.2.2.2.2.2.2.2.2.2.2.2.2.2.2.2.2.2.2.2.2.2.2.2.2.2.2.2.2.2.2.2.2.2.2.2.2.2.2.2.2.2.2.2.2.2.2.2.2.2.2.2.2.2.2.2.2.2.2.2.2.2.2.2.2.2.2.2.2.2.2.2.2.2.2.2.2.1 (by have z0 := p14 c1; have z1 := p15 c1; omega) (by have z0 := p14 c1; have z1 := p15 c1; omega) rfl).trans ?_
    refine (rg_imul (pc := 183) (dd bX13_tellsRows dX13_tellsRows_183) (p24 c1) (p25 c1)).trans ?_
    refine (rg_iadd (pc := 184) (dd bX13_tellsRows dX13_tellsRows_184) (p26 c1) (p27 c1)).trans ?_
    refine (rg_imul (pc := 185) (dd bX13_tellsRows dX13_tellsRows_185) (p28 c1) (p29 c1)).trans ?_
    refine (rg_iadd (pc := 186) (dd bX13_tellsRows dX13_tellsRows_186) (p30 c1) (p31 c1)).trans ?_
    refine (rg_iastore (pc := 187) (dd bX13_tellsRows dX13_tellsRows_187) s1.2.2.2.2.2.2.2.2.2.2.2.2.2.2.2.2.2.2.2.2.2.2.2.2.2.2.2.2.2.2.2.2.2.2.2.2.2.2.2.2.2.2.2.2.2.2.2.2.2.2.2.2.2.2.2.2.2.2.2.2.2.2.2.2.2.2.2.2.2.2.2.2.2.2.2.2.2.2.2.2.2.2.2.2.2.2.2.2.2.2.2.2.2.2.2.2.2.2.2.2.2.2.2.2.2.2.2.2.2.2.2.2.2.2.2.2.2.2.2.2.2.2.2.2.2.2.2.2.2.2.2.2.2.2.2.2.2.2.2.2.2.2.2.2.2.2.1 s1.2.2.2.2.2.2.2.2.2.2.2.2.2.2.2.2.2.2.2.2.2.2.2.2.2.2.2.2.2.2.2.2.2.2.2.2.2.2.2.2.2.2.2.2.2.2.2.2.2.2.2.2.2.2.2.2.2.2.2.2.2.2.2.2.2.2.2.2.2.2.2.2.2.2.2.2.2.2.2.2.2.2.2.2.2.2.2.2.2.2.2.2.2.2.2.2.2.2.2.2.2.2.2.2.2.2.2.2.2.2.2.2.2.2.2.2.2.2.2.2.2.2.2.2.2.2.2.2.2.2.2.2.2.2.2.2.2.2.2.2.2.2.2.2.2.2.2.1 (p32 c1) (p33 c1)).trans ?_
    refine (rg_iinc (pc := 188) (dd bX13_tellsRows dX13_tellsRows_188) rfl (Nat.le_of_ble_eq_true rfl) (p34 c1) (p35 c1) rfl).trans ?_
    refine (rn_goto (t := 96) (pc := 191) (dd bX13_tellsRows dX13_tellsRows_191) rfl).trans ?_
    rfl
theorem rX13_tellsRows_209 {x1 : Int} {x2 : Int} {x3 : Int} {x4 : Int} {x5 : Int} {x6 : Int} {x7 : Int} {v8 : vv} {y0 : Int} {y1 : Int} {y2 : Int} {h : vH} (p1 : h 0 y2 0 = 1) (p2 : 0 ≤ y1) (p3 : y1 < h 1 y2 0) (p4 : (-2147483648) ≤ x4 + 1) (p5 : x4 + 1 < 2147483648) : vrun mX13_tellsRows 209 [(1, 282), (0, x1), (0, x2), (0, x3), (0, x4), (0, x5), (0, x6), (0, x7), v8] [(0, y0), (0, y1), (1, y2)] h = vrun mX13_tellsRows 19 [(1, 282), (0, x1), (0, x2), (0, x3), (0, x4 + 1), (0, x5), (0, x6), (0, x7), v8] [] (vup h 2 y2 y1 y0) := by
  refine (rg_iastore (pc := 209) (dd bX13_tellsRows dX13_tellsRows_209) p1 rfl p2 p3).trans ?_
  refine (rg_iinc (pc := 210) (dd bX13_tellsRows dX13_tellsRows_210) rfl (Nat.le_of_ble_eq_true rfl) p4 p5 rfl).trans ?_
  refine (rn_goto (t := 19) (pc := 213) (dd bX13_tellsRows dX13_tellsRows_213) rfl).trans ?_
  rfl
theorem bX13_isSame : vmB mX13_isSame = cX13_isSame := rfl
theorem rX13_isSame_0 {x1 : Int} {x2 : Int} {x3 : Int} {h : vH} (s1 : shModel h) (p2 : 0 ≤ x1) (p3 : x1 < 4) (p4 : (-2147483648) ≤ h 2 329 x1 - 1) (p5 : h 2 329 x1 - 1 < 2147483648) (p6 : ¬ (x3 < 0) ∧ ¬ (h 2 329 x1 - 1 < x3) → (-2147483648) ≤ 24 * x1) (p7 : ¬ (x3 < 0) ∧ ¬ (h 2 329 x1 - 1 < x3) → 24 * x1 < 2147483648) (p8 : ¬ (x3 < 0) ∧ ¬ (h 2 329 x1 - 1 < x3) → (-2147483648) ≤ 24 * x1 + x3) (p9 : ¬ (x3 < 0) ∧ ¬ (h 2 329 x1 - 1 < x3) → 24 * x1 + x3 < 2147483648) (p10 : ¬ (x3 < 0) ∧ ¬ (h 2 329 x1 - 1 < x3) → 0 ≤ x2) (p11 : ¬ (x3 < 0) ∧ ¬ (h 2 329 x1 - 1 < x3) → x2 < 24) (p12 : ¬ (x3 < 0) ∧ ¬ (h 2 329 x1 - 1 < x3) → 0 ≤ 24 * x1 + x3) (p13 : ¬ (x3 < 0) ∧ ¬ (h 2 329 x1 - 1 < x3) → 24 * x1 + x3 < 96) : vrun mX13_isSame 0 [(1, 282), (0, x1), (0, x2), (0, x3), (9, 0), (9, 0), (9, 0)] [] h = if ¬ (x3 < 0) ∧ ¬ (h 2 329 x1 - 1 < x3) then vrun mX13_isSame 68 [(1, 282), (0, x1), (0, x2), (0, x3), (0, 24 * x1 + x3), (0, (if h 2 332 x2 = h 2 327 (24 * x1 + x3) ∧ h 2 333 x2 = h 2 328 (24 * x1 + x3) then 1 else 0)), (0, 0)] [] h else some (.inl (some (0, 0)), h) := by
  refine (rn_iload_n (pc := 0) (dd bX13_isSame dX13_isSame_0) rfl).trans ?_
  refine (rn_iconst (pc := 1) (dd bX13_isSame dX13_isSame_1) (by decide)).trans ?_
  refine (rn_aload_n (pc := 2) (dd bX13_isSame dX13_isSame_2) rfl).trans ?_
  refine (rg_gf (pc := 3) (dd bX13_isSame dX13_isSame_3) (ci := 14) (j := 52) rfl rfl (key := 1552) rfl (kc := 34) rfl s1.1 s1.2.2.2.2.2.2.2.2.2.2.2.2.2.2.2.2.2.2.2.2.2.2.2.2.2.2.2.2.2.2.2.2.2.2.2.2.2.2.2.2.2.2.2.2.2.2.2.2.2.2.2.2.2.2.2.2.2.2.2.2.2.2.2.2.2.2.2.2.2.2.2.2.2.2.2.2.2.2.2.2.2.2.2.2.2.2.2.2.2.2.2.2.2.2.2.2.2.2.2.2.2.2.2.2.2.2.2.2.2.2.2.2.2.2.2.2.2.2.2.2.2.2.2.2.2.2.2.2.2.2.2.2.2.2.2.2.2.2.2.1).trans ?_
  refine (rn_iload_n (pc := 6) (dd bX13_isSame dX13_isSame_6) rfl).trans ?_
  refine (rg_iaload (pc := 7) (dd bX13_isSame dX13_isSame_7) s1.2.2.2.2.2.2.2.2.2.2.2.2.2.2.2.2.2.2.2.2.2.2.2.2.2.2.2.2.2.2.2.2.2.2.2.2.2.2.2.2.2.2.2.2.2.2.2.2.2.2.2.2.2.2.2.2.2.2.2.2.2.2.2.2.2.2.2.2.2.2.2.2.2.2.2.2.2.2.2.2.2.2.2.2.2.2.2.2.2.2.2.2.2.2.2.2.2.2.2.2.2.2.2.2.2.2.2.2.2.2.2.2.2.2.2.2.2.2.2.2.2.2.2.2.2.2.2.2.2.2.2.2.2.2.2.2.2.2.2.2.1 s1.2.2.2.2.2.2.2.2.2.2.2.2.2.2.2.2.2.2.2.2.2.2.2.2.2.2.2.2.2.2.2.2.2.2.2.2.2.2.2.2.2.2.2.2.2.2.2.2.2.2.2.2.2.2.2.2.2.2.2.2.2.2.2.2.2.2.2.2.2.2.2.2.2.2.2.2.2.2.2.2.2.2.2.2.2.2.2.2.2.2.2.2.2.2.2.2.2.2.2.2.2.2.2.2.2.2.2.2.2.2.2.2.2.2.2.2.2.2.2.2.2.2.2.2.2.2.2.2.2.2.2.2.2.2.2.2.2.2.2.2.2.1 p2 p3 rfl).trans ?_
  refine (rn_iconst (pc := 8) (dd bX13_isSame dX13_isSame_8) (by decide)).trans ?_
  refine (rg_isub (pc := 9) (dd bX13_isSame dX13_isSame_9) p4 p5).trans ?_
  refine (rg_static (pc := 10) (dd bX13_isSame dX13_isSame_10) rfl (by decide) (Nat.le_of_ble_eq_true rfl) (as := [(0, x3), (0, 0), (0, h 2 329 x1 - 1)]) rfl rfl ⟨Nat.le_of_ble_eq_true rfl, Nat.le_of_ble_eq_true rfl, Nat.le_of_ble_eq_true rfl, Nat.le_of_ble_eq_true rfl⟩).trans ?_
  refine (vret_v spX13_isIn).trans ?_
  refine (rg_bne (t := 18) (pc := 13) (dd bX13_isSame dX13_isSame_13) rfl).trans (itec (fun c1 => ?_) (fun c1 => ?_))
  · refine (rn_bipush (pc := 18) (dd bX13_isSame dX13_isSame_18) (by decide)).trans ?_
    refine (rn_iload_n (pc := 20) (dd bX13_isSame dX13_isSame_20) rfl).trans ?_
    refine (rg_imul (pc := 21) (dd bX13_isSame dX13_isSame_21) (p6 c1) (p7 c1)).trans ?_
    refine (rn_iload_n (pc := 22) (dd bX13_isSame dX13_isSame_22) rfl).trans ?_
    refine (rg_iadd (pc := 23) (dd bX13_isSame dX13_isSame_23) (p8 c1) (p9 c1)).trans ?_
    refine (rn_istore (pc := 24) (dd bX13_isSame dX13_isSame_24) (Nat.le_of_ble_eq_true rfl) rfl).trans ?_
    refine (rn_aload_n (pc := 26) (dd bX13_isSame dX13_isSame_26) rfl).trans ?_
    refine (rg_gf (pc := 27) (dd bX13_isSame dX13_isSame_27) (ci := 14) (j := 55) rfl rfl (key := 1555) rfl (kc := 34) rfl s1.1 s1.2.2.2.2.2.2.2.2.2.2.2.2.2.2.2.2.2.2.2.2.2.2.2.2.2.2.2.2.2.2.2.2.2.2.2.2.2.2.2.2.2.2.2.2.2.2.2.2.2.2.2.2.2.2.2.2.2.2.2.2.2.2.2.2.2.2.2.2.2.2.2.2.2.2.2.2.2.2.2.2.2.2.2.2.2.2.2.2.2.2.2.2.2.2.2.2.2.2.2.2.2.2.2.2.2.2.2.2.2.2.2.2.2.2.2.2.2.2.2.2.2.2.2.2.2.2.2.2.2.2.2.2.2.2.2.2.2.2.2.2.2.2.2.2.2.2.2.2.1).trans ?_
    refine (rn_iload_n (pc := 30) (dd bX13_isSame dX13_isSame_30) rfl).trans ?_
    refine (rg_iaload (pc := 31) (dd bX13_isSame dX13_isSame_31) s1.2.2.2.2.2.2.2.2.2.2.2.2.2.2.2.2.2.2.2.2.2.2.2.2.2.2.2.2.2.2.2.2.2.2.2.2.2.2.2.2.2.2.2.2.2.2.2.2.2.2.2.2.2.2.2.2.2.2.2.2.2.2.2.2.2.2.2.2.2.2.2.2.2.2.2.2.2.2.2.2.2.2.2.2.2.2.2.2.2.2.2.2.2.2.2.2.2.2.2.2.2.2.2.2.2.2.2.2.2.2.2.2.2.2.2.2.2.2.2.2.2.2.2.2.2.2.2.2.2.2.2.2.2.2.2.2.2.2.2.2.2.2.2.2.2.2.2.2.2.1 s1.2.2.2.2.2.2.2.2.2.2.2.2.2.2.2.2.2.2.2.2.2.2.2.2.2.2.2.2.2.2.2.2.2.2.2.2.2.2.2.2.2.2.2.2.2.2.2.2.2.2.2.2.2.2.2.2.2.2.2.2.2.2.2.2.2.2.2.2.2.2.2.2.2.2.2.2.2.2.2.2.2.2.2.2.2.2.2.2.2.2.2.2.2.2.2.2.2.2.2.2.2.2.2.2.2.2.2.2.2.2.2.2.2.2.2.2.2.2.2.2.2.2.2.2.2.2.2.2.2.2.2.2.2.2.2.2.2.2.2.2.2.2.2.2.2.2.2.2.2.2.1 (p10 c1) (p11 c1) rfl).trans ?_
    refine (rn_aload_n (pc := 32) (dd bX13_isSame dX13_isSame_32) rfl).trans ?_
    refine (rg_gf (pc := 33) (dd bX13_isSame dX13_isSame_33) (ci := 14) (j := 50) rfl rfl (key := 1550) rfl (kc := 34) rfl s1.1 s1.2.2.2.2.2.2.2.2.2.2.2.2.2.2.2.2.2.2.2.2.2.2.2.2.2.2.2.2.2.2.2.2.2.2.2.2.2.2.2.2.2.2.2.2.2.2.2.2.2.2.2.2.2.2.2.2.2.2.2.2.2.2.2.2.2.2.2.2.2.2.2.2.2.2.2.2.2.2.2.2.2.2.2.2.2.2.2.2.2.2.2.2.2.2.2.2.2.2.2.2.2.2.2.2.2.2.2.2.2.2.2.2.2.2.2.2.2.2.2.2.2.2.2.2.2.2.2.2.2.2.2.2.2.1).trans ?_
    refine (rn_iload (pc := 36) (dd bX13_isSame dX13_isSame_36) rfl).trans ?_
    refine (rg_iaload (pc := 38) (dd bX13_isSame dX13_isSame_38) s1.2.2.2.2.2.2.2.2.2.2.2.2.2.2.2.2.2.2.2.2.2.2.2.2.2.2.2.2.2.2.2.2.2.2.2.2.2.2.2.2.2.2.2.2.2.2.2.2.2.2.2.2.2.2.2.2.2.2.2.2.2.2.2.2.2.2.2.2.2.2.2.2.2.2.2.2.2.2.2.2.2.2.2.2.2.2.2.2.2.2.2.2.2.2.2.2.2.2.2.2.2.2.2.2.2.2.2.2.2.2.2.2.2.2.2.2.2.2.2.2.2.2.2.2.2.2.2.2.2.2.2.2.2.2.1 s1.2.2.2.2.2.2.2.2.2.2.2.2.2.2.2.2.2.2.2.2.2.2.2.2.2.2.2.2.2.2.2.2.2.2.2.2.2.2.2.2.2.2.2.2.2.2.2.2.2.2.2.2.2.2.2.2.2.2.2.2.2.2.2.2.2.2.2.2.2.2.2.2.2.2.2.2.2.2.2.2.2.2.2.2.2.2.2.2.2.2.2.2.2.2.2.2.2.2.2.2.2.2.2.2.2.2.2.2.2.2.2.2.2.2.2.2.2.2.2.2.2.2.2.2.2.2.2.2.2.2.2.2.2.2.2.1 (p12 c1) (p13 c1) rfl).trans ?_
    have e2 : vrun mX13_isSame 39 [(1, 282), (0, x1), (0, x2), (0, x3), (0, 24 * x1 + x3), (9, 0), (9, 0)] [(0, h 2 327 (24 * x1 + x3)), (0, h 2 332 x2)] h = vrun mX13_isSame 63 [(1, 282), (0, x1), (0, x2), (0, x3), (0, 24 * x1 + x3), (9, 0), (9, 0)] [(0, (if h 2 332 x2 = h 2 327 (24 * x1 + x3) ∧ h 2 333 x2 = h 2 328 (24 * x1 + x3) then 1 else 0))] h := by
      refine (rg_icmp_ne (t := 62) (pc := 39) (dd bX13_isSame dX13_isSame_39) rfl).trans ?_
      by_cases c2 : h 2 332 x2 = h 2 327 (24 * x1 + x3)
      · refine (if_pos c2).trans ?_
        refine (rn_aload_n (pc := 42) (dd bX13_isSame dX13_isSame_42) rfl).trans ?_
        refine (rg_gf (pc := 43) (dd bX13_isSame dX13_isSame_43) (ci := 14) (j := 56) rfl rfl (key := 1556) rfl (kc := 34) rfl s1.1 s1.2.2.2.2.2.2.2.2.2.2.2.2.2.2.2.2.2.2.2.2.2.2.2.2.2.2.2.2.2.2.2.2.2.2.2.2.2.2.2.2.2.2.2.2.2.2.2.2.2.2.2.2.2.2.2.2.2.2.2.2.2.2.2.2.2.2.2.2.2.2.2.2.2.2.2.2.2.2.2.2.2.2.2.2.2.2.2.2.2.2.2.2.2.2.2.2.2.2.2.2.2.2.2.2.2.2.2.2.2.2.2.2.2.2.2.2.2.2.2.2.2.2.2.2.2.2.2.2.2.2.2.2.2.2.2.2.2.2.2.2.2.2.2.2.2.2.2.2.2.2.2.1).trans ?_
        refine (rn_iload_n (pc := 46) (dd bX13_isSame dX13_isSame_46) rfl).trans ?_
        refine (rg_iaload (pc := 47) (dd bX13_isSame dX13_isSame_47) s1.2.2.2.2.2.2.2.2.2.2.2.2.2.2.2.2.2.2.2.2.2.2.2.2.2.2.2.2.2.2.2.2.2.2.2.2.2.2.2.2.2.2.2.2.2.2.2.2.2.2.2.2.2.2.2.2.2.2.2.2.2.2.2.2.2.2.2.2.2.2.2.2.2.2.2.2.2.2.2.2.2.2.2.2.2.2.2.2.2.2.2.2.2.2.2.2.2.2.2.2.2.2.2.2.2.2.2.2.2.2.2.2.2.2.2.2.2.2.2.2.2.2.2.2.2.2.2.2.2.2.2.2.2.2.2.2.2.2.2.2.2.2.2.2.2.2.2.2.2.2.2.2.1 s1.2.2.2.2.2.2.2.2.2.2.2.2.2.2.2.2.2.2.2.2.2.2.2.2.2.2.2.2.2.2.2.2.2.2.2.2.2.2.2.2.2.2.2.2.2.2.2.2.2.2.2.2.2.2.2.2.2.2.2.2.2.2.2.2.2.2.2.2.2.2.2.2.2.2.2.2.2.2.2.2.2.2.2.2.2.2.2.2.2.2.2.2.2.2.2.2.2.2.2.2.2.2.2.2.2.2.2.2.2.2.2.2.2.2.2.2.2.2.2.2.2.2.2.2.2.2.2.2.2.2.2.2.2.2.2.2.2.2.2.2.2.2.2.2.2.2.2.2.2.2.2.2.2.1 (by have z0 := p10 c1; have z1 := p11 c1; omega) (by have z0 := p10 c1; have z1 := p11 c1; omega) rfl).trans ?_
        refine (rn_aload_n (pc := 48) (dd bX13_isSame dX13_isSame_48) rfl).trans ?_
        refine (rg_gf (pc := 49) (dd bX13_isSame dX13_isSame_49) (ci := 14) (j := 51) rfl rfl (key := 1551) rfl (kc := 34) rfl s1.1 s1.2.2.2.2.2.2.2.2.2.2.2.2.2.2.2.2.2.2.2.2.2.2.2.2.2.2.2.2.2.2.2.2.2.2.2.2.2.2.2.2.2.2.2.2.2.2.2.2.2.2.2.2.2.2.2.2.2.2.2.2.2.2.2.2.2.2.2.2.2.2.2.2.2.2.2.2.2.2.2.2.2.2.2.2.2.2.2.2.2.2.2.2.2.2.2.2.2.2.2.2.2.2.2.2.2.2.2.2.2.2.2.2.2.2.2.2.2.2.2.2.2.2.2.2.2.2.2.2.2.2.2.2.2.2.2.2.1).trans ?_
        refine (rn_iload (pc := 52) (dd bX13_isSame dX13_isSame_52) rfl).trans ?_
        refine (rg_iaload (pc := 54) (dd bX13_isSame dX13_isSame_54) s1.2.2.2.2.2.2.2.2.2.2.2.2.2.2.2.2.2.2.2.2.2.2.2.2.2.2.2.2.2.2.2.2.2.2.2.2.2.2.2.2.2.2.2.2.2.2.2.2.2.2.2.2.2.2.2.2.2.2.2.2.2.2.2.2.2.2.2.2.2.2.2.2.2.2.2.2.2.2.2.2.2.2.2.2.2.2.2.2.2.2.2.2.2.2.2.2.2.2.2.2.2.2.2.2.2.2.2.2.2.2.2.2.2.2.2.2.2.2.2.2.2.2.2.2.2.2.2.2.2.2.2.2.2.2.2.2.2.1 s1.2.2.2.2.2.2.2.2.2.2.2.2.2.2.2.2.2.2.2.2.2.2.2.2.2.2.2.2.2.2.2.2.2.2.2.2.2.2.2.2.2.2.2.2.2.2.2.2.2.2.2.2.2.2.2.2.2.2.2.2.2.2.2.2.2.2.2.2.2.2.2.2.2.2.2.2.2.2.2.2.2.2.2.2.2.2.2.2.2.2.2.2.2.2.2.2.2.2.2.2.2.2.2.2.2.2.2.2.2.2.2.2.2.2.2.2.2.2.2.2.2.2.2.2.2.2.2.2.2.2.2.2.2.2.2.2.2.2.1 (by have z0 := p6 c1; have z1 := p7 c1; have z2 := p8 c1; have z3 := p9 c1; have z4 := p12 c1; have z5 := p13 c1; omega) (by have z0 := p6 c1; have z1 := p7 c1; have z2 := p8 c1; have z3 := p9 c1; have z4 := p12 c1; have z5 := p13 c1; omega) rfl).trans ?_
        have e1 : vrun mX13_isSame 55 [(1, 282), (0, x1), (0, x2), (0, x3), (0, 24 * x1 + x3), (9, 0), (9, 0)] [(0, h 2 328 (24 * x1 + x3)), (0, h 2 333 x2)] h = vrun mX13_isSame 63 [(1, 282), (0, x1), (0, x2), (0, x3), (0, 24 * x1 + x3), (9, 0), (9, 0)] [(0, (if h 2 333 x2 = h 2 328 (24 * x1 + x3) then 1 else 0))] h := by
          refine (rg_icmp_ne (t := 62) (pc := 55) (dd bX13_isSame dX13_isSame_55) rfl).trans ?_
          by_cases c3 : h 2 333 x2 = h 2 328 (24 * x1 + x3)
          · refine (if_pos c3).trans ?_
            refine (rn_iconst (pc := 58) (dd bX13_isSame dX13_isSame_58) (by decide)).trans ?_
            refine (rn_goto (t := 63) (pc := 59) (dd bX13_isSame dX13_isSame_59) rfl).trans ?_
            refine Eq.trans (b := vrun mX13_isSame 63 [(1, 282), (0, x1), (0, x2), (0, x3), (0, 24 * x1 + x3), (9, 0), (9, 0)] [(0, 1)] h) rfl ?_
            simp only [c3, true_or, false_or, or_true, or_false, true_and, false_and, and_true, and_false, not_true_eq_false, not_false_eq_true, ne_eq, if_true, if_false, ↓reduceIte]
          · refine (if_neg c3).trans ?_
            refine (rn_iconst (pc := 62) (dd bX13_isSame dX13_isSame_62) (by decide)).trans ?_
            refine Eq.trans (b := vrun mX13_isSame 63 [(1, 282), (0, x1), (0, x2), (0, x3), (0, 24 * x1 + x3), (9, 0), (9, 0)] [(0, 0)] h) rfl ?_
            simp only [c3, true_or, false_or, or_true, or_false, true_and, false_and, and_true, and_false, not_true_eq_false, not_false_eq_true, ne_eq, if_true, if_false, ↓reduceIte]
        refine e1.trans ?_
        refine Eq.trans (b := vrun mX13_isSame 63 [(1, 282), (0, x1), (0, x2), (0, x3), (0, 24 * x1 + x3), (9, 0), (9, 0)] [(0, (if h 2 333 x2 = h 2 328 (24 * x1 + x3) then 1 else 0))] h) rfl ?_
        simp only [c2, true_or, false_or, or_true, or_false, true_and, false_and, and_true, and_false, not_true_eq_false, not_false_eq_true, ne_eq, if_true, if_false, ↓reduceIte]
      · refine (if_neg c2).trans ?_
        refine (rn_iconst (pc := 62) (dd bX13_isSame dX13_isSame_62) (by decide)).trans ?_
        refine Eq.trans (b := vrun mX13_isSame 63 [(1, 282), (0, x1), (0, x2), (0, x3), (0, 24 * x1 + x3), (9, 0), (9, 0)] [(0, 0)] h) rfl ?_
        simp only [c2, true_or, false_or, or_true, or_false, true_and, false_and, and_true, and_false, not_true_eq_false, not_false_eq_true, ne_eq, if_true, if_false, ↓reduceIte]
    refine e2.trans ?_
    refine (rn_istore (pc := 63) (dd bX13_isSame dX13_isSame_63) (Nat.le_of_ble_eq_true rfl) rfl).trans ?_
    refine (rn_iconst (pc := 65) (dd bX13_isSame dX13_isSame_65) (by decide)).trans ?_
    refine (rn_istore (pc := 66) (dd bX13_isSame dX13_isSame_66) (Nat.le_of_ble_eq_true rfl) rfl).trans ?_
    rfl
  · refine (rn_iconst (pc := 16) (dd bX13_isSame dX13_isSame_16) (by decide)).trans ?_
    exact rn_ireturn (pc := 17) (dd bX13_isSame dX13_isSame_17) (Or.inr ⟨rfl, (by decide)⟩)
theorem rX13_isSame_68 {x1 : Int} {x2 : Int} {x3 : Int} {x4 : Int} {x5 : Int} {x6 : Int} {h : vH} (s1 : shModel h) (p2 : 0 ≤ x2) (p3 : x2 < 24) (p4 : h 2 332 x2 ≤ x6 → x5 = 0 ∨ x5 = 1) (p5 : ¬ (h 2 332 x2 ≤ x6) → x5 = 0 → x5 = 0 ∨ x5 = 1) (p6 : ¬ (h 2 332 x2 ≤ x6) → ¬ (x5 = 0) → (-2147483648) ≤ 132 * x2) (p7 : ¬ (h 2 332 x2 ≤ x6) → ¬ (x5 = 0) → 132 * x2 < 2147483648) (p8 : ¬ (h 2 332 x2 ≤ x6) → ¬ (x5 = 0) → (-2147483648) ≤ 132 * x2 + x6) (p9 : ¬ (h 2 332 x2 ≤ x6) → ¬ (x5 = 0) → 132 * x2 + x6 < 2147483648) (p10 : ¬ (h 2 332 x2 ≤ x6) → ¬ (x5 = 0) → 0 ≤ 132 * x2 + x6) (p11 : ¬ (h 2 332 x2 ≤ x6) → ¬ (x5 = 0) → 132 * x2 + x6 < 3168) (p12 : ¬ (h 2 332 x2 ≤ x6) → ¬ (x5 = 0) → (-2147483648) ≤ 132 * x4) (p13 : ¬ (h 2 332 x2 ≤ x6) → ¬ (x5 = 0) → 132 * x4 < 2147483648) (p14 : ¬ (h 2 332 x2 ≤ x6) → ¬ (x5 = 0) → (-2147483648) ≤ 132 * x4 + x6) (p15 : ¬ (h 2 332 x2 ≤ x6) → ¬ (x5 = 0) → 132 * x4 + x6 < 2147483648) (p16 : ¬ (h 2 332 x2 ≤ x6) → ¬ (x5 = 0) → 0 ≤ 132 * x4 + x6) (p17 : ¬ (h 2 332 x2 ≤ x6) → ¬ (x5 = 0) → 132 * x4 + x6 < 12672) (p18 : ¬ (h 2 332 x2 ≤ x6) → ¬ (x5 = 0) → (-2147483648) ≤ x6 + 1) (p19 : ¬ (h 2 332 x2 ≤ x6) → ¬ (x5 = 0) → x6 + 1 < 2147483648) : vrun mX13_isSame 68 [(1, 282), (0, x1), (0, x2), (0, x3), (0, x4), (0, x5), (0, x6)] [] h = if h 2 332 x2 ≤ x6 then some (.inl (some (0, x5)), h) else if x5 = 0 then some (.inl (some (0, x5)), h) else vrun mX13_isSame 68 [(1, 282), (0, x1), (0, x2), (0, x3), (0, x4), (0, (if h 2 331 (132 * x2 + x6) = h 2 326 (132 * x4 + x6) then 1 else 0)), (0, x6 + 1)] [] h := by
  refine (rn_iload (pc := 68) (dd bX13_isSame dX13_isSame_68) rfl).trans ?_
  refine (rn_aload_n (pc := 70) (dd bX13_isSame dX13_isSame_70) rfl).trans ?_
  refine (rg_gf (pc := 71) (dd bX13_isSame dX13_isSame_71) (ci := 14) (j := 55) rfl rfl (key := 1555) rfl (kc := 34) rfl s1.1 s1.2.2.2.2.2.2.2.2.2.2.2.2.2.2.2.2.2.2.2.2.2.2.2.2.2.2.2.2.2.2.2.2.2.2.2.2.2.2.2.2.2.2.2.2.2.2.2.2.2.2.2.2.2.2.2.2.2.2.2.2.2.2.2.2.2.2.2.2.2.2.2.2.2.2.2.2.2.2.2.2.2.2.2.2.2.2.2.2.2.2.2.2.2.2.2.2.2.2.2.2.2.2.2.2.2.2.2.2.2.2.2.2.2.2.2.2.2.2.2.2.2.2.2.2.2.2.2.2.2.2.2.2.2.2.2.2.2.2.2.2.2.2.2.2.2.2.2.2.1).trans ?_
  refine (rn_iload_n (pc := 74) (dd bX13_isSame dX13_isSame_74) rfl).trans ?_
  refine (rg_iaload (pc := 75) (dd bX13_isSame dX13_isSame_75) s1.2.2.2.2.2.2.2.2.2.2.2.2.2.2.2.2.2.2.2.2.2.2.2.2.2.2.2.2.2.2.2.2.2.2.2.2.2.2.2.2.2.2.2.2.2.2.2.2.2.2.2.2.2.2.2.2.2.2.2.2.2.2.2.2.2.2.2.2.2.2.2.2.2.2.2.2.2.2.2.2.2.2.2.2.2.2.2.2.2.2.2.2.2.2.2.2.2.2.2.2.2.2.2.2.2.2.2.2.2.2.2.2.2.2.2.2.2.2.2.2.2.2.2.2.2.2.2.2.2.2.2.2.2.2.2.2.2.2.2.2.2.2.2.2.2.2.2.2.2.1 s1.2.2.2.2.2.2.2.2.2.2.2.2.2.2.2.2.2.2.2.2.2.2.2.2.2.2.2.2.2.2.2.2.2.2.2.2.2.2.2.2.2.2.2.2.2.2.2.2.2.2.2.2.2.2.2.2.2.2.2.2.2.2.2.2.2.2.2.2.2.2.2.2.2.2.2.2.2.2.2.2.2.2.2.2.2.2.2.2.2.2.2.2.2.2.2.2.2.2.2.2.2.2.2.2.2.2.2.2.2.2.2.2.2.2.2.2.2.2.2.2.2.2.2.2.2.2.2.2.2.2.2.2.2.2.2.2.2.2.2.2.2.2.2.2.2.2.2.2.2.2.1 p2 p3 rfl).trans ?_
  refine (rn_icmp_ge (t := 127) (pc := 76) (dd bX13_isSame dX13_isSame_76) rfl).trans (itec (fun c1 => ?_) (fun c1 => ?_))
  · refine (rn_iload (pc := 127) (dd bX13_isSame dX13_isSame_127) rfl).trans ?_
    exact rn_ireturn (pc := 129) (dd bX13_isSame dX13_isSame_129) (Or.inr ⟨rfl, (p4 c1)⟩)
  · refine (rn_iload (pc := 79) (dd bX13_isSame dX13_isSame_79) rfl).trans ?_
    refine (rn_if_eq (t := 127) (pc := 81) (dd bX13_isSame dX13_isSame_81) rfl).trans (itec (fun c2 => ?_) (fun c2 => ?_))
    · refine (rn_iload (pc := 127) (dd bX13_isSame dX13_isSame_127) rfl).trans ?_
      exact rn_ireturn (pc := 129) (dd bX13_isSame dX13_isSame_129) (Or.inr ⟨rfl, (p5 c1 c2)⟩)
    · refine (rn_aload_n (pc := 84) (dd bX13_isSame dX13_isSame_84) rfl).trans ?_
      refine (rg_gf (pc := 85) (dd bX13_isSame dX13_isSame_85) (ci := 14) (j := 54) rfl rfl (key := 1554) rfl (kc := 34) rfl s1.1 s1.2.2.2.2.2.2.2.2.2.2.2.2.2.2.2.2.2.2.2.2.2.2.2.2.2.2.2.2.2.2.2.2.2.2.2.2.2.2.2.2.2.2.2.2.2.2.2.2.2.2.2.2.2.2.2.2.2.2.2.2.2.2.2.2.2.2.2.2.2.2.2.2.2.2.2.2.2.2.2.2.2.2.2.2.2.2.2.2.2.2.2.2.2.2.2.2.2.2.2.2.2.2.2.2.2.2.2.2.2.2.2.2.2.2.2.2.2.2.2.2.2.2.2.2.2.2.2.2.2.2.2.2.2.2.2.2.2.2.2.2.2.2.2.2.2.1).trans ?_
      refine (rn_sipush (pc := 88) (dd bX13_isSame dX13_isSame_88) (by decide)).trans ?_
      refine (rn_iload_n (pc := 91) (dd bX13_isSame dX13_isSame_91) rfl).trans ?_
      refine (rg_imul (pc := 92) (dd bX13_isSame dX13_isSame_92) (p6 c1 c2) (p7 c1 c2)).trans ?_
      refine (rn_iload (pc := 93) (dd bX13_isSame dX13_isSame_93) rfl).trans ?_
      refine (rg_iadd (pc := 95) (dd bX13_isSame dX13_isSame_95) (p8 c1 c2) (p9 c1 c2)).trans ?_
      refine (rg_iaload (pc := 96) (dd bX13_isSame dX13_isSame_96) s1.2.2.2.2.2.2.2.2.2.2.2.2.2.2.2.2.2.2.2.2.2.2.2.2.2.2.2.2.2.2.2.2.2.2.2.2.2.2.2.2.2.2.2.2.2.2.2.2.2.2.2.2.2.2.2.2.2.2.2.2.2.2.2.2.2.2.2.2.2.2.2.2.2.2.2.2.2.2.2.2.2.2.2.2.2.2.2.2.2.2.2.2.2.2.2.2.2.2.2.2.2.2.2.2.2.2.2.2.2.2.2.2.2.2.2.2.2.2.2.2.2.2.2.2.2.2.2.2.2.2.2.2.2.2.2.2.2.2.2.2.2.2.2.2.2.2.1 s1.2.2.2.2.2.2.2.2.2.2.2.2.2.2.2.2.2.2.2.2.2.2.2.2.2.2.2.2.2.2.2.2.2.2.2.2.2.2.2.2.2.2.2.2.2.2.2.2.2.2.2.2.2.2.2.2.2.2.2.2.2.2.2.2.2.2.2.2.2.2.2.2.2.2.2.2.2.2.2.2.2.2.2.2.2.2.2.2.2.2.2.2.2.2.2.2.2.2.2.2.2.2.2.2.2.2.2.2.2.2.2.2.2.2.2.2.2.2.2.2.2.2.2.2.2.2.2.2.2.2.2.2.2.2.2.2.2.2.2.2.2.2.2.2.2.2.2.1 (p10 c1 c2) (p11 c1 c2) rfl).trans ?_
      refine (rn_aload_n (pc := 97) (dd bX13_isSame dX13_isSame_97) rfl).trans ?_
      refine (rg_gf (pc := 98) (dd bX13_isSame dX13_isSame_98) (ci := 14) (j := 49) rfl rfl (key := 1549) rfl (kc := 34) rfl s1.1 s1.2.2.2.2.2.2.2.2.2.2.2.2.2.2.2.2.2.2.2.2.2.2.2.2.2.2.2.2.2.2.2.2.2.2.2.2.2.2.2.2.2.2.2.2.2.2.2.2.2.2.2.2.2.2.2.2.2.2.2.2.2.2.2.2.2.2.2.2.2.2.2.2.2.2.2.2.2.2.2.2.2.2.2.2.2.2.2.2.2.2.2.2.2.2.2.2.2.2.2.2.2.2.2.2.2.2.2.2.2.2.2.2.2.2.2.2.2.2.2.2.2.2.2.2.2.2.2.2.2.2.1).trans ?_
      refine (rn_sipush (pc := 101) (dd bX13_isSame dX13_isSame_101) (by decide)).trans ?_
      refine (rn_iload (pc := 104) (dd bX13_isSame dX13_isSame_104) rfl).trans ?_
      refine (rg_imul (pc := 106) (dd bX13_isSame dX13_isSame_106) (p12 c1 c2) (p13 c1 c2)).trans ?_
      refine (rn_iload (pc := 107) (dd bX13_isSame dX13_isSame_107) rfl).trans ?_
      refine (rg_iadd (pc := 109) (dd bX13_isSame dX13_isSame_109) (p14 c1 c2) (p15 c1 c2)).trans ?_
      refine (rg_iaload (pc := 110) (dd bX13_isSame dX13_isSame_110) s1.2.2.2.2.2.2.2.2.2.2.2.2.2.2.2.2.2.2.2.2.2.2.2.2.2.2.2.2.2.2.2.2.2.2.2.2.2.2.2.2.2.2.2.2.2.2.2.2.2.2.2.2.2.2.2.2.2.2.2.2.2.2.2.2.2.2.2.2.2.2.2.2.2.2.2.2.2.2.2.2.2.2.2.2.2.2.2.2.2.2.2.2.2.2.2.2.2.2.2.2.2.2.2.2.2.2.2.2.2.2.2.2.2.2.2.2.2.2.2.2.2.2.2.2.2.2.2.2.2.2.2.1 s1.2.2.2.2.2.2.2.2.2.2.2.2.2.2.2.2.2.2.2.2.2.2.2.2.2.2.2.2.2.2.2.2.2.2.2.2.2.2.2.2.2.2.2.2.2.2.2.2.2.2.2.2.2.2.2.2.2.2.2.2.2.2.2.2.2.2.2.2.2.2.2.2.2.2.2.2.2.2.2.2.2.2.2.2.2.2.2.2.2.2.2.2.2.2.2.2.2.2.2.2.2.2.2.2.2.2.2.2.2.2.2.2.2.2.2.2.2.2.2.2.2.2.2.2.2.2.2.2.2.2.2.2.1 (p16 c1 c2) (p17 c1 c2) rfl).trans ?_
      have e1 : vrun mX13_isSame 111 [(1, 282), (0, x1), (0, x2), (0, x3), (0, x4), (0, x5), (0, x6)] [(0, h 2 326 (132 * x4 + x6)), (0, h 2 331 (132 * x2 + x6))] h = vrun mX13_isSame 119 [(1, 282), (0, x1), (0, x2), (0, x3), (0, x4), (0, x5), (0, x6)] [(0, (if h 2 331 (132 * x2 + x6) = h 2 326 (132 * x4 + x6) then 1 else 0))] h := by
        refine (rg_icmp_ne (t := 118) (pc := 111) (dd bX13_isSame dX13_isSame_111) rfl).trans ?_
        by_cases c3 : h 2 331 (132 * x2 + x6) = h 2 326 (132 * x4 + x6)
        · refine (if_pos c3).trans ?_
          refine (rn_iconst (pc := 114) (dd bX13_isSame dX13_isSame_114) (by decide)).trans ?_
          refine (rn_goto (t := 119) (pc := 115) (dd bX13_isSame dX13_isSame_115) rfl).trans ?_
          refine Eq.trans (b := vrun mX13_isSame 119 [(1, 282), (0, x1), (0, x2), (0, x3), (0, x4), (0, x5), (0, x6)] [(0, 1)] h) rfl ?_
          simp only [c3, true_or, false_or, or_true, or_false, true_and, false_and, and_true, and_false, not_true_eq_false, not_false_eq_true, ne_eq, if_true, if_false, ↓reduceIte]
        · refine (if_neg c3).trans ?_
          refine (rn_iconst (pc := 118) (dd bX13_isSame dX13_isSame_118) (by decide)).trans ?_
          refine Eq.trans (b := vrun mX13_isSame 119 [(1, 282), (0, x1), (0, x2), (0, x3), (0, x4), (0, x5), (0, x6)] [(0, 0)] h) rfl ?_
          simp only [c3, true_or, false_or, or_true, or_false, true_and, false_and, and_true, and_false, not_true_eq_false, not_false_eq_true, ne_eq, if_true, if_false, ↓reduceIte]
      refine e1.trans ?_
      refine (rn_istore (pc := 119) (dd bX13_isSame dX13_isSame_119) (Nat.le_of_ble_eq_true rfl) rfl).trans ?_
      refine (rg_iinc (pc := 121) (dd bX13_isSame dX13_isSame_121) rfl (Nat.le_of_ble_eq_true rfl) (p18 c1 c2) (p19 c1 c2) rfl).trans ?_
      refine (rn_goto (t := 68) (pc := 124) (dd bX13_isSame dX13_isSame_124) rfl).trans ?_
      rfl
theorem bX13_toDraw : vmB mX13_toDraw = cX13_toDraw := rfl
theorem rX13_toDraw_0 {x1 : Int} {x2 : Int} {h : vH} : vrun mX13_toDraw 0 [(1, 282), (0, x1), (0, x2), (9, 0), (9, 0)] [] h = vrun mX13_toDraw 5 [(1, 282), (0, x1), (0, x2), (0, 0), (0, 0)] [] h := by
  refine (rn_iconst (pc := 0) (dd bX13_toDraw dX13_toDraw_0) (by decide)).trans ?_
  refine (rn_istore_n (pc := 1) (dd bX13_toDraw dX13_toDraw_1) (Nat.le_of_ble_eq_true rfl) rfl).trans ?_
  refine (rn_iconst (pc := 2) (dd bX13_toDraw dX13_toDraw_2) (by decide)).trans ?_
  refine (rn_istore (pc := 3) (dd bX13_toDraw dX13_toDraw_3) (Nat.le_of_ble_eq_true rfl) rfl).trans ?_
  rfl
theorem rX13_toDraw_5 {x1 : Int} {x2 : Int} {x3 : Int} {x4 : Int} {h : vH} (s1 : shModel h) (p2 : 0 ≤ x1) (p3 : x1 < 4) (p4 : ¬ (h 2 310 x1 ≤ x4) → (-2147483648) ≤ x4 + x2) (p5 : ¬ (h 2 310 x1 ≤ x4) → x4 + x2 < 2147483648) : vrun mX13_toDraw 5 [(1, 282), (0, x1), (0, x2), (0, x3), (0, x4)] [] h = if h 2 310 x1 ≤ x4 then some (.inl (some (0, x3)), h) else vret vrun mX13_toDraw 25 [(1, 282), (0, x1), (0, x2), (0, x3), (0, x4)] [(0, x3)] (vcl mX13_isSame [(1, 282), (0, x1), (0, x4), (0, x4 + x2)] h) := by
  refine (rn_iload (pc := 5) (dd bX13_toDraw dX13_toDraw_5) rfl).trans ?_
  refine (rn_aload_n (pc := 7) (dd bX13_toDraw dX13_toDraw_7) rfl).trans ?_
  refine (rg_gf (pc := 8) (dd bX13_toDraw dX13_toDraw_8) (ci := 14) (j := 29) rfl rfl (key := 1529) rfl (kc := 34) rfl s1.1 s1.2.2.2.2.2.2.2.2.2.2.2.2.2.2.2.2.2.2.2.2.2.2.2.2.2.2.2.2.2.2.2.2.2.2.2.2.2.2.2.2.2.2.2.2.2.2.2.2.2.2.2.2.2.2.2.2.2.2.2.2.2.2.2.2.2.2.2.2.2.2.2.2.2.2.2.2.2.2.2.2.2.2.1).trans ?_
  refine (rn_iload_n (pc := 11) (dd bX13_toDraw dX13_toDraw_11) rfl).trans ?_
  refine (rg_iaload (pc := 12) (dd bX13_toDraw dX13_toDraw_12) s1.2.2.2.2.2.2.2.2.2.2.2.2.2.2.2.2.2.2.2.2.2.2.2.2.2.2.2.2.2.2.2.2.2.2.2.2.2.2.2.2.2.2.2.2.2.2.2.2.2.2.2.2.2.2.2.2.2.2.2.2.2.2.2.2.2.2.2.2.2.2.2.2.2.2.2.2.2.2.2.2.2.2.2.1 s1.2.2.2.2.2.2.2.2.2.2.2.2.2.2.2.2.2.2.2.2.2.2.2.2.2.2.2.2.2.2.2.2.2.2.2.2.2.2.2.2.2.2.2.2.2.2.2.2.2.2.2.2.2.2.2.2.2.2.2.2.2.2.2.2.2.2.2.2.2.2.2.2.2.2.2.2.2.2.2.2.2.2.2.2.1 p2 p3 rfl).trans ?_
  refine (rn_icmp_ge (t := 44) (pc := 13) (dd bX13_toDraw dX13_toDraw_13) rfl).trans (itec (fun c1 => ?_) (fun c1 => ?_))
  · refine (rn_iload_n (pc := 44) (dd bX13_toDraw dX13_toDraw_44) rfl).trans ?_
    exact rn_ireturn (pc := 45) (dd bX13_toDraw dX13_toDraw_45) (Or.inl rfl)
  · refine (rn_iload_n (pc := 16) (dd bX13_toDraw dX13_toDraw_16) rfl).trans ?_
    refine (rn_aload_n (pc := 17) (dd bX13_toDraw dX13_toDraw_17) rfl).trans ?_
    refine (rn_iload_n (pc := 18) (dd bX13_toDraw dX13_toDraw_18) rfl).trans ?_
    refine (rn_iload (pc := 19) (dd bX13_toDraw dX13_toDraw_19) rfl).trans ?_
    refine (rn_iload (pc := 21) (dd bX13_toDraw dX13_toDraw_21) rfl).trans ?_
    refine (rn_iload_n (pc := 23) (dd bX13_toDraw dX13_toDraw_23) rfl).trans ?_
    refine (rg_iadd (pc := 24) (dd bX13_toDraw dX13_toDraw_24) (p4 c1) (p5 c1)).trans ?_
    exact rg_virtual (pc := 25) (dd bX13_toDraw dX13_toDraw_25) rfl rfl (by decide) (kc := 34) rfl s1.1 (as := [(1, 282), (0, x1), (0, x4), (0, x4 + x2)]) rfl ⟨Nat.le_of_ble_eq_true rfl, Nat.le_of_ble_eq_true rfl, Nat.le_of_ble_eq_true rfl, Nat.le_of_ble_eq_true rfl⟩
theorem rX13_toDraw_28 {x1 : Int} {x2 : Int} {x3 : Int} {x4 : Int} {y0 : Int} {y1 : Int} {h : vH} (p1 : (-2147483648) ≤ y1 + (if y0 = 0 then 1 else 0)) (p2 : y1 + (if y0 = 0 then 1 else 0) < 2147483648) (p3 : (-2147483648) ≤ x4 + 1) (p4 : x4 + 1 < 2147483648) : vrun mX13_toDraw 28 [(1, 282), (0, x1), (0, x2), (0, x3), (0, x4)] [(0, y0), (0, y1)] h = vrun mX13_toDraw 5 [(1, 282), (0, x1), (0, x2), (0, y1 + (if y0 = 0 then 1 else 0)), (0, x4 + 1)] [] h := by
  have e1 : vrun mX13_toDraw 28 [(1, 282), (0, x1), (0, x2), (0, x3), (0, x4)] [(0, y0), (0, y1)] h = vrun mX13_toDraw 36 [(1, 282), (0, x1), (0, x2), (0, x3), (0, x4)] [(0, (if y0 = 0 then 1 else 0)), (0, y1)] h := by
    refine (rn_if_eq (t := 35) (pc := 28) (dd bX13_toDraw dX13_toDraw_28) rfl).trans ?_
    by_cases c1 : y0 = 0
    · refine (if_pos c1).trans ?_
      refine (rn_iconst (pc := 35) (dd bX13_toDraw dX13_toDraw_35) (by decide)).trans ?_
      refine Eq.trans (b := vrun mX13_toDraw 36 [(1, 282), (0, x1), (0, x2), (0, x3), (0, x4)] [(0, 1), (0, y1)] h) rfl ?_
      simp only [c1, true_or, false_or, or_true, or_false, true_and, false_and, and_true, and_false, not_true_eq_false, not_false_eq_true, ne_eq, if_true, if_false, ↓reduceIte]
    · refine (if_neg c1).trans ?_
      refine (rn_iconst (pc := 31) (dd bX13_toDraw dX13_toDraw_31) (by decide)).trans ?_
      refine (rn_goto (t := 36) (pc := 32) (dd bX13_toDraw dX13_toDraw_32) rfl).trans ?_
      refine Eq.trans (b := vrun mX13_toDraw 36 [(1, 282), (0, x1), (0, x2), (0, x3), (0, x4)] [(0, 0), (0, y1)] h) rfl ?_
      simp only [c1, true_or, false_or, or_true, or_false, true_and, false_and, and_true, and_false, not_true_eq_false, not_false_eq_true, ne_eq, if_true, if_false, ↓reduceIte]
  refine e1.trans ?_
  refine (rg_iadd (pc := 36) (dd bX13_toDraw dX13_toDraw_36) p1 p2).trans ?_
  refine (rn_istore_n (pc := 37) (dd bX13_toDraw dX13_toDraw_37) (Nat.le_of_ble_eq_true rfl) rfl).trans ?_
  refine (rg_iinc (pc := 38) (dd bX13_toDraw dX13_toDraw_38) rfl (Nat.le_of_ble_eq_true rfl) p3 p4 rfl).trans ?_
  refine (rn_goto (t := 5) (pc := 41) (dd bX13_toDraw dX13_toDraw_41) rfl).trans ?_
  rfl
theorem bX13_keepsRows : vmB mX13_keepsRows = cX13_keepsRows := rfl
theorem rX13_keepsRows_0 {x1 : Int} {h : vH} (s1 : shModel h) (p2 : 0 ≤ x1) (p3 : x1 < 4) : vrun mX13_keepsRows 0 [(1, 282), (0, x1), (9, 0), (9, 0)] [] h = vrun mX13_keepsRows 14 [(1, 282), (0, x1), (0, 0), (9, 0)] [] (vup h 2 329 x1 (h 2 310 x1)) := by
  refine (rn_aload_n (pc := 0) (dd bX13_keepsRows dX13_keepsRows_0) rfl).trans ?_
  refine (rg_gf (pc := 1) (dd bX13_keepsRows dX13_keepsRows_1) (ci := 14) (j := 52) rfl rfl (key := 1552) rfl (kc := 34) rfl s1.1 s1.2.2.2.2.2.2.2.2.2.2.2.2.2.2.2.2.2.2.2.2.2.2.2.2.2.2.2.2.2.2.2.2.2.2.2.2.2.2.2.2.2.2.2.2.2.2.2.2.2.2.2.2.2.2.2.2.2.2.2.2.2.2.2.2.2.2.2.2.2.2.2.2.2.2.2.2.2.2.2.2.2.2.2.2.2.2.2.2.2.2.2.2.2.2.2.2.2.2.2.2.2.2.2.2.2.2.2.2.2.2.2.2.2.2.2.2.2.2.2.2.2.2.2.2.2.2.2.2.2.2.2.2.2.2.2.2.2.2.2.1).trans ?_
  refine (rn_iload_n (pc := 4) (dd bX13_keepsRows dX13_keepsRows_4) rfl).trans ?_
  refine (rn_aload_n (pc := 5) (dd bX13_keepsRows dX13_keepsRows_5) rfl).trans ?_
  refine (rg_gf (pc := 6) (dd bX13_keepsRows dX13_keepsRows_6) (ci := 14) (j := 29) rfl rfl (key := 1529) rfl (kc := 34) rfl s1.1 s1.2.2.2.2.2.2.2.2.2.2.2.2.2.2.2.2.2.2.2.2.2.2.2.2.2.2.2.2.2.2.2.2.2.2.2.2.2.2.2.2.2.2.2.2.2.2.2.2.2.2.2.2.2.2.2.2.2.2.2.2.2.2.2.2.2.2.2.2.2.2.2.2.2.2.2.2.2.2.2.2.2.2.1).trans ?_
  refine (rn_iload_n (pc := 9) (dd bX13_keepsRows dX13_keepsRows_9) rfl).trans ?_
  refine (rg_iaload (pc := 10) (dd bX13_keepsRows dX13_keepsRows_10) s1.2.2.2.2.2.2.2.2.2.2.2.2.2.2.2.2.2.2.2.2.2.2.2.2.2.2.2.2.2.2.2.2.2.2.2.2.2.2.2.2.2.2.2.2.2.2.2.2.2.2.2.2.2.2.2.2.2.2.2.2.2.2.2.2.2.2.2.2.2.2.2.2.2.2.2.2.2.2.2.2.2.2.2.1 s1.2.2.2.2.2.2.2.2.2.2.2.2.2.2.2.2.2.2.2.2.2.2.2.2.2.2.2.2.2.2.2.2.2.2.2.2.2.2.2.2.2.2.2.2.2.2.2.2.2.2.2.2.2.2.2.2.2.2.2.2.2.2.2.2.2.2.2.2.2.2.2.2.2.2.2.2.2.2.2.2.2.2.2.2.1 p2 p3 rfl).trans ?_
  refine (rg_iastore (pc := 11) (dd bX13_keepsRows dX13_keepsRows_11) s1.2.2.2.2.2.2.2.2.2.2.2.2.2.2.2.2.2.2.2.2.2.2.2.2.2.2.2.2.2.2.2.2.2.2.2.2.2.2.2.2.2.2.2.2.2.2.2.2.2.2.2.2.2.2.2.2.2.2.2.2.2.2.2.2.2.2.2.2.2.2.2.2.2.2.2.2.2.2.2.2.2.2.2.2.2.2.2.2.2.2.2.2.2.2.2.2.2.2.2.2.2.2.2.2.2.2.2.2.2.2.2.2.2.2.2.2.2.2.2.2.2.2.2.2.2.2.2.2.2.2.2.2.2.2.2.2.2.2.2.2.1 s1.2.2.2.2.2.2.2.2.2.2.2.2.2.2.2.2.2.2.2.2.2.2.2.2.2.2.2.2.2.2.2.2.2.2.2.2.2.2.2.2.2.2.2.2.2.2.2.2.2.2.2.2.2.2.2.2.2.2.2.2.2.2.2.2.2.2.2.2.2.2.2.2.2.2.2.2.2.2.2.2.2.2.2.2.2.2.2.2.2.2.2.2.2.2.2.2.2.2.2.2.2.2.2.2.2.2.2.2.2.2.2.2.2.2.2.2.2.2.2.2.2.2.2.2.2.2.2.2.2.2.2.2.2.2.2.2.2.2.2.2.2.1 (by omega) (by omega)).trans ?_
  refine (rn_iconst (pc := 12) (dd bX13_keepsRows dX13_keepsRows_12) (by decide)).trans ?_
  refine (rn_istore_n (pc := 13) (dd bX13_keepsRows dX13_keepsRows_13) (Nat.le_of_ble_eq_true rfl) rfl).trans ?_
  rfl
theorem rX13_keepsRows_14 {x1 : Int} {x2 : Int} {v3 : vv} {h : vH} (s1 : shModel h) (p2 : 0 ≤ x1) (p3 : x1 < 4) (p4 : ¬ (h 2 310 x1 ≤ x2) → (-2147483648) ≤ 24 * x1) (p5 : ¬ (h 2 310 x1 ≤ x2) → 24 * x1 < 2147483648) (p6 : ¬ (h 2 310 x1 ≤ x2) → (-2147483648) ≤ 24 * x1 + x2) (p7 : ¬ (h 2 310 x1 ≤ x2) → 24 * x1 + x2 < 2147483648) (p8 : ¬ (h 2 310 x1 ≤ x2) → 0 ≤ x2) (p9 : ¬ (h 2 310 x1 ≤ x2) → x2 < 24) (p10 : ¬ (h 2 310 x1 ≤ x2) → 0 ≤ 24 * x1 + x2) (p11 : ¬ (h 2 310 x1 ≤ x2) → 24 * x1 + x2 < 96) : vrun mX13_keepsRows 14 [(1, 282), (0, x1), (0, x2), v3] [] h = if h 2 310 x1 ≤ x2 then some (.inl none, h) else vrun mX13_keepsRows 60 [(1, 282), (0, x1), (0, x2), (0, 0)] [] (vup (vup h 2 327 (24 * x1 + x2) (h 2 332 x2)) 2 328 (24 * x1 + x2) (h 2 333 x2)) := by
  refine (rn_iload_n (pc := 14) (dd bX13_keepsRows dX13_keepsRows_14) rfl).trans ?_
  refine (rn_aload_n (pc := 15) (dd bX13_keepsRows dX13_keepsRows_15) rfl).trans ?_
  refine (rg_gf (pc := 16) (dd bX13_keepsRows dX13_keepsRows_16) (ci := 14) (j := 29) rfl rfl (key := 1529) rfl (kc := 34) rfl s1.1 s1.2.2.2.2.2.2.2.2.2.2.2.2.2.2.2.2.2.2.2.2.2.2.2.2.2.2.2.2.2.2.2.2.2.2.2.2.2.2.2.2.2.2.2.2.2.2.2.2.2.2.2.2.2.2.2.2.2.2.2.2.2.2.2.2.2.2.2.2.2.2.2.2.2.2.2.2.2.2.2.2.2.2.1).trans ?_
  refine (rn_iload_n (pc := 19) (dd bX13_keepsRows dX13_keepsRows_19) rfl).trans ?_
  refine (rg_iaload (pc := 20) (dd bX13_keepsRows dX13_keepsRows_20) s1.2.2.2.2.2.2.2.2.2.2.2.2.2.2.2.2.2.2.2.2.2.2.2.2.2.2.2.2.2.2.2.2.2.2.2.2.2.2.2.2.2.2.2.2.2.2.2.2.2.2.2.2.2.2.2.2.2.2.2.2.2.2.2.2.2.2.2.2.2.2.2.2.2.2.2.2.2.2.2.2.2.2.2.1 s1.2.2.2.2.2.2.2.2.2.2.2.2.2.2.2.2.2.2.2.2.2.2.2.2.2.2.2.2.2.2.2.2.2.2.2.2.2.2.2.2.2.2.2.2.2.2.2.2.2.2.2.2.2.2.2.2.2.2.2.2.2.2.2.2.2.2.2.2.2.2.2.2.2.2.2.2.2.2.2.2.2.2.2.2.1 p2 p3 rfl).trans ?_
  refine (rn_icmp_ge (t := 111) (pc := 21) (dd bX13_keepsRows dX13_keepsRows_21) rfl).trans (itec (fun c1 => ?_) (fun c1 => ?_))
  · exact rn_return (pc := 111) (dd bX13_keepsRows dX13_keepsRows_111) rfl
  · refine (rn_aload_n (pc := 24) (dd bX13_keepsRows dX13_keepsRows_24) rfl).trans ?_
    refine (rg_gf (pc := 25) (dd bX13_keepsRows dX13_keepsRows_25) (ci := 14) (j := 50) rfl rfl (key := 1550) rfl (kc := 34) rfl s1.1 s1.2.2.2.2.2.2.2.2.2.2.2.2.2.2.2.2.2.2.2.2.2.2.2.2.2.2.2.2.2.2.2.2.2.2.2.2.2.2.2.2.2.2.2.2.2.2.2.2.2.2.2.2.2.2.2.2.2.2.2.2.2.2.2.2.2.2.2.2.2.2.2.2.2.2.2.2.2.2.2.2.2.2.2.2.2.2.2.2.2.2.2.2.2.2.2.2.2.2.2.2.2.2.2.2.2.2.2.2.2.2.2.2.2.2.2.2.2.2.2.2.2.2.2.2.2.2.2.2.2.2.2.2.2.1).trans ?_
    refine (rn_bipush (pc := 28) (dd bX13_keepsRows dX13_keepsRows_28) (by decide)).trans ?_
    refine (rn_iload_n (pc := 30) (dd bX13_keepsRows dX13_keepsRows_30) rfl).trans ?_
    refine (rg_imul (pc := 31) (dd bX13_keepsRows dX13_keepsRows_31) (p4 c1) (p5 c1)).trans ?_
    refine (rn_iload_n (pc := 32) (dd bX13_keepsRows dX13_keepsRows_32) rfl).trans ?_
    refine (rg_iadd (pc := 33) (dd bX13_keepsRows dX13_keepsRows_33) (p6 c1) (p7 c1)).trans ?_
    refine (rn_aload_n (pc := 34) (dd bX13_keepsRows dX13_keepsRows_34) rfl).trans ?_
    refine (rg_gf (pc := 35) (dd bX13_keepsRows dX13_keepsRows_35) (ci := 14) (j := 55) rfl rfl (key := 1555) rfl (kc := 34) rfl s1.1 s1.2.2.2.2.2.2.2.2.2.2.2.2.2.2.2.2.2.2.2.2.2.2.2.2.2.2.2.2.2.2.2.2.2.2.2.2.2.2.2.2.2.2.2.2.2.2.2.2.2.2.2.2.2.2.2.2.2.2.2.2.2.2.2.2.2.2.2.2.2.2.2.2.2.2.2.2.2.2.2.2.2.2.2.2.2.2.2.2.2.2.2.2.2.2.2.2.2.2.2.2.2.2.2.2.2.2.2.2.2.2.2.2.2.2.2.2.2.2.2.2.2.2.2.2.2.2.2.2.2.2.2.2.2.2.2.2.2.2.2.2.2.2.2.2.2.2.2.2.1).trans ?_
    refine (rn_iload_n (pc := 38) (dd bX13_keepsRows dX13_keepsRows_38) rfl).trans ?_
    refine (rg_iaload (pc := 39) (dd bX13_keepsRows dX13_keepsRows_39) s1.2.2.2.2.2.2.2.2.2.2.2.2.2.2.2.2.2.2.2.2.2.2.2.2.2.2.2.2.2.2.2.2.2.2.2.2.2.2.2.2.2.2.2.2.2.2.2.2.2.2.2.2.2.2.2.2.2.2.2.2.2.2.2.2.2.2.2.2.2.2.2.2.2.2.2.2.2.2.2.2.2.2.2.2.2.2.2.2.2.2.2.2.2.2.2.2.2.2.2.2.2.2.2.2.2.2.2.2.2.2.2.2.2.2.2.2.2.2.2.2.2.2.2.2.2.2.2.2.2.2.2.2.2.2.2.2.2.2.2.2.2.2.2.2.2.2.2.2.2.1 s1.2.2.2.2.2.2.2.2.2.2.2.2.2.2.2.2.2.2.2.2.2.2.2.2.2.2.2.2.2.2.2.2.2.2.2.2.2.2.2.2.2.2.2.2.2.2.2.2.2.2.2.2.2.2.2.2.2.2.2.2.2.2.2.2.2.2.2.2.2.2.2.2.2.2.2.2.2.2.2.2.2.2.2.2.2.2.2.2.2.2.2.2.2.2.2.2.2.2.2.2.2.2.2.2.2.2.2.2.2.2.2.2.2.2.2.2.2.2.2.2.2.2.2.2.2.2.2.2.2.2.2.2.2.2.2.2.2.2.2.2.2.2.2.2.2.2.2.2.2.2.1 (p8 c1) (p9 c1) rfl).trans ?_
    refine (rg_iastore (pc := 40) (dd bX13_keepsRows dX13_keepsRows_40) s1.2.2.2.2.2.2.2.2.2.2.2.2.2.2.2.2.2.2.2.2.2.2.2.2.2.2.2.2.2.2.2.2.2.2.2.2.2.2.2.2.2.2.2.2.2.2.2.2.2.2.2.2.2.2.2.2.2.2.2.2.2.2.2.2.2.2.2.2.2.2.2.2.2.2.2.2.2.2.2.2.2.2.2.2.2.2.2.2.2.2.2.2.2.2.2.2.2.2.2.2.2.2.2.2.2.2.2.2.2.2.2.2.2.2.2.2.2.2.2.2.2.2.2.2.2.2.2.2.2.2.2.2.2.2.1 s1.2.2.2.2.2.2.2.2.2.2.2.2.2.2.2.2.2.2.2.2.2.2.2.2.2.2.2.2.2.2.2.2.2.2.2.2.2.2.2.2.2.2.2.2.2.2.2.2.2.2.2.2.2.2.2.2.2.2.2.2.2.2.2.2.2.2.2.2.2.2.2.2.2.2.2.2.2.2.2.2.2.2.2.2.2.2.2.2.2.2.2.2.2.2.2.2.2.2.2.2.2.2.2.2.2.2.2.2.2.2.2.2.2.2.2.2.2.2.2.2.2.2.2.2.2.2.2.2.2.2.2.2.2.2.2.1 (p10 c1) (p11 c1)).trans ?_
    refine (rn_aload_n (pc := 41) (dd bX13_keepsRows dX13_keepsRows_41) rfl).trans ?_
    refine (rg_gf (pc := 42) (dd bX13_keepsRows dX13_keepsRows_42) (ci := 14) (j := 51) rfl rfl (key := 1551) rfl (kc := 34) rfl ((vup_k (by decide)).trans s1.1) ((vup_k (by decide)).trans s1.2.2.2.2.2.2.2.2.2.2.2.2.2.2.2.2.2.2.2.2.2.2.2.2.2.2.2.2.2.2.2.2.2.2.2.2.2.2.2.2.2.2.2.2.2.2.2.2.2.2.2.2.2.2.2.2.2.2.2.2.2.2.2.2.2.2.2.2.2.2.2.2.2.2.2.2.2.2.2.2.2.2.2.2.2.2.2.2.2.2.2.2.2.2.2.2.2.2.2.2.2.2.2.2.2.2.2.2.2.2.2.2.2.2.2.2.2.2.2.2.2.2.2.2.2.2.2.2.2.2.2.2.2.2.2.2.1)).trans ?_
    refine (rn_bipush (pc := 45) (dd bX13_keepsRows dX13_keepsRows_45) (by decide)).trans ?_
    refine (rn_iload_n (pc := 47) (dd bX13_keepsRows dX13_keepsRows_47) rfl).trans ?_
    refine (rg_imul (pc := 48) (dd bX13_keepsRows dX13_keepsRows_48) (by have z0 := p4 c1; have z1 := p5 c1; omega) (by have z0 := p4 c1; have z1 := p5 c1; omega)).trans ?_
    refine (rn_iload_n (pc := 49) (dd bX13_keepsRows dX13_keepsRows_49) rfl).trans ?_
    refine (rg_iadd (pc := 50) (dd bX13_keepsRows dX13_keepsRows_50) (by have z0 := p4 c1; have z1 := p5 c1; have z2 := p8 c1; have z3 := p9 c1; have z4 := p7 c1; have z5 := p10 c1; have z6 := p11 c1; omega) (by have z0 := p4 c1; have z1 := p5 c1; have z2 := p8 c1; have z3 := p9 c1; have z4 := p7 c1; have z5 := p10 c1; have z6 := p11 c1; omega)).trans ?_
    refine (rn_aload_n (pc := 51) (dd bX13_keepsRows dX13_keepsRows_51) rfl).trans ?_
    refine (rg_gf (pc := 52) (dd bX13_keepsRows dX13_keepsRows_52) (ci := 14) (j := 56) rfl rfl (key := 1556) rfl (kc := 34) rfl ((vup_k (by decide)).trans s1.1) ((vup_k (by decide)).trans s1.2.2.2.2.2.2.2.2.2.2.2.2.2.2.2.2.2.2.2.2.2.2.2.2.2.2.2.2.2.2.2.2.2.2.2.2.2.2.2.2.2.2.2.2.2.2.2.2.2.2.2.2.2.2.2.2.2.2.2.2.2.2.2.2.2.2.2.2.2.2.2.2.2.2.2.2.2.2.2.2.2.2.2.2.2.2.2.2.2.2.2.2.2.2.2.2.2.2.2.2.2.2.2.2.2.2.2.2.2.2.2.2.2.2.2.2.2.2.2.2.2.2.2.2.2.2.2.2.2.2.2.2.2.2.2.2.2.2.2.2.2.2.2.2.2.2.2.2.2.2.2.1)).trans ?_
    refine (rn_iload_n (pc := 55) (dd bX13_keepsRows dX13_keepsRows_55) rfl).trans ?_
    refine (rg_iaload (pc := 56) (dd bX13_keepsRows dX13_keepsRows_56) ((vup_k (by decide)).trans s1.2.2.2.2.2.2.2.2.2.2.2.2.2.2.2.2.2.2.2.2.2.2.2.2.2.2.2.2.2.2.2.2.2.2.2.2.2.2.2.2.2.2.2.2.2.2.2.2.2.2.2.2.2.2.2.2.2.2.2.2.2.2.2.2.2.2.2.2.2.2.2.2.2.2.2.2.2.2.2.2.2.2.2.2.2.2.2.2.2.2.2.2.2.2.2.2.2.2.2.2.2.2.2.2.2.2.2.2.2.2.2.2.2.2.2.2.2.2.2.2.2.2.2.2.2.2.2.2.2.2.2.2.2.2.2.2.2.2.2.2.2.2.2.2.2.2.2.2.2.2.2.2.1) ((vup_k (by decide)).trans s1.2.2.2.2.2.2.2.2.2.2.2.2.2.2.2.2.2.2.2.2.2.2.2.2.2.2.2.2.2.2.2.2.2.2.2.2.2.2.2.2.2.2.2.2.2.2.2.2.2.2.2.2.2.2.2.2.2.2.2.2.2.2.2.2.2.2.2.2.2.2.2.2.2.2.2.2.2.2.2.2.2.2.2.2.2.2.2.2.2.2.2.2.2.2.2.2.2.2.2.2.2.2.2.2.2.2.2.2.2.2.2.2.2.2.2.2.2.2.2.2.2.2.2.2.2.2.2.2.2.2.2.2.2.2.2.2.2.2.2.2.2.2.2.2.2.2.2.2.2.2.2.2.2.1) (by have z0 := p8 c1; have z1 := p9 c1; omega) (by have z0 := p8 c1; have z1 := p9 c1; omega) ((vup_r (by omega)).trans rfl)).trans ?_
    refine (rg_iastore (pc := 57) (dd bX13_keepsRows dX13_keepsRows_57) ((vup_k (by decide)).trans s1.2.2.2.2.2.2.2.2.2.2.2.2.2.2.2.2.2.2.2.2.2.2.2.2.2.2.2.2.2.2.2.2.2.2.2.2.2.2.2.2.2.2.2.2.2.2.2.2.2.2.2.2.2.2.2.2.2.2.2.2.2.2.2.2.2.2.2.2.2.2.2.2.2.2.2.2.2.2.2.2.2.2.2.2.2.2.2.2.2.2.2.2.2.2.2.2.2.2.2.2.2.2.2.2.2.2.2.2.2.2.2.2.2.2.2.2.2.2.2.2.2.2.2.2.2.2.2.2.2.2.2.2.2.2.2.2.2.1) ((vup_k (by decide)).trans s1.2.2.2.2.2.2.2.2.2.2.2.2.2.2.2.2.2.2.2.2.2.2.2.2.2.2.2.2.2.2.2.2.2.2.2.2.2.2.2.2.2.2.2.2.2.2.2.2.2.2.2.2.2.2.2.2.2.2.2.2.2.2.2.2.2.2.2.2.2.2.2.2.2.2.2.2.2.2.2.2.2.2.2.2.2.2.2.2.2.2.2.2.2.2.2.2.2.2.2.2.2.2.2.2.2.2.2.2.2.2.2.2.2.2.2.2.2.2.2.2.2.2.2.2.2.2.2.2.2.2.2.2.2.2.2.2.2.2.1) (by have z0 := p4 c1; have z1 := p5 c1; have z2 := p8 c1; have z3 := p9 c1; have z4 := p7 c1; have z5 := p10 c1; have z6 := p11 c1; omega) (by have z0 := p4 c1; have z1 := p5 c1; have z2 := p8 c1; have z3 := p9 c1; have z4 := p7 c1; have z5 := p10 c1; have z6 := p11 c1; omega)).trans ?_
    refine (rn_iconst (pc := 58) (dd bX13_keepsRows dX13_keepsRows_58) (by decide)).trans ?_
    refine (rn_istore_n (pc := 59) (dd bX13_keepsRows dX13_keepsRows_59) (Nat.le_of_ble_eq_true rfl) rfl).trans ?_
    rfl
theorem rX13_keepsRows_60 {x1 : Int} {x2 : Int} {x3 : Int} {h : vH} (s1 : shModel h) (p2 : 0 ≤ x2) (p3 : x2 < 24) (p4 : ¬ (h 2 332 x2 ≤ x3) → (-2147483648) ≤ 24 * x1) (p5 : ¬ (h 2 332 x2 ≤ x3) → 24 * x1 < 2147483648) (p6 : ¬ (h 2 332 x2 ≤ x3) → 24 * x1 + x2 < 2147483648) (p7 : ¬ (h 2 332 x2 ≤ x3) → (-2147483648) ≤ 132 * (24 * x1 + x2)) (p8 : ¬ (h 2 332 x2 ≤ x3) → 132 * (24 * x1 + x2) < 2147483648) (p9 : ¬ (h 2 332 x2 ≤ x3) → (-2147483648) ≤ 132 * (24 * x1 + x2) + x3) (p10 : ¬ (h 2 332 x2 ≤ x3) → 132 * (24 * x1 + x2) + x3 < 2147483648) (p11 : ¬ (h 2 332 x2 ≤ x3) → (-2147483648) ≤ 132 * x2) (p12 : ¬ (h 2 332 x2 ≤ x3) → 132 * x2 < 2147483648) (p13 : ¬ (h 2 332 x2 ≤ x3) → (-2147483648) ≤ 132 * x2 + x3) (p14 : ¬ (h 2 332 x2 ≤ x3) → 132 * x2 + x3 < 2147483648) (p15 : ¬ (h 2 332 x2 ≤ x3) → 0 ≤ 132 * x2 + x3) (p16 : ¬ (h 2 332 x2 ≤ x3) → 132 * x2 + x3 < 3168) (p17 : ¬ (h 2 332 x2 ≤ x3) → 0 ≤ 132 * (24 * x1 + x2) + x3) (p18 : ¬ (h 2 332 x2 ≤ x3) → 132 * (24 * x1 + x2) + x3 < 12672) (p19 : ¬ (h 2 332 x2 ≤ x3) → (-2147483648) ≤ x3 + 1) (p20 : ¬ (h 2 332 x2 ≤ x3) → x3 + 1 < 2147483648) : vrun mX13_keepsRows 60 [(1, 282), (0, x1), (0, x2), (0, x3)] [] h = if h 2 332 x2 ≤ x3 then vrun mX13_keepsRows 14 [(1, 282), (0, x1), (0, x2 + 1), (0, x3)] [] h else vrun mX13_keepsRows 60 [(1, 282), (0, x1), (0, x2), (0, x3 + 1)] [] (vup h 2 326 (132 * (24 * x1 + x2) + x3) (h 2 331 (132 * x2 + x3))) := by
  refine (rn_iload_n (pc := 60) (dd bX13_keepsRows dX13_keepsRows_60) rfl).trans ?_
  refine (rn_aload_n (pc := 61) (dd bX13_keepsRows dX13_keepsRows_61) rfl).trans ?_
  refine (rg_gf (pc := 62) (dd bX13_keepsRows dX13_keepsRows_62) (ci := 14) (j := 55) rfl rfl (key := 1555) rfl (kc := 34) rfl s1.1 s1.2.2.2.2.2.2.2.2.2.2.2.2.2.2.2.2.2.2.2.2.2.2.2.2.2.2.2.2.2.2.2.2.2.2.2.2.2.2.2.2.2.2.2.2.2.2.2.2.2.2.2.2.2.2.2.2.2.2.2.2.2.2.2.2.2.2.2.2.2.2.2.2.2.2.2.2.2.2.2.2.2.2.2.2.2.2.2.2.2.2.2.2.2.2.2.2.2.2.2.2.2.2.2.2.2.2.2.2.2.2.2.2.2.2.2.2.2.2.2.2.2.2.2.2.2.2.2.2.2.2.2.2.2.2.2.2.2.2.2.2.2.2.2.2.2.2.2.2.1).trans ?_
  refine (rn_iload_n (pc := 65) (dd bX13_keepsRows dX13_keepsRows_65) rfl).trans ?_
  refine (rg_iaload (pc := 66) (dd bX13_keepsRows dX13_keepsRows_66) s1.2.2.2.2.2.2.2.2.2.2.2.2.2.2.2.2.2.2.2.2.2.2.2.2.2.2.2.2.2.2.2.2.2.2.2.2.2.2.2.2.2.2.2.2.2.2.2.2.2.2.2.2.2.2.2.2.2.2.2.2.2.2.2.2.2.2.2.2.2.2.2.2.2.2.2.2.2.2.2.2.2.2.2.2.2.2.2.2.2.2.2.2.2.2.2.2.2.2.2.2.2.2.2.2.2.2.2.2.2.2.2.2.2.2.2.2.2.2.2.2.2.2.2.2.2.2.2.2.2.2.2.2.2.2.2.2.2.2.2.2.2.2.2.2.2.2.2.2.2.1 s1.2.2.2.2.2.2.2.2.2.2.2.2.2.2.2.2.2.2.2.2.2.2.2.2.2.2.2.2.2.2.2.2.2.2.2.2.2.2.2.2.2.2.2.2.2.2.2.2.2.2.2.2.2.2.2.2.2.2.2.2.2.2.2.2.2.2.2.2.2.2.2.2.2.2.2.2.2.2.2.2.2.2.2.2.2.2.2.2.2.2.2.2.2.2.2.2.2.2.2.2.2.2.2.2.2.2.2.2.2.2.2.2.2.2.2.2.2.2.2.2.2.2.2.2.2.2.2.2.2.2.2.2.2.2.2.2.2.2.2.2.2.2.2.2.2.2.2.2.2.2.1 p2 p3 rfl).trans ?_
  refine (rn_icmp_ge (t := 105) (pc := 67) (dd bX13_keepsRows dX13_keepsRows_67) rfl).trans (itec (fun c1 => ?_) (fun c1 => ?_))
  · refine (rg_iinc (pc := 105) (dd bX13_keepsRows dX13_keepsRows_105) rfl (Nat.le_of_ble_eq_true rfl) (by omega) (by omega) rfl).trans ?_
    refine (rn_goto (t := 14) (pc := 108) (dd bX13_keepsRows dX13_keepsRows_108) rfl).trans ?_
    rfl
  · refine (rn_aload_n (pc := 70) (dd bX13_keepsRows dX13_keepsRows_70) rfl).trans ?_
    refine (rg_gf (pc := 71) (dd bX13_keepsRows dX13_keepsRows_71) (ci := 14) (j := 49) rfl rfl (key := 1549) rfl (kc := 34) rfl s1.1 s1.2.2.2.2.2.2.2.2.2.2.2.2.2.2.2.2.2.2.2.2.2.2.2.2.2.2.2.2.2.2.2.2.2.2.2.2.2.2.2.2.2.2.2.2.2.2.2.2.2.2.2.2.2.2.2.2.2.2.2.2.2.2.2.2.2.2.2.2.2.2.2.2.2.2.2.2.2.2.2.2.2.2.2.2.2.2.2.2.2.2.2.2.2.2.2.2.2.2.2.2.2.2.2.2.2.2.2.2.2.2.2.2.2.2.2.2.2.2.2.2.2.2.2.2.2.2.2.2.2.2.1).trans ?_
    refine (rn_sipush (pc := 74) (dd bX13_keepsRows dX13_keepsRows_74) (by decide)).trans ?_
    refine (rn_bipush (pc := 77) (dd bX13_keepsRows dX13_keepsRows_77) (by decide)).trans ?_
    refine (rn_iload_n (pc := 79) (dd bX13_keepsRows dX13_keepsRows_79) rfl).trans ?_
    refine (rg_imul (pc := 80) (dd bX13_keepsRows dX13_keepsRows_80) (p4 c1) (p5 c1)).trans ?_
    refine (rn_iload_n (pc := 81) (dd bX13_keepsRows dX13_keepsRows_81) rfl).trans ?_
    refine (rg_iadd (pc := 82) (dd bX13_keepsRows dX13_keepsRows_82) (by have z0 := p4 c1; have z1 := p5 c1; omega) (p6 c1)).trans ?_
    refine (rg_imul (pc := 83) (dd bX13_keepsRows dX13_keepsRows_83) (p7 c1) (p8 c1)).trans ?_
    refine (rn_iload_n (pc := 84) (dd bX13_keepsRows dX13_keepsRows_84) rfl).trans ?_
    refine (rg_iadd (pc := 85) (dd bX13_keepsRows dX13_keepsRows_85) (p9 c1) (p10 c1)).trans ?_
    refine (rn_aload_n (pc := 86) (dd bX13_keepsRows dX13_keepsRows_86) rfl).trans ?_
    refine (rg_gf (pc := 87) (dd bX13_keepsRows dX13_keepsRows_87) (ci := 14) (j := 54) rfl rfl (key := 1554) rfl (kc := 34) rfl s1.1 s1.2.2.2.2.2.2.2.2.2.2.2.2.2.2.2.2.2.2.2.2.2.2.2.2.2.2.2.2.2.2.2.2.2.2.2.2.2.2.2.2.2.2.2.2.2.2.2.2.2.2.2.2.2.2.2.2.2.2.2.2.2.2.2.2.2.2.2.2.2.2.2.2.2.2.2.2.2.2.2.2.2.2.2.2.2.2.2.2.2.2.2.2.2.2.2.2.2.2.2.2.2.2.2.2.2.2.2.2.2.2.2.2.2.2.2.2.2.2.2.2.2.2.2.2.2.2.2.2.2.2.2.2.2.2.2.2.2.2.2.2.2.2.2.2.2.1).trans ?_
    refine (rn_sipush (pc := 90) (dd bX13_keepsRows dX13_keepsRows_90) (by decide)).trans ?_
    refine (rn_iload_n (pc := 93) (dd bX13_keepsRows dX13_keepsRows_93) rfl).trans ?_
    refine (rg_imul (pc := 94) (dd bX13_keepsRows dX13_keepsRows_94) (p11 c1) (p12 c1)).trans ?_
    refine (rn_iload_n (pc := 95) (dd bX13_keepsRows dX13_keepsRows_95) rfl).trans ?_
    refine (rg_iadd (pc := 96) (dd bX13_keepsRows dX13_keepsRows_96) (p13 c1) (p14 c1)).trans ?_
    refine (rg_iaload (pc := 97) (dd bX13_keepsRows dX13_keepsRows_97) s1.2.2.2.2.2.2.2.2.2.2.2.2.2.2.2.2.2.2.2.2.2.2.2.2.2.2.2.2.2.2.2.2.2.2.2.2.2.2.2.2.2.2.2.2.2.2.2.2.2.2.2.2.2.2.2.2.2.2.2.2.2.2.2.2.2.2.2.2.2.2.2.2.2.2.2.2.2.2.2.2.2.2.2.2.2.2.2.2.2.2.2.2.2.2.2.2.2.2.2.2.2.2.2.2.2.2.2.2.2.2.2.2.2.2.2.2.2.2.2.2.2.2.2.2.2.2.2.2.2.2.2.2.2.2.2.2.2.2.2.2.2.2.2.2.2.2.1 s1.2.2.2.2.2.2.2.2.2.2.2.2.2.2.2.2.2.2.2.2.2.2.2.2.2.2.2.2.2.2.2.2.2.2.2.2.2.2.2.2.2.2.2.2.2.2.2.2.2.2.2.2.2.2.2.2.2.2.2.2.2.2.2.2.2.2.2.2.2.2.2.2.2.2.2.2.2.2.2.2.2.2.2.2.2.2.2.2.2.2.2.2.2.2.2.2.2.2.2.2.2.2.2.2.2.2.2.2.2.2.2.2.2.2.2.2.2.2.2.2.2.2.2.2.2.2.2.2.2.2.2.2.2.2.2.2.2.2.2.2.2.2.2.2.2.2.2.1 (p15 c1) (p16 c1) rfl).trans ?_
    refine (rg_iastore (pc := 98) (dd bX13_keepsRows dX13_keepsRows_98) s1.2.2.2.2.2.2.2.2.2.2.2.2.2.2.2.2.2.2.2.2.2.2.2.2.2.2.2.2.2.2.2.2.2.2.2.2.2.2.2.2.2.2.2.2.2.2.2.2.2.2.2.2.2.2.2.2.2.2.2.2.2.2.2.2.2.2.2.2.2.2.2.2.2.2.2.2.2.2.2.2.2.2.2.2.2.2.2.2.2.2.2.2.2.2.2.2.2.2.2.2.2.2.2.2.2.2.2.2.2.2.2.2.2.2.2.2.2.2.2.2.2.2.2.2.2.2.2.2.2.2.2.1 s1.2.2.2.2.2.2.2.2.2.2.2.2.2.2.2.2.2.2.2.2.2.2.2.2.2.2.2.2.2.2.2.2.2.2.2.2.2.2.2.2.2.2.2.2.2.2.2.2.2.2.2.2.2.2.2.2.2.2.2.2.2.2.2.2.2.2.2.2.2.2.2.2.2.2.2.2.2.2.2.2.2.2.2.2.2.2.2.2.2.2.2.2.2.2.2.2.2.2.2.2.2.2.2.2.2.2.2.2.2.2.2.2.2.2.2.2.2.2.2.2.2.2.2.2.2.2.2.2.2.2.2.2.1 (p17 c1) (p18 c1)).trans ?_
    refine (rg_iinc (pc := 99) (dd bX13_keepsRows dX13_keepsRows_99) rfl (Nat.le_of_ble_eq_true rfl) (p19 c1) (p20 c1) rfl).trans ?_
    refine (rn_goto (t := 60) (pc := 102) (dd bX13_keepsRows dX13_keepsRows_102) rfl).trans ?_
    rfl
theorem bX13_draw : vmB mX13_draw = cX13_draw := rfl
theorem rX13_draw_0 {x1 : Int} {h : vH} (s1 : shModel h) (p2 : ¬ (x1 < 0) ∧ ¬ (3 < x1) → 0 ≤ x1) (p3 : ¬ (x1 < 0) ∧ ¬ (3 < x1) → x1 < 4) : vrun mX13_draw 0 [(1, 282), (0, x1), (9, 0), (9, 0), (9, 0), (9, 0), (9, 0), (9, 0)] [] h = vret vrun mX13_draw 28 [(1, 282), (0, x1), (0, (if ¬ (x1 < 0) ∧ ¬ (3 < x1) then 1 else 0)), (9, 0), (9, 0), (9, 0), (9, 0), (9, 0)] [] (vcl mX13_isFine [(1, 282), (0, (if ¬ (x1 < 0) ∧ ¬ (3 < x1) then (if h 2 289 x1 = 0 then 2 else 0) else 1))] h) := by
  refine (rn_iload_n (pc := 0) (dd bX13_draw dX13_draw_0) rfl).trans ?_
  refine (rg_static (pc := 1) (dd bX13_draw dX13_draw_1) rfl (by decide) (Nat.le_of_ble_eq_true rfl) (as := [(0, x1)]) rfl rfl ⟨Nat.le_of_ble_eq_true rfl, Nat.le_of_ble_eq_true rfl, Nat.le_of_ble_eq_true rfl, Nat.le_of_ble_eq_true rfl⟩).trans ?_
  refine (vret_v spX13_isPane).trans ?_
  refine (rn_istore_n (pc := 4) (dd bX13_draw dX13_draw_4) (Nat.le_of_ble_eq_true rfl) rfl).trans ?_
  refine (rn_aload_n (pc := 5) (dd bX13_draw dX13_draw_5) rfl).trans ?_
  refine (rn_iload_n (pc := 6) (dd bX13_draw dX13_draw_6) rfl).trans ?_
  have e2 : vrun mX13_draw 7 [(1, 282), (0, x1), (0, (if ¬ (x1 < 0) ∧ ¬ (3 < x1) then 1 else 0)), (9, 0), (9, 0), (9, 0), (9, 0), (9, 0)] [(0, (if ¬ (x1 < 0) ∧ ¬ (3 < x1) then 1 else 0)), (1, 282)] h = vrun mX13_draw 28 [(1, 282), (0, x1), (0, (if ¬ (x1 < 0) ∧ ¬ (3 < x1) then 1 else 0)), (9, 0), (9, 0), (9, 0), (9, 0), (9, 0)] [(0, (if ¬ (x1 < 0) ∧ ¬ (3 < x1) then (if h 2 289 x1 = 0 then 2 else 0) else 1)), (1, 282)] h := by
    refine (rg_bne (t := 14) (pc := 7) (dd bX13_draw dX13_draw_7) rfl).trans ?_
    by_cases c1 : ¬ (x1 < 0) ∧ ¬ (3 < x1)
    · refine (if_pos c1).trans ?_
      refine (rn_aload_n (pc := 14) (dd bX13_draw dX13_draw_14) rfl).trans ?_
      refine (rg_gf (pc := 15) (dd bX13_draw dX13_draw_15) (ci := 14) (j := 8) rfl rfl (key := 1508) rfl (kc := 34) rfl s1.1 s1.2.2.2.2.2.2.2.2.2.2.2.2.2.2.2.2.2.2.2.1).trans ?_
      refine (rn_iload_n (pc := 18) (dd bX13_draw dX13_draw_18) rfl).trans ?_
      refine (rg_baload (pc := 19) (dd bX13_draw dX13_draw_19) s1.2.2.2.2.2.2.2.2.2.2.2.2.2.2.2.2.2.2.2.2.1 s1.2.2.2.2.2.2.2.2.2.2.2.2.2.2.2.2.2.2.2.2.2.1 (p2 c1) (p3 c1) rfl).trans ?_
      have e1 : vrun mX13_draw 20 [(1, 282), (0, x1), (0, (if ¬ (x1 < 0) ∧ ¬ (3 < x1) then 1 else 0)), (9, 0), (9, 0), (9, 0), (9, 0), (9, 0)] [(0, h 2 289 x1), (1, 282)] h = vrun mX13_draw 28 [(1, 282), (0, x1), (0, (if ¬ (x1 < 0) ∧ ¬ (3 < x1) then 1 else 0)), (9, 0), (9, 0), (9, 0), (9, 0), (9, 0)] [(0, (if h 2 289 x1 = 0 then 2 else 0)), (1, 282)] h := by
        refine (rg_if_ne (t := 27) (pc := 20) (dd bX13_draw dX13_draw_20) rfl).trans ?_
        by_cases c2 : h 2 289 x1 = 0
        · refine (if_pos c2).trans ?_
          refine (rn_iconst (pc := 23) (dd bX13_draw dX13_draw_23) (by decide)).trans ?_
          refine (rn_goto (t := 28) (pc := 24) (dd bX13_draw dX13_draw_24) rfl).trans ?_
          refine Eq.trans (b := vrun mX13_draw 28 [(1, 282), (0, x1), (0, (if ¬ (x1 < 0) ∧ ¬ (3 < x1) then 1 else 0)), (9, 0), (9, 0), (9, 0), (9, 0), (9, 0)] [(0, 2), (1, 282)] h) rfl ?_
          simp only [if_pos c2]
        · refine (if_neg c2).trans ?_
          refine (rn_iconst (pc := 27) (dd bX13_draw dX13_draw_27) (by decide)).trans ?_
          refine Eq.trans (b := vrun mX13_draw 28 [(1, 282), (0, x1), (0, (if ¬ (x1 < 0) ∧ ¬ (3 < x1) then 1 else 0)), (9, 0), (9, 0), (9, 0), (9, 0), (9, 0)] [(0, 0), (1, 282)] h) rfl ?_
          simp only [if_neg c2]
      refine e1.trans ?_
      refine Eq.trans (b := vrun mX13_draw 28 [(1, 282), (0, x1), (0, (if ¬ (x1 < 0) ∧ ¬ (3 < x1) then 1 else 0)), (9, 0), (9, 0), (9, 0), (9, 0), (9, 0)] [(0, (if h 2 289 x1 = 0 then 2 else 0)), (1, 282)] h) rfl ?_
      simp only [if_pos c1]
    · refine (if_neg c1).trans ?_
      refine (rn_iconst (pc := 10) (dd bX13_draw dX13_draw_10) (by decide)).trans ?_
      refine (rn_goto (t := 28) (pc := 11) (dd bX13_draw dX13_draw_11) rfl).trans ?_
      refine Eq.trans (b := vrun mX13_draw 28 [(1, 282), (0, x1), (0, (if ¬ (x1 < 0) ∧ ¬ (3 < x1) then 1 else 0)), (9, 0), (9, 0), (9, 0), (9, 0), (9, 0)] [(0, 1), (1, 282)] h) rfl ?_
      simp only [if_neg c1]
  refine e2.trans ?_
  exact rg_virtual (pc := 28) (dd bX13_draw dX13_draw_28) rfl rfl (by decide) (kc := 34) rfl s1.1 (as := [(1, 282), (0, (if ¬ (x1 < 0) ∧ ¬ (3 < x1) then (if h 2 289 x1 = 0 then 2 else 0) else 1))]) rfl ⟨Nat.le_of_ble_eq_true rfl, Nat.le_of_ble_eq_true rfl, Nat.le_of_ble_eq_true rfl, Nat.le_of_ble_eq_true rfl⟩
theorem rX13_draw_31 {x1 : Int} {x2 : Int} {y0 : Int} {h : vH} (s1 : shModel h) : vrun mX13_draw 31 [(1, 282), (0, x1), (0, x2), (9, 0), (9, 0), (9, 0), (9, 0), (9, 0)] [(0, y0)] h = if y0 = 0 then some (.inl (some (0, 0)), h) else vret vrun mX13_draw 38 [(1, 282), (0, x1), (0, x2), (9, 0), (9, 0), (9, 0), (9, 0), (9, 0)] [] (vcl mX13_tellsRows [(1, 282), (0, x1)] h) := by
  refine (rg_if_ne (t := 36) (pc := 31) (dd bX13_draw dX13_draw_31) rfl).trans (itec (fun c1 => ?_) (fun c1 => ?_))
  · refine (rn_iconst (pc := 34) (dd bX13_draw dX13_draw_34) (by decide)).trans ?_
    exact rn_ireturn (pc := 35) (dd bX13_draw dX13_draw_35) (Or.inl rfl)
  · refine (rn_aload_n (pc := 36) (dd bX13_draw dX13_draw_36) rfl).trans ?_
    refine (rn_iload_n (pc := 37) (dd bX13_draw dX13_draw_37) rfl).trans ?_
    exact rg_virtual (pc := 38) (dd bX13_draw dX13_draw_38) rfl rfl (by decide) (kc := 34) rfl s1.1 (as := [(1, 282), (0, x1)]) rfl ⟨Nat.le_of_ble_eq_true rfl, Nat.le_of_ble_eq_true rfl, Nat.le_of_ble_eq_true rfl, Nat.le_of_ble_eq_true rfl⟩
theorem rX13_draw_41 {x1 : Int} {x2 : Int} {h : vH} (s1 : shModel h) : vrun mX13_draw 41 [(1, 282), (0, x1), (0, x2), (9, 0), (9, 0), (9, 0), (9, 0), (9, 0)] [] h = vret vrun mX13_draw 46 [(1, 282), (0, x1), (0, x2), (0, 0), (9, 0), (9, 0), (9, 0), (9, 0)] [] (vcl mX13_toDraw [(1, 282), (0, x1), (0, 0)] h) := by
  refine (rn_iconst (pc := 41) (dd bX13_draw dX13_draw_41) (by decide)).trans ?_
  refine (rn_istore_n (pc := 42) (dd bX13_draw dX13_draw_42) (Nat.le_of_ble_eq_true rfl) rfl).trans ?_
  refine (rn_aload_n (pc := 43) (dd bX13_draw dX13_draw_43) rfl).trans ?_
  refine (rn_iload_n (pc := 44) (dd bX13_draw dX13_draw_44) rfl).trans ?_
  refine (rn_iconst (pc := 45) (dd bX13_draw dX13_draw_45) (by decide)).trans ?_
  exact rg_virtual (pc := 46) (dd bX13_draw dX13_draw_46) rfl rfl (by decide) (kc := 34) rfl s1.1 (as := [(1, 282), (0, x1), (0, 0)]) rfl ⟨Nat.le_of_ble_eq_true rfl, Nat.le_of_ble_eq_true rfl, Nat.le_of_ble_eq_true rfl, Nat.le_of_ble_eq_true rfl⟩
theorem rX13_draw_49 {x1 : Int} {x2 : Int} {x3 : Int} {y0 : Int} {h : vH} : vrun mX13_draw 49 [(1, 282), (0, x1), (0, x2), (0, x3), (9, 0), (9, 0), (9, 0), (9, 0)] [(0, y0)] h = vrun mX13_draw 54 [(1, 282), (0, x1), (0, x2), (0, x3), (0, y0), (0, 1), (9, 0), (9, 0)] [] h := by
  refine (rn_istore (pc := 49) (dd bX13_draw dX13_draw_49) (Nat.le_of_ble_eq_true rfl) rfl).trans ?_
  refine (rn_iconst (pc := 51) (dd bX13_draw dX13_draw_51) (by decide)).trans ?_
  refine (rn_istore (pc := 52) (dd bX13_draw dX13_draw_52) (Nat.le_of_ble_eq_true rfl) rfl).trans ?_
  rfl
theorem rX13_draw_54 {x1 : Int} {x2 : Int} {x3 : Int} {x4 : Int} {x5 : Int} {v6 : vv} {v7 : vv} {h : vH} (s1 : shModel h) : vrun mX13_draw 54 [(1, 282), (0, x1), (0, x2), (0, x3), (0, x4), (0, x5), v6, v7] [] h = if 24 ≤ x5 then vret vrun mX13_draw 129 [(1, 282), (0, x1), (0, x2), (0, x3), (0, x4), (0, x5), v6, v7] [] (vcl mX13_keepsRows [(1, 282), (0, x1)] h) else vrun mX13_draw 64 [(1, 282), (0, x1), (0, x2), (0, x3), (0, x4), (0, x5), (0, 1), v7] [] h := by
  refine (rn_iload (pc := 54) (dd bX13_draw dX13_draw_54) rfl).trans ?_
  refine (rn_bipush (pc := 56) (dd bX13_draw dX13_draw_56) (by decide)).trans ?_
  refine (rn_icmp_ge (t := 127) (pc := 58) (dd bX13_draw dX13_draw_58) rfl).trans (itec (fun c1 => ?_) (fun c1 => ?_))
  · refine (rn_aload_n (pc := 127) (dd bX13_draw dX13_draw_127) rfl).trans ?_
    refine (rn_iload_n (pc := 128) (dd bX13_draw dX13_draw_128) rfl).trans ?_
    exact rg_virtual (pc := 129) (dd bX13_draw dX13_draw_129) rfl rfl (by decide) (kc := 34) rfl s1.1 (as := [(1, 282), (0, x1)]) rfl ⟨Nat.le_of_ble_eq_true rfl, Nat.le_of_ble_eq_true rfl, Nat.le_of_ble_eq_true rfl, Nat.le_of_ble_eq_true rfl⟩
  · refine (rn_iconst (pc := 61) (dd bX13_draw dX13_draw_61) (by decide)).trans ?_
    refine (rn_istore (pc := 62) (dd bX13_draw dX13_draw_62) (Nat.le_of_ble_eq_true rfl) rfl).trans ?_
    rfl
theorem rX13_draw_132 {x1 : Int} {x2 : Int} {x3 : Int} {x4 : Int} {x5 : Int} {v6 : vv} {v7 : vv} {h : vH} (s1 : shModel h) (p2 : 0 ≤ x1) (p3 : x1 < 4) : vrun mX13_draw 132 [(1, 282), (0, x1), (0, x2), (0, x3), (0, x4), (0, x5), v6, v7] [] h = some (.inl (some (0, x4)), vup h 2 330 x1 x3) := by
  refine (rn_aload_n (pc := 132) (dd bX13_draw dX13_draw_132) rfl).trans ?_
  refine (rg_gf (pc := 133) (dd bX13_draw dX13_draw_133) (ci := 14) (j := 53) rfl rfl (key := 1553) rfl (kc := 34) rfl s1.1 s1.2.2.2.2.2.2.2.2.2.2.2.2.2.2.2.2.2.2.2.2.2.2.2.2.2.2.2.2.2.2.2.2.2.2.2.2.2.2.2.2.2.2.2.2.2.2.2.2.2.2.2.2.2.2.2.2.2.2.2.2.2.2.2.2.2.2.2.2.2.2.2.2.2.2.2.2.2.2.2.2.2.2.2.2.2.2.2.2.2.2.2.2.2.2.2.2.2.2.2.2.2.2.2.2.2.2.2.2.2.2.2.2.2.2.2.2.2.2.2.2.2.2.2.2.2.2.2.2.2.2.2.2.2.2.2.2.2.2.2.2.2.2.1).trans ?_
  refine (rn_iload_n (pc := 136) (dd bX13_draw dX13_draw_136) rfl).trans ?_
  refine (rn_iload_n (pc := 137) (dd bX13_draw dX13_draw_137) rfl).trans ?_
  refine (rg_iastore (pc := 138) (dd bX13_draw dX13_draw_138) s1.2.2.2.2.2.2.2.2.2.2.2.2.2.2.2.2.2.2.2.2.2.2.2.2.2.2.2.2.2.2.2.2.2.2.2.2.2.2.2.2.2.2.2.2.2.2.2.2.2.2.2.2.2.2.2.2.2.2.2.2.2.2.2.2.2.2.2.2.2.2.2.2.2.2.2.2.2.2.2.2.2.2.2.2.2.2.2.2.2.2.2.2.2.2.2.2.2.2.2.2.2.2.2.2.2.2.2.2.2.2.2.2.2.2.2.2.2.2.2.2.2.2.2.2.2.2.2.2.2.2.2.2.2.2.2.2.2.2.2.2.2.2.2.1 s1.2.2.2.2.2.2.2.2.2.2.2.2.2.2.2.2.2.2.2.2.2.2.2.2.2.2.2.2.2.2.2.2.2.2.2.2.2.2.2.2.2.2.2.2.2.2.2.2.2.2.2.2.2.2.2.2.2.2.2.2.2.2.2.2.2.2.2.2.2.2.2.2.2.2.2.2.2.2.2.2.2.2.2.2.2.2.2.2.2.2.2.2.2.2.2.2.2.2.2.2.2.2.2.2.2.2.2.2.2.2.2.2.2.2.2.2.2.2.2.2.2.2.2.2.2.2.2.2.2.2.2.2.2.2.2.2.2.2.2.2.2.2.2.2.1 p2 p3).trans ?_
  refine (rn_iload (pc := 139) (dd bX13_draw dX13_draw_139) rfl).trans ?_
  exact rn_ireturn (pc := 141) (dd bX13_draw dX13_draw_141) (Or.inl rfl)
theorem rX13_draw_64 {x1 : Int} {x2 : Int} {x3 : Int} {x4 : Int} {x5 : Int} {x6 : Int} {v7 : vv} {h : vH} (p1 : x6 < (-1) → (-2147483648) ≤ x5 + 1) (p2 : x6 < (-1) → x5 + 1 < 2147483648) (p3 : ¬ (x6 < (-1)) → (-2147483648) ≤ x6 * x5) (p4 : ¬ (x6 < (-1)) → x6 * x5 < 2147483648) (s5 : shModel h) : vrun mX13_draw 64 [(1, 282), (0, x1), (0, x2), (0, x3), (0, x4), (0, x5), (0, x6), v7] [] h = if x6 < (-1) then vrun mX13_draw 54 [(1, 282), (0, x1), (0, x2), (0, x3), (0, x4), (0, x5 + 1), (0, x6), v7] [] h else vret vrun mX13_draw 77 [(1, 282), (0, x1), (0, x2), (0, x3), (0, x4), (0, x5), (0, x6), v7] [] (vcl mX13_toDraw [(1, 282), (0, x1), (0, x6 * x5)] h) := by
  refine (rn_iload (pc := 64) (dd bX13_draw dX13_draw_64) rfl).trans ?_
  refine (rn_iconst (pc := 66) (dd bX13_draw dX13_draw_66) (by decide)).trans ?_
  refine (rn_icmp_lt (t := 121) (pc := 67) (dd bX13_draw dX13_draw_67) rfl).trans (itec (fun c1 => ?_) (fun c1 => ?_))
  · refine (rg_iinc (pc := 121) (dd bX13_draw dX13_draw_121) rfl (Nat.le_of_ble_eq_true rfl) (p1 c1) (p2 c1) rfl).trans ?_
    refine (rn_goto (t := 54) (pc := 124) (dd bX13_draw dX13_draw_124) rfl).trans ?_
    rfl
  · refine (rn_aload_n (pc := 70) (dd bX13_draw dX13_draw_70) rfl).trans ?_
    refine (rn_iload_n (pc := 71) (dd bX13_draw dX13_draw_71) rfl).trans ?_
    refine (rn_iload (pc := 72) (dd bX13_draw dX13_draw_72) rfl).trans ?_
    refine (rn_iload (pc := 74) (dd bX13_draw dX13_draw_74) rfl).trans ?_
    refine (rg_imul (pc := 76) (dd bX13_draw dX13_draw_76) (p3 c1) (p4 c1)).trans ?_
    exact rg_virtual (pc := 77) (dd bX13_draw dX13_draw_77) rfl rfl (by decide) (kc := 34) rfl s5.1 (as := [(1, 282), (0, x1), (0, x6 * x5)]) rfl ⟨Nat.le_of_ble_eq_true rfl, Nat.le_of_ble_eq_true rfl, Nat.le_of_ble_eq_true rfl, Nat.le_of_ble_eq_true rfl⟩
theorem rX13_draw_80 {x1 : Int} {x2 : Int} {x3 : Int} {x4 : Int} {x5 : Int} {x6 : Int} {v7 : vv} {y0 : Int} {h : vH} (p1 : ¬ (x4 ≤ y0) → (-2147483648) ≤ x6 * x5) (p2 : ¬ (x4 ≤ y0) → x6 * x5 < 2147483648) (p3 : (-2147483648) ≤ x6 + (-2)) (p4 : x6 + (-2) < 2147483648) : vrun mX13_draw 80 [(1, 282), (0, x1), (0, x2), (0, x3), (0, x4), (0, x5), (0, x6), v7] [(0, y0)] h = vrun mX13_draw 64 [(1, 282), (0, x1), (0, x2), (0, (if x4 ≤ y0 then x3 else x6 * x5)), (0, (if x4 ≤ y0 then x4 else y0)), (0, x5), (0, x6 + (-2)), (0, y0)] [] h := by
  refine (rn_istore (pc := 80) (dd bX13_draw dX13_draw_80) (Nat.le_of_ble_eq_true rfl) rfl).trans ?_
  refine (rn_iload (pc := 82) (dd bX13_draw dX13_draw_82) rfl).trans ?_
  refine (rn_iload (pc := 84) (dd bX13_draw dX13_draw_84) rfl).trans ?_
  have e1 : vrun mX13_draw 86 [(1, 282), (0, x1), (0, x2), (0, x3), (0, x4), (0, x5), (0, x6), (0, y0)] [(0, x4), (0, y0)] h = vrun mX13_draw 98 [(1, 282), (0, x1), (0, x2), (0, x3), (0, x4), (0, x5), (0, x6), (0, y0)] [(0, (if x4 ≤ y0 then x3 else x6 * x5))] h := by
    refine (rn_icmp_ge (t := 97) (pc := 86) (dd bX13_draw dX13_draw_86) rfl).trans ?_
    by_cases c1 : x4 ≤ y0
    · refine (if_pos c1).trans ?_
      refine (rn_iload_n (pc := 97) (dd bX13_draw dX13_draw_97) rfl).trans ?_
      refine Eq.trans (b := vrun mX13_draw 98 [(1, 282), (0, x1), (0, x2), (0, x3), (0, x4), (0, x5), (0, x6), (0, y0)] [(0, x3)] h) rfl ?_
      simp only [if_pos c1]
    · refine (if_neg c1).trans ?_
      refine (rn_iload (pc := 89) (dd bX13_draw dX13_draw_89) rfl).trans ?_
      refine (rn_iload (pc := 91) (dd bX13_draw dX13_draw_91) rfl).trans ?_
      refine (rg_imul (pc := 93) (dd bX13_draw dX13_draw_93) (p1 c1) (p2 c1)).trans ?_
      refine (rn_goto (t := 98) (pc := 94) (dd bX13_draw dX13_draw_94) rfl).trans ?_
      refine Eq.trans (b := vrun mX13_draw 98 [(1, 282), (0, x1), (0, x2), (0, x3), (0, x4), (0, x5), (0, x6), (0, y0)] [(0, x6 * x5)] h) rfl ?_
      simp only [if_neg c1]
  refine e1.trans ?_
  refine (rn_istore_n (pc := 98) (dd bX13_draw dX13_draw_98) (Nat.le_of_ble_eq_true rfl) rfl).trans ?_
  refine (rn_iload (pc := 99) (dd bX13_draw dX13_draw_99) rfl).trans ?_
  refine (rn_iload (pc := 101) (dd bX13_draw dX13_draw_101) rfl).trans ?_
  have e2 : vrun mX13_draw 103 [(1, 282), (0, x1), (0, x2), (0, (if x4 ≤ y0 then x3 else x6 * x5)), (0, x4), (0, x5), (0, x6), (0, y0)] [(0, x4), (0, y0)] h = vrun mX13_draw 113 [(1, 282), (0, x1), (0, x2), (0, (if x4 ≤ y0 then x3 else x6 * x5)), (0, x4), (0, x5), (0, x6), (0, y0)] [(0, (if x4 ≤ y0 then x4 else y0))] h := by
    refine (rn_icmp_ge (t := 111) (pc := 103) (dd bX13_draw dX13_draw_103) rfl).trans ?_
    by_cases c2 : x4 ≤ y0
    · refine (if_pos c2).trans ?_
      refine (rn_iload (pc := 111) (dd bX13_draw dX13_draw_111) rfl).trans ?_
      refine Eq.trans (b := vrun mX13_draw 113 [(1, 282), (0, x1), (0, x2), (0, (if x4 ≤ y0 then x3 else x6 * x5)), (0, x4), (0, x5), (0, x6), (0, y0)] [(0, x4)] h) rfl ?_
      simp only [if_pos c2]
    · refine (if_neg c2).trans ?_
      refine (rn_iload (pc := 106) (dd bX13_draw dX13_draw_106) rfl).trans ?_
      refine (rn_goto (t := 113) (pc := 108) (dd bX13_draw dX13_draw_108) rfl).trans ?_
      refine Eq.trans (b := vrun mX13_draw 113 [(1, 282), (0, x1), (0, x2), (0, (if x4 ≤ y0 then x3 else x6 * x5)), (0, x4), (0, x5), (0, x6), (0, y0)] [(0, y0)] h) rfl ?_
      simp only [if_neg c2]
  refine e2.trans ?_
  refine (rn_istore (pc := 113) (dd bX13_draw dX13_draw_113) (Nat.le_of_ble_eq_true rfl) rfl).trans ?_
  refine (rg_iinc (pc := 115) (dd bX13_draw dX13_draw_115) rfl (Nat.le_of_ble_eq_true rfl) p3 p4 rfl).trans ?_
  refine (rn_goto (t := 64) (pc := 118) (dd bX13_draw dX13_draw_118) rfl).trans ?_
  rfl
theorem bX13_shift : vmB mX13_shift = cX13_shift := rfl
theorem rX13_shift_0 {x1 : Int} {h : vH} (s1 : shModel h) : vrun mX13_shift 0 [(1, 282), (0, x1)] [] h = vret vrun mX13_shift 13 [(1, 282), (0, x1)] [] (vcl mX13_isFine [(1, 282), (0, (if ¬ (¬ (x1 < 0) ∧ ¬ (3 < x1)) then 1 else 0))] h) := by
  refine (rn_aload_n (pc := 0) (dd bX13_shift dX13_shift_0) rfl).trans ?_
  refine (rn_iload_n (pc := 1) (dd bX13_shift dX13_shift_1) rfl).trans ?_
  refine (rg_static (pc := 2) (dd bX13_shift dX13_shift_2) rfl (by decide) (Nat.le_of_ble_eq_true rfl) (as := [(0, x1)]) rfl rfl ⟨Nat.le_of_ble_eq_true rfl, Nat.le_of_ble_eq_true rfl, Nat.le_of_ble_eq_true rfl, Nat.le_of_ble_eq_true rfl⟩).trans ?_
  refine (vret_v spX13_isPane).trans ?_
  have e1 : vrun mX13_shift 5 [(1, 282), (0, x1)] [(0, (if ¬ (x1 < 0) ∧ ¬ (3 < x1) then 1 else 0)), (1, 282)] h = vrun mX13_shift 13 [(1, 282), (0, x1)] [(0, (if ¬ (¬ (x1 < 0) ∧ ¬ (3 < x1)) then 1 else 0)), (1, 282)] h := by
    refine (rg_beq (t := 12) (pc := 5) (dd bX13_shift dX13_shift_5) rfl).trans ?_
    by_cases c1 : ¬ (x1 < 0) ∧ ¬ (3 < x1)
    · refine (if_pos c1).trans ?_
      refine (rn_iconst (pc := 8) (dd bX13_shift dX13_shift_8) (by decide)).trans ?_
      refine (rn_goto (t := 13) (pc := 9) (dd bX13_shift dX13_shift_9) rfl).trans ?_
      refine Eq.trans (b := vrun mX13_shift 13 [(1, 282), (0, x1)] [(0, 0), (1, 282)] h) rfl ?_
      simp only [c1, true_or, false_or, or_true, or_false, true_and, false_and, and_true, and_false, not_true_eq_false, not_false_eq_true, ne_eq, if_true, if_false, ↓reduceIte]
    · refine (if_neg c1).trans ?_
      refine (rn_iconst (pc := 12) (dd bX13_shift dX13_shift_12) (by decide)).trans ?_
      refine Eq.trans (b := vrun mX13_shift 13 [(1, 282), (0, x1)] [(0, 1), (1, 282)] h) rfl ?_
      simp only [c1, true_or, false_or, or_true, or_false, true_and, false_and, and_true, and_false, not_true_eq_false, not_false_eq_true, ne_eq, if_true, if_false, ↓reduceIte]
  refine e1.trans ?_
  exact rg_virtual (pc := 13) (dd bX13_shift dX13_shift_13) rfl rfl (by decide) (kc := 34) rfl s1.1 (as := [(1, 282), (0, (if ¬ (¬ (x1 < 0) ∧ ¬ (3 < x1)) then 1 else 0))]) rfl ⟨Nat.le_of_ble_eq_true rfl, Nat.le_of_ble_eq_true rfl, Nat.le_of_ble_eq_true rfl, Nat.le_of_ble_eq_true rfl⟩
theorem rX13_shift_16 {x1 : Int} {y0 : Int} {h : vH} (s1 : shModel h) (p2 : ¬ (y0 = 0) → 0 ≤ x1) (p3 : ¬ (y0 = 0) → x1 < 4) : vrun mX13_shift 16 [(1, 282), (0, x1)] [(0, y0)] h = some (.inl (some (0, (if y0 = 0 then 0 else h 2 330 x1))), h) := by
  have e1 : vrun mX13_shift 16 [(1, 282), (0, x1)] [(0, y0)] h = vrun mX13_shift 29 [(1, 282), (0, x1)] [(0, (if y0 = 0 then 0 else h 2 330 x1))] h := by
    refine (rn_if_eq (t := 28) (pc := 16) (dd bX13_shift dX13_shift_16) rfl).trans ?_
    by_cases c1 : y0 = 0
    · refine (if_pos c1).trans ?_
      refine (rn_iconst (pc := 28) (dd bX13_shift dX13_shift_28) (by decide)).trans ?_
      refine Eq.trans (b := vrun mX13_shift 29 [(1, 282), (0, x1)] [(0, 0)] h) rfl ?_
      simp only [if_pos c1]
    · refine (if_neg c1).trans ?_
      refine (rn_aload_n (pc := 19) (dd bX13_shift dX13_shift_19) rfl).trans ?_
      refine (rg_gf (pc := 20) (dd bX13_shift dX13_shift_20) (ci := 14) (j := 53) rfl rfl (key := 1553) rfl (kc := 34) rfl s1.1 s1.2.2.2.2.2.2.2.2.2.2.2.2.2.2.2.2.2.2.2.2.2.2.2.2.2.2.2.2.2.2.2.2.2.2.2.2.2.2.2.2.2.2.2.2.2.2.2.2.2.2.2.2.2.2.2.2.2.2.2.2.2.2.2.2.2.2.2.2.2.2.2.2.2.2.2.2.2.2.2.2.2.2.2.2.2.2.2.2.2.2.2.2.2.2.2.2.2.2.2.2.2.2.2.2.2.2.2.2.2.2.2.2.2.2.2.2.2.2.2.2.2.2.2.2.2.2.2.2.2.2.2.2.2.2.2.2.2.2.2.2.2.2.1).trans ?_
      refine (rn_iload_n (pc := 23) (dd bX13_shift dX13_shift_23) rfl).trans ?_
      refine (rg_iaload (pc := 24) (dd bX13_shift dX13_shift_24) s1.2.2.2.2.2.2.2.2.2.2.2.2.2.2.2.2.2.2.2.2.2.2.2.2.2.2.2.2.2.2.2.2.2.2.2.2.2.2.2.2.2.2.2.2.2.2.2.2.2.2.2.2.2.2.2.2.2.2.2.2.2.2.2.2.2.2.2.2.2.2.2.2.2.2.2.2.2.2.2.2.2.2.2.2.2.2.2.2.2.2.2.2.2.2.2.2.2.2.2.2.2.2.2.2.2.2.2.2.2.2.2.2.2.2.2.2.2.2.2.2.2.2.2.2.2.2.2.2.2.2.2.2.2.2.2.2.2.2.2.2.2.2.2.1 s1.2.2.2.2.2.2.2.2.2.2.2.2.2.2.2.2.2.2.2.2.2.2.2.2.2.2.2.2.2.2.2.2.2.2.2.2.2.2.2.2.2.2.2.2.2.2.2.2.2.2.2.2.2.2.2.2.2.2.2.2.2.2.2.2.2.2.2.2.2.2.2.2.2.2.2.2.2.2.2.2.2.2.2.2.2.2.2.2.2.2.2.2.2.2.2.2.2.2.2.2.2.2.2.2.2.2.2.2.2.2.2.2.2.2.2.2.2.2.2.2.2.2.2.2.2.2.2.2.2.2.2.2.2.2.2.2.2.2.2.2.2.2.2.2.1 (p2 c1) (p3 c1) rfl).trans ?_
      refine (rn_goto (t := 29) (pc := 25) (dd bX13_shift dX13_shift_25) rfl).trans ?_
      refine Eq.trans (b := vrun mX13_shift 29 [(1, 282), (0, x1)] [(0, h 2 330 x1)] h) rfl ?_
      simp only [if_neg c1]
  refine e1.trans ?_
  exact rn_ireturn (pc := 29) (dd bX13_shift dX13_shift_29) (Or.inl rfl)
