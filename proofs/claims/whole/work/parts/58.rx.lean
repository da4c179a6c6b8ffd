theorem rX13_encloses_0x {h : vH} : vrun mX13_encloses 0 [(1, 282), (9, 0), (9, 0), (9, 0)] [] h = vrun mX13_encloses 4 [(1, 282), (0, 0), (0, 0), (9, 0)] [] h := by
  refine (rn_iconst (pc := 0) (dd bX13_encloses dX13_encloses_0) (by decide)).trans ?_
  refine (rn_istore_n (pc := 1) (dd bX13_encloses dX13_encloses_1) (Nat.le_of_ble_eq_true rfl) rfl).trans ?_
  refine (rn_iconst (pc := 2) (dd bX13_encloses dX13_encloses_2) (by decide)).trans ?_
  refine (rn_istore_n (pc := 3) (dd bX13_encloses dX13_encloses_3) (Nat.le_of_ble_eq_true rfl) rfl).trans ?_
  rfl
theorem rX13_encloses_4x {x1 : Int} {x2 : Int} {h : vH} (s1 : shModel h) (p2 : ¬ (h 1540 282 0 ≤ x2) → 0 ≤ x2) (p3 : ¬ (h 1540 282 0 ≤ x2) → x2 < 140) (p4 : ¬ (h 1540 282 0 ≤ x2) → h 2 311 x2 = 60 → 0 ≤ x1) (p5 : ¬ (h 1540 282 0 ≤ x2) → h 2 311 x2 = 60 → x1 < 140) (p6 : ¬ (h 1540 282 0 ≤ x2) → ¬ (h 2 311 x2 = 60) → h 2 311 x2 = 62 → ¬ (x1 ≤ 0) → x1 + (-1) < 2147483648) (p7 : ¬ (h 1540 282 0 ≤ x2) → ¬ (h 2 311 x2 = 60) → h 2 311 x2 = 62 → ¬ (x1 ≤ 0) → x1 + (-1) < 140) (p8 : ¬ (h 1540 282 0 ≤ x2) → ¬ (h 2 311 x2 = 60) → h 2 311 x2 = 62 → ¬ (x1 ≤ 0) → 0 ≤ h 2 325 (x1 + (-1))) (p9 : ¬ (h 1540 282 0 ≤ x2) → ¬ (h 2 311 x2 = 60) → h 2 311 x2 = 62 → ¬ (x1 ≤ 0) → h 2 325 (x1 + (-1)) < 140) : vrun mX13_encloses 4 [(1, 282), (0, x1), (0, x2), (9, 0)] [] h = if h 1540 282 0 ≤ x2 then vrun mX13_encloses 95 [(1, 282), (0, 0), (0, 0), (9, 0)] [] h else vrun mX13_encloses 4 [(1, 282), (0, (if h 2 311 x2 = 60 then x1 + 1 else (if h 2 311 x2 = 62 then (if x1 ≤ 0 then x1 else x1 + (-1)) else x1))), (0, x2 + 1), (9, 0)] [] (if h 2 311 x2 = 60 then vup (vup h 2 323 x2 (-1)) 2 325 x1 x2 else (if h 2 311 x2 = 62 then (if x1 ≤ 0 then vup h 2 323 x2 (-1) else vup (vup (vup h 2 323 x2 (-1)) 2 323 x2 (h 2 325 (x1 + (-1)))) 2 323 (h 2 325 (x1 + (-1))) x2) else vup h 2 323 x2 (-1))) := by
  refine (rn_iload_n (pc := 4) (dd bX13_encloses dX13_encloses_4) rfl).trans ?_
  refine (rn_aload_n (pc := 5) (dd bX13_encloses dX13_encloses_5) rfl).trans ?_
  refine (rg_gf (pc := 6) (dd bX13_encloses dX13_encloses_6) (ci := 14) (j := 40) rfl rfl (key := 1540) rfl (kc := 34) rfl s1.1 rfl).trans ?_
  refine (rn_icmp_ge (t := 91) (pc := 9) (dd bX13_encloses dX13_encloses_9) rfl).trans (itec (fun c1 => ?_) (fun c1 => ?_))
  · refine (rn_iconst (pc := 91) (dd bX13_encloses dX13_encloses_91) (by decide)).trans ?_
    refine (rn_istore_n (pc := 92) (dd bX13_encloses dX13_encloses_92) (Nat.le_of_ble_eq_true rfl) rfl).trans ?_
    refine (rn_iconst (pc := 93) (dd bX13_encloses dX13_encloses_93) (by decide)).trans ?_
    refine (rn_istore_n (pc := 94) (dd bX13_encloses dX13_encloses_94) (Nat.le_of_ble_eq_true rfl) rfl).trans ?_
    rfl
  · refine (rn_aload_n (pc := 12) (dd bX13_encloses dX13_encloses_12) rfl).trans ?_
    refine (rg_gf (pc := 13) (dd bX13_encloses dX13_encloses_13) (ci := 14) (j := 45) rfl rfl (key := 1545) rfl (kc := 34) rfl s1.1 s1.2.2.2.2.2.2.2.2.2.2.2.2.2.2.2.2.2.2.2.2.2.2.2.2.2.2.2.2.2.2.2.2.2.2.2.2.2.2.2.2.2.2.2.2.2.2.2.2.2.2.2.2.2.2.2.2.2.2.2.2.2.2.2.2.2.2.2.2.2.2.2.2.2.2.2.2.2.2.2.2.2.2.2.2.2.2.2.2.2.2.2.2.2.2.2.2.2.2.2.2.2.2.2.2.2.2.2.2.2.2.2.2.2.2.2.2.2.2.2.2.2.1).trans ?_
    refine (rn_iload_n (pc := 16) (dd bX13_encloses dX13_encloses_16) rfl).trans ?_
    refine (rn_iconst (pc := 17) (dd bX13_encloses dX13_encloses_17) (by decide)).trans ?_
    refine (rg_iastore (pc := 18) (dd bX13_encloses dX13_encloses_18) s1.2.2.2.2.2.2.2.2.2.2.2.2.2.2.2.2.2.2.2.2.2.2.2.2.2.2.2.2.2.2.2.2.2.2.2.2.2.2.2.2.2.2.2.2.2.2.2.2.2.2.2.2.2.2.2.2.2.2.2.2.2.2.2.2.2.2.2.2.2.2.2.2.2.2.2.2.2.2.2.2.2.2.2.2.2.2.2.2.2.2.2.2.2.2.2.2.2.2.2.2.2.2.2.2.2.2.2.2.2.2.2.2.2.2.2.2.2.2.2.2.2.2.1 s1.2.2.2.2.2.2.2.2.2.2.2.2.2.2.2.2.2.2.2.2.2.2.2.2.2.2.2.2.2.2.2.2.2.2.2.2.2.2.2.2.2.2.2.2.2.2.2.2.2.2.2.2.2.2.2.2.2.2.2.2.2.2.2.2.2.2.2.2.2.2.2.2.2.2.2.2.2.2.2.2.2.2.2.2.2.2.2.2.2.2.2.2.2.2.2.2.2.2.2.2.2.2.2.2.2.2.2.2.2.2.2.2.2.2.2.2.2.2.2.2.2.2.2.1 (p2 c1) (p3 c1)).trans ?_
    refine (rn_aload_n (pc := 19) (dd bX13_encloses dX13_encloses_19) rfl).trans ?_
    refine (rg_gf (pc := 20) (dd bX13_encloses dX13_encloses_20) (ci := 14) (j := 30) rfl rfl (key := 1530) rfl (kc := 34) rfl ((vup_k (by decide)).trans s1.1) ((vup_k (by decide)).trans s1.2.2.2.2.2.2.2.2.2.2.2.2.2.2.2.2.2.2.2.2.2.2.2.2.2.2.2.2.2.2.2.2.2.2.2.2.2.2.2.2.2.2.2.2.2.2.2.2.2.2.2.2.2.2.2.2.2.2.2.2.2.2.2.2.2.2.2.2.2.2.2.2.2.2.2.2.2.2.2.2.2.2.2.2.2.1)).trans ?_
    refine (rn_iload_n (pc := 23) (dd bX13_encloses dX13_encloses_23) rfl).trans ?_
    refine (rg_iaload (pc := 24) (dd bX13_encloses dX13_encloses_24) ((vup_k (by decide)).trans s1.2.2.2.2.2.2.2.2.2.2.2.2.2.2.2.2.2.2.2.2.2.2.2.2.2.2.2.2.2.2.2.2.2.2.2.2.2.2.2.2.2.2.2.2.2.2.2.2.2.2.2.2.2.2.2.2.2.2.2.2.2.2.2.2.2.2.2.2.2.2.2.2.2.2.2.2.2.2.2.2.2.2.2.2.2.2.1) ((vup_k (by decide)).trans s1.2.2.2.2.2.2.2.2.2.2.2.2.2.2.2.2.2.2.2.2.2.2.2.2.2.2.2.2.2.2.2.2.2.2.2.2.2.2.2.2.2.2.2.2.2.2.2.2.2.2.2.2.2.2.2.2.2.2.2.2.2.2.2.2.2.2.2.2.2.2.2.2.2.2.2.2.2.2.2.2.2.2.2.2.2.2.2.1) (by have z0 := p2 c1; have z1 := p3 c1; omega) (by have z0 := p2 c1; have z1 := p3 c1; omega) ((vup_r (by omega)).trans rfl)).trans ?_
    refine (rn_bipush (pc := 25) (dd bX13_encloses dX13_encloses_25) (by decide)).trans ?_
    have e3 : vrun mX13_encloses 27 [(1, 282), (0, x1), (0, x2), (9, 0)] [(0, 60), (0, h 2 311 x2)] (vup h 2 323 x2 (-1)) = vrun mX13_encloses 85 [(1, 282), (0, (if h 2 311 x2 = 60 then x1 + 1 else (if h 2 311 x2 = 62 then (if x1 ≤ 0 then x1 else x1 + (-1)) else x1))), (0, x2), (9, 0)] [] (if h 2 311 x2 = 60 then vup (vup h 2 323 x2 (-1)) 2 325 x1 x2 else (if h 2 311 x2 = 62 then (if x1 ≤ 0 then vup h 2 323 x2 (-1) else vup (vup (vup h 2 323 x2 (-1)) 2 323 x2 (h 2 325 (x1 + (-1)))) 2 323 (h 2 325 (x1 + (-1))) x2) else vup h 2 323 x2 (-1))) := by
      refine (rg_icmp_ne (t := 43) (pc := 27) (dd bX13_encloses dX13_encloses_27) rfl).trans ?_
      by_cases c2 : h 2 311 x2 = 60
      · refine (if_pos c2).trans ?_
        refine (rn_aload_n (pc := 30) (dd bX13_encloses dX13_encloses_30) rfl).trans ?_
        refine (rg_gf (pc := 31) (dd bX13_encloses dX13_encloses_31) (ci := 14) (j := 47) rfl rfl (key := 1547) rfl (kc := 34) rfl ((vup_k (by decide)).trans s1.1) ((vup_k (by decide)).trans s1.2.2.2.2.2.2.2.2.2.2.2.2.2.2.2.2.2.2.2.2.2.2.2.2.2.2.2.2.2.2.2.2.2.2.2.2.2.2.2.2.2.2.2.2.2.2.2.2.2.2.2.2.2.2.2.2.2.2.2.2.2.2.2.2.2.2.2.2.2.2.2.2.2.2.2.2.2.2.2.2.2.2.2.2.2.2.2.2.2.2.2.2.2.2.2.2.2.2.2.2.2.2.2.2.2.2.2.2.2.2.2.2.2.2.2.2.2.2.2.2.2.2.2.2.2.2.2.1)).trans ?_
        refine (rn_iload_n (pc := 34) (dd bX13_encloses dX13_encloses_34) rfl).trans ?_
        refine (rn_iload_n (pc := 35) (dd bX13_encloses dX13_encloses_35) rfl).trans ?_
        refine (rg_iastore (pc := 36) (dd bX13_encloses dX13_encloses_36) ((vup_k (by decide)).trans s1.2.2.2.2.2.2.2.2.2.2.2.2.2.2.2.2.2.2.2.2.2.2.2.2.2.2.2.2.2.2.2.2.2.2.2.2.2.2.2.2.2.2.2.2.2.2.2.2.2.2.2.2.2.2.2.2.2.2.2.2.2.2.2.2.2.2.2.2.2.2.2.2.2.2.2.2.2.2.2.2.2.2.2.2.2.2.2.2.2.2.2.2.2.2.2.2.2.2.2.2.2.2.2.2.2.2.2.2.2.2.2.2.2.2.2.2.2.2.2.2.2.2.2.2.2.2.2.2.1) ((vup_k (by decide)).trans s1.2.2.2.2.2.2.2.2.2.2.2.2.2.2.2.2.2.2.2.2.2.2.2.2.2.2.2.2.2.2.2.2.2.2.2.2.2.2.2.2.2.2.2.2.2.2.2.2.2.2.2.2.2.2.2.2.2.2.2.2.2.2.2.2.2.2.2.2.2.2.2.2.2.2.2.2.2.2.2.2.2.2.2.2.2.2.2.2.2.2.2.2.2.2.2.2.2.2.2.2.2.2.2.2.2.2.2.2.2.2.2.2.2.2.2.2.2.2.2.2.2.2.2.2.2.2.2.2.2.1) (p4 c1 c2) (p5 c1 c2)).trans ?_
        refine (rg_iinc (pc := 37) (dd bX13_encloses dX13_encloses_37) rfl (Nat.le_of_ble_eq_true rfl) (by have z0 := p4 c1 c2; have z1 := p5 c1 c2; omega) (by have z0 := p4 c1 c2; have z1 := p5 c1 c2; omega) rfl).trans ?_
        refine (rn_goto (t := 85) (pc := 40) (dd bX13_encloses dX13_encloses_40) rfl).trans ?_
        refine Eq.trans (b := vrun mX13_encloses 85 [(1, 282), (0, x1 + 1), (0, x2), (9, 0)] [] (vup (vup h 2 323 x2 (-1)) 2 325 x1 x2)) rfl ?_
        simp only [if_pos c2]
      · refine (if_neg c2).trans ?_
        refine (rn_aload_n (pc := 43) (dd bX13_encloses dX13_encloses_43) rfl).trans ?_
        refine (rg_gf (pc := 44) (dd bX13_encloses dX13_encloses_44) (ci := 14) (j := 30) rfl rfl (key := 1530) rfl (kc := 34) rfl ((vup_k (by decide)).trans s1.1) ((vup_k (by decide)).trans s1.2.2.2.2.2.2.2.2.2.2.2.2.2.2.2.2.2.2.2.2.2.2.2.2.2.2.2.2.2.2.2.2.2.2.2.2.2.2.2.2.2.2.2.2.2.2.2.2.2.2.2.2.2.2.2.2.2.2.2.2.2.2.2.2.2.2.2.2.2.2.2.2.2.2.2.2.2.2.2.2.2.2.2.2.2.1)).trans ?_
        refine (rn_iload_n (pc := 47) (dd bX13_encloses dX13_encloses_47) rfl).trans ?_
        refine (rg_iaload (pc := 48) (dd bX13_encloses dX13_encloses_48) ((vup_k (by decide)).trans s1.2.2.2.2.2.2.2.2.2.2.2.2.2.2.2.2.2.2.2.2.2.2.2.2.2.2.2.2.2.2.2.2.2.2.2.2.2.2.2.2.2.2.2.2.2.2.2.2.2.2.2.2.2.2.2.2.2.2.2.2.2.2.2.2.2.2.2.2.2.2.2.2.2.2.2.2.2.2.2.2.2.2.2.2.2.2.1) ((vup_k (by decide)).trans s1.2.2.2.2.2.2.2.2.2.2.2.2.2.2.2.2.2.2.2.2.2.2.2.2.2.2.2.2.2.2.2.2.2.2.2.2.2.2.2.2.2.2.2.2.2.2.2.2.2.2.2.2.2.2.2.2.2.2.2.2.2.2.2.2.2.2.2.2.2.2.2.2.2.2.2.2.2.2.2.2.2.2.2.2.2.2.2.1) (by have z0 := p2 c1; have z1 := p3 c1; omega) (by have z0 := p2 c1; have z1 := p3 c1; omega) ((vup_r (by omega)).trans rfl)).trans ?_
        refine (rn_bipush (pc := 49) (dd bX13_encloses dX13_encloses_49) (by decide)).trans ?_
        have e2 : vrun mX13_encloses 51 [(1, 282), (0, x1), (0, x2), (9, 0)] [(0, 62), (0, h 2 311 x2)] (vup h 2 323 x2 (-1)) = vrun mX13_encloses 85 [(1, 282), (0, (if h 2 311 x2 = 62 then (if x1 ≤ 0 then x1 else x1 + (-1)) else x1)), (0, x2), (9, 0)] [] (if h 2 311 x2 = 62 then (if x1 ≤ 0 then vup h 2 323 x2 (-1) else vup (vup (vup h 2 323 x2 (-1)) 2 323 x2 (h 2 325 (x1 + (-1)))) 2 323 (h 2 325 (x1 + (-1))) x2) else vup h 2 323 x2 (-1)) := by
          refine (rg_icmp_ne (t := 85) (pc := 51) (dd bX13_encloses dX13_encloses_51) rfl).trans ?_
          by_cases c3 : h 2 311 x2 = 62
          · refine (if_pos c3).trans ?_
            refine (rn_iload_n (pc := 54) (dd bX13_encloses dX13_encloses_54) rfl).trans ?_
            have e1 : vrun mX13_encloses 55 [(1, 282), (0, x1), (0, x2), (9, 0)] [(0, x1)] (vup h 2 323 x2 (-1)) = vrun mX13_encloses 85 [(1, 282), (0, (if x1 ≤ 0 then x1 else x1 + (-1))), (0, x2), (9, 0)] [] (if x1 ≤ 0 then vup h 2 323 x2 (-1) else vup (vup (vup h 2 323 x2 (-1)) 2 323 x2 (h 2 325 (x1 + (-1)))) 2 323 (h 2 325 (x1 + (-1))) x2) := by
              refine (rn_if_le (t := 85) (pc := 55) (dd bX13_encloses dX13_encloses_55) rfl).trans ?_
              by_cases c4 : x1 ≤ 0
              · refine (if_pos c4).trans ?_
                refine Eq.trans (b := vrun mX13_encloses 85 [(1, 282), (0, x1), (0, x2), (9, 0)] [] (vup h 2 323 x2 (-1))) rfl ?_
                simp only [if_pos c4]
              · refine (if_neg c4).trans ?_
                refine (rg_iinc (pc := 58) (dd bX13_encloses dX13_encloses_58) rfl (Nat.le_of_ble_eq_true rfl) (by omega) (p6 c1 c2 c3 c4) rfl).trans ?_
                refine (rn_aload_n (pc := 61) (dd bX13_encloses dX13_encloses_61) rfl).trans ?_
                refine (rg_gf (pc := 62) (dd bX13_encloses dX13_encloses_62) (ci := 14) (j := 45) rfl rfl (key := 1545) rfl (kc := 34) rfl ((vup_k (by decide)).trans s1.1) ((vup_k (by decide)).trans s1.2.2.2.2.2.2.2.2.2.2.2.2.2.2.2.2.2.2.2.2.2.2.2.2.2.2.2.2.2.2.2.2.2.2.2.2.2.2.2.2.2.2.2.2.2.2.2.2.2.2.2.2.2.2.2.2.2.2.2.2.2.2.2.2.2.2.2.2.2.2.2.2.2.2.2.2.2.2.2.2.2.2.2.2.2.2.2.2.2.2.2.2.2.2.2.2.2.2.2.2.2.2.2.2.2.2.2.2.2.2.2.2.2.2.2.2.2.2.2.2.2.1)).trans ?_
                refine (rn_iload_n (pc := 65) (dd bX13_encloses dX13_encloses_65) rfl).trans ?_
                refine (rn_aload_n (pc := 66) (dd bX13_encloses dX13_encloses_66) rfl).trans ?_
                refine (rg_gf (pc := 67) (dd bX13_encloses dX13_encloses_67) (ci := 14) (j := 47) rfl rfl (key := 1547) rfl (kc := 34) rfl ((vup_k (by decide)).trans s1.1) ((vup_k (by decide)).trans s1.2.2.2.2.2.2.2.2.2.2.2.2.2.2.2.2.2.2.2.2.2.2.2.2.2.2.2.2.2.2.2.2.2.2.2.2.2.2.2.2.2.2.2.2.2.2.2.2.2.2.2.2.2.2.2.2.2.2.2.2.2.2.2.2.2.2.2.2.2.2.2.2.2.2.2.2.2.2.2.2.2.2.2.2.2.2.2.2.2.2.2.2.2.2.2.2.2.2.2.2.2.2.2.2.2.2.2.2.2.2.2.2.2.2.2.2.2.2.2.2.2.2.2.2.2.2.2.1)).trans ?_
                refine (rn_iload_n (pc := 70) (dd bX13_encloses dX13_encloses_70) rfl).trans ?_
                refine (rg_iaload (pc := 71) (dd bX13_encloses dX13_encloses_71) ((vup_k (by decide)).trans s1.2.2.2.2.2.2.2.2.2.2.2.2.2.2.2.2.2.2.2.2.2.2.2.2.2.2.2.2.2.2.2.2.2.2.2.2.2.2.2.2.2.2.2.2.2.2.2.2.2.2.2.2.2.2.2.2.2.2.2.2.2.2.2.2.2.2.2.2.2.2.2.2.2.2.2.2.2.2.2.2.2.2.2.2.2.2.2.2.2.2.2.2.2.2.2.2.2.2.2.2.2.2.2.2.2.2.2.2.2.2.2.2.2.2.2.2.2.2.2.2.2.2.2.2.2.2.2.2.1) ((vup_k (by decide)).trans s1.2.2.2.2.2.2.2.2.2.2.2.2.2.2.2.2.2.2.2.2.2.2.2.2.2.2.2.2.2.2.2.2.2.2.2.2.2.2.2.2.2.2.2.2.2.2.2.2.2.2.2.2.2.2.2.2.2.2.2.2.2.2.2.2.2.2.2.2.2.2.2.2.2.2.2.2.2.2.2.2.2.2.2.2.2.2.2.2.2.2.2.2.2.2.2.2.2.2.2.2.2.2.2.2.2.2.2.2.2.2.2.2.2.2.2.2.2.2.2.2.2.2.2.2.2.2.2.2.2.1) (by have z0 := p6 c1 c2 c3 c4; omega) (p7 c1 c2 c3 c4) ((vup_r (by omega)).trans rfl)).trans ?_
                refine (rg_iastore (pc := 72) (dd bX13_encloses dX13_encloses_72) ((vup_k (by decide)).trans s1.2.2.2.2.2.2.2.2.2.2.2.2.2.2.2.2.2.2.2.2.2.2.2.2.2.2.2.2.2.2.2.2.2.2.2.2.2.2.2.2.2.2.2.2.2.2.2.2.2.2.2.2.2.2.2.2.2.2.2.2.2.2.2.2.2.2.2.2.2.2.2.2.2.2.2.2.2.2.2.2.2.2.2.2.2.2.2.2.2.2.2.2.2.2.2.2.2.2.2.2.2.2.2.2.2.2.2.2.2.2.2.2.2.2.2.2.2.2.2.2.2.2.1) ((vup_k (by decide)).trans s1.2.2.2.2.2.2.2.2.2.2.2.2.2.2.2.2.2.2.2.2.2.2.2.2.2.2.2.2.2.2.2.2.2.2.2.2.2.2.2.2.2.2.2.2.2.2.2.2.2.2.2.2.2.2.2.2.2.2.2.2.2.2.2.2.2.2.2.2.2.2.2.2.2.2.2.2.2.2.2.2.2.2.2.2.2.2.2.2.2.2.2.2.2.2.2.2.2.2.2.2.2.2.2.2.2.2.2.2.2.2.2.2.2.2.2.2.2.2.2.2.2.2.2.1) (by have z0 := p2 c1; have z1 := p3 c1; omega) (by have z0 := p2 c1; have z1 := p3 c1; omega)).trans ?_
                refine (rn_aload_n (pc := 73) (dd bX13_encloses dX13_encloses_73) rfl).trans ?_
                refine (rg_gf (pc := 74) (dd bX13_encloses dX13_encloses_74) (ci := 14) (j := 45) rfl rfl (key := 1545) rfl (kc := 34) rfl ((vup_k (by decide)).trans ((vup_k (by decide)).trans s1.1)) ((vup_k (by decide)).trans ((vup_k (by decide)).trans s1.2.2.2.2.2.2.2.2.2.2.2.2.2.2.2.2.2.2.2.2.2.2.2.2.2.2.2.2.2.2.2.2.2.2.2.2.2.2.2.2.2.2.2.2.2.2.2.2.2.2.2.2.2.2.2.2.2.2.2.2.2.2.2.2.2.2.2.2.2.2.2.2.2.2.2.2.2.2.2.2.2.2.2.2.2.2.2.2.2.2.2.2.2.2.2.2.2.2.2.2.2.2.2.2.2.2.2.2.2.2.2.2.2.2.2.2.2.2.2.2.2.1))).trans ?_
                refine (rn_aload_n (pc := 77) (dd bX13_encloses dX13_encloses_77) rfl).trans ?_
                refine (rg_gf (pc := 78) (dd bX13_encloses dX13_encloses_78) (ci := 14) (j := 47) rfl rfl (key := 1547) rfl (kc := 34) rfl ((vup_k (by decide)).trans ((vup_k (by decide)).trans s1.1)) ((vup_k (by decide)).trans ((vup_k (by decide)).trans s1.2.2.2.2.2.2.2.2.2.2.2.2.2.2.2.2.2.2.2.2.2.2.2.2.2.2.2.2.2.2.2.2.2.2.2.2.2.2.2.2.2.2.2.2.2.2.2.2.2.2.2.2.2.2.2.2.2.2.2.2.2.2.2.2.2.2.2.2.2.2.2.2.2.2.2.2.2.2.2.2.2.2.2.2.2.2.2.2.2.2.2.2.2.2.2.2.2.2.2.2.2.2.2.2.2.2.2.2.2.2.2.2.2.2.2.2.2.2.2.2.2.2.2.2.2.2.2.1))).trans ?_
                refine (rn_iload_n (pc := 81) (dd bX13_encloses dX13_encloses_81) rfl).trans ?_
                refine (rg_iaload (pc := 82) (dd bX13_encloses dX13_encloses_82) ((vup_k (by decide)).trans ((vup_k (by decide)).trans s1.2.2.2.2.2.2.2.2.2.2.2.2.2.2.2.2.2.2.2.2.2.2.2.2.2.2.2.2.2.2.2.2.2.2.2.2.2.2.2.2.2.2.2.2.2.2.2.2.2.2.2.2.2.2.2.2.2.2.2.2.2.2.2.2.2.2.2.2.2.2.2.2.2.2.2.2.2.2.2.2.2.2.2.2.2.2.2.2.2.2.2.2.2.2.2.2.2.2.2.2.2.2.2.2.2.2.2.2.2.2.2.2.2.2.2.2.2.2.2.2.2.2.2.2.2.2.2.2.1)) ((vup_k (by decide)).trans ((vup_k (by decide)).trans s1.2.2.2.2.2.2.2.2.2.2.2.2.2.2.2.2.2.2.2.2.2.2.2.2.2.2.2.2.2.2.2.2.2.2.2.2.2.2.2.2.2.2.2.2.2.2.2.2.2.2.2.2.2.2.2.2.2.2.2.2.2.2.2.2.2.2.2.2.2.2.2.2.2.2.2.2.2.2.2.2.2.2.2.2.2.2.2.2.2.2.2.2.2.2.2.2.2.2.2.2.2.2.2.2.2.2.2.2.2.2.2.2.2.2.2.2.2.2.2.2.2.2.2.2.2.2.2.2.2.1)) (by have z0 := p6 c1 c2 c3 c4; have z1 := p7 c1 c2 c3 c4; omega) (by have z0 := p6 c1 c2 c3 c4; have z1 := p7 c1 c2 c3 c4; omega) ((vup_r (by omega)).trans ((vup_r (by omega)).trans rfl))).trans ?_
                refine (rn_iload_n (pc := 83) (dd bX13_encloses dX13_encloses_83) rfl).trans ?_
                refine (rg_iastore (pc := 84) (dd bX13_encloses dX13_encloses_84) ((vup_k (by decide)).trans ((vup_k (by decide)).trans s1.2.2.2.2.2.2.2.2.2.2.2.2.2.2.2.2.2.2.2.2.2.2.2.2.2.2.2.2.2.2.2.2.2.2.2.2.2.2.2.2.2.2.2.2.2.2.2.2.2.2.2.2.2.2.2.2.2.2.2.2.2.2.2.2.2.2.2.2.2.2.2.2.2.2.2.2.2.2.2.2.2.2.2.2.2.2.2.2.2.2.2.2.2.2.2.2.2.2.2.2.2.2.2.2.2.2.2.2.2.2.2.2.2.2.2.2.2.2.2.2.2.2.1)) ((vup_k (by decide)).trans ((vup_k (by decide)).trans s1.2.2.2.2.2.2.2.2.2.2.2.2.2.2.2.2.2.2.2.2.2.2.2.2.2.2.2.2.2.2.2.2.2.2.2.2.2.2.2.2.2.2.2.2.2.2.2.2.2.2.2.2.2.2.2.2.2.2.2.2.2.2.2.2.2.2.2.2.2.2.2.2.2.2.2.2.2.2.2.2.2.2.2.2.2.2.2.2.2.2.2.2.2.2.2.2.2.2.2.2.2.2.2.2.2.2.2.2.2.2.2.2.2.2.2.2.2.2.2.2.2.2.2.1)) (p8 c1 c2 c3 c4) (p9 c1 c2 c3 c4)).trans ?_
                refine Eq.trans (b := vrun mX13_encloses 85 [(1, 282), (0, x1 + (-1)), (0, x2), (9, 0)] [] (vup (vup (vup h 2 323 x2 (-1)) 2 323 x2 (h 2 325 (x1 + (-1)))) 2 323 (h 2 325 (x1 + (-1))) x2)) rfl ?_
                simp only [if_neg c4]
            refine e1.trans ?_
            refine Eq.trans (b := vrun mX13_encloses 85 [(1, 282), (0, (if x1 ≤ 0 then x1 else x1 + (-1))), (0, x2), (9, 0)] [] (if x1 ≤ 0 then vup h 2 323 x2 (-1) else vup (vup (vup h 2 323 x2 (-1)) 2 323 x2 (h 2 325 (x1 + (-1)))) 2 323 (h 2 325 (x1 + (-1))) x2)) rfl ?_
            simp only [if_pos c3]
          · refine (if_neg c3).trans ?_
            refine Eq.trans (b := vrun mX13_encloses 85 [(1, 282), (0, x1), (0, x2), (9, 0)] [] (vup h 2 323 x2 (-1))) rfl ?_
            simp only [if_neg c3]
        refine e2.trans ?_
        refine Eq.trans (b := vrun mX13_encloses 85 [(1, 282), (0, (if h 2 311 x2 = 62 then (if x1 ≤ 0 then x1 else x1 + (-1)) else x1)), (0, x2), (9, 0)] [] (if h 2 311 x2 = 62 then (if x1 ≤ 0 then vup h 2 323 x2 (-1) else vup (vup (vup h 2 323 x2 (-1)) 2 323 x2 (h 2 325 (x1 + (-1)))) 2 323 (h 2 325 (x1 + (-1))) x2) else vup h 2 323 x2 (-1))) rfl ?_
        simp only [if_neg c2]
    refine e3.trans ?_
    refine (rg_iinc (pc := 85) (dd bX13_encloses dX13_encloses_85) rfl (Nat.le_of_ble_eq_true rfl) (by have z0 := p2 c1; have z1 := p3 c1; omega) (by have z0 := p2 c1; have z1 := p3 c1; omega) rfl).trans ?_
    refine (rn_goto (t := 4) (pc := 88) (dd bX13_encloses dX13_encloses_88) rfl).trans ?_
    rfl
theorem rX13_encloses_95x {x1 : Int} {x2 : Int} {v3 : vv} {h : vH} (s1 : shModel h) (p2 : ¬ (h 1540 282 0 ≤ x2) → 0 ≤ x2) (p3 : ¬ (h 1540 282 0 ≤ x2) → x2 < 140) (p4 : ¬ (h 1540 282 0 ≤ x2) → (-2147483648) ≤ x1 - (if (¬ (h 2 323 x2 = (-1)) ∧ (h 2 311 x2 = 60 ∨ h 2 311 x2 = 62)) ∧ h 2 311 x2 = 62 then 1 else 0)) (p5 : ¬ (h 1540 282 0 ≤ x2) → x1 - (if (¬ (h 2 323 x2 = (-1)) ∧ (h 2 311 x2 = 60 ∨ h 2 311 x2 = 62)) ∧ h 2 311 x2 = 62 then 1 else 0) < 2147483648) : vrun mX13_encloses 95 [(1, 282), (0, x1), (0, x2), v3] [] h = if h 1540 282 0 ≤ x2 then some (.inl none, h) else vrun mX13_encloses 164 [(1, 282), (0, x1 - (if (¬ (h 2 323 x2 = (-1)) ∧ (h 2 311 x2 = 60 ∨ h 2 311 x2 = 62)) ∧ h 2 311 x2 = 62 then 1 else 0)), (0, x2), (0, (if ¬ (h 2 323 x2 = (-1)) ∧ (h 2 311 x2 = 60 ∨ h 2 311 x2 = 62) then 1 else 0))] [] h := by
  refine (rn_iload_n (pc := 95) (dd bX13_encloses dX13_encloses_95) rfl).trans ?_
  refine (rn_aload_n (pc := 96) (dd bX13_encloses dX13_encloses_96) rfl).trans ?_
  refine (rg_gf (pc := 97) (dd bX13_encloses dX13_encloses_97) (ci := 14) (j := 40) rfl rfl (key := 1540) rfl (kc := 34) rfl s1.1 rfl).trans ?_
  refine (rn_icmp_ge (t := 217) (pc := 100) (dd bX13_encloses dX13_encloses_100) rfl).trans (itec (fun c1 => ?_) (fun c1 => ?_))
  · exact rn_return (pc := 217) (dd bX13_encloses dX13_encloses_217) rfl
  · refine (rn_aload_n (pc := 103) (dd bX13_encloses dX13_encloses_103) rfl).trans ?_
    refine (rg_gf (pc := 104) (dd bX13_encloses dX13_encloses_104) (ci := 14) (j := 45) rfl rfl (key := 1545) rfl (kc := 34) rfl s1.1 s1.2.2.2.2.2.2.2.2.2.2.2.2.2.2.2.2.2.2.2.2.2.2.2.2.2.2.2.2.2.2.2.2.2.2.2.2.2.2.2.2.2.2.2.2.2.2.2.2.2.2.2.2.2.2.2.2.2.2.2.2.2.2.2.2.2.2.2.2.2.2.2.2.2.2.2.2.2.2.2.2.2.2.2.2.2.2.2.2.2.2.2.2.2.2.2.2.2.2.2.2.2.2.2.2.2.2.2.2.2.2.2.2.2.2.2.2.2.2.2.2.2.1).trans ?_
    refine (rn_iload_n (pc := 107) (dd bX13_encloses dX13_encloses_107) rfl).trans ?_
    refine (rg_iaload (pc := 108) (dd bX13_encloses dX13_encloses_108) s1.2.2.2.2.2.2.2.2.2.2.2.2.2.2.2.2.2.2.2.2.2.2.2.2.2.2.2.2.2.2.2.2.2.2.2.2.2.2.2.2.2.2.2.2.2.2.2.2.2.2.2.2.2.2.2.2.2.2.2.2.2.2.2.2.2.2.2.2.2.2.2.2.2.2.2.2.2.2.2.2.2.2.2.2.2.2.2.2.2.2.2.2.2.2.2.2.2.2.2.2.2.2.2.2.2.2.2.2.2.2.2.2.2.2.2.2.2.2.2.2.2.2.1 s1.2.2.2.2.2.2.2.2.2.2.2.2.2.2.2.2.2.2.2.2.2.2.2.2.2.2.2.2.2.2.2.2.2.2.2.2.2.2.2.2.2.2.2.2.2.2.2.2.2.2.2.2.2.2.2.2.2.2.2.2.2.2.2.2.2.2.2.2.2.2.2.2.2.2.2.2.2.2.2.2.2.2.2.2.2.2.2.2.2.2.2.2.2.2.2.2.2.2.2.2.2.2.2.2.2.2.2.2.2.2.2.2.2.2.2.2.2.2.2.2.2.2.2.1 (p2 c1) (p3 c1) rfl).trans ?_
    refine (rn_iconst (pc := 109) (dd bX13_encloses dX13_encloses_109) (by decide)).trans ?_
    have e3 : vrun mX13_encloses 110 [(1, 282), (0, x1), (0, x2), v3] [(0, (-1)), (0, h 2 323 x2)] h = vrun mX13_encloses 140 [(1, 282), (0, x1), (0, x2), v3] [(0, (if ¬ (h 2 323 x2 = (-1)) ∧ (h 2 311 x2 = 60 ∨ h 2 311 x2 = 62) then 1 else 0))] h := by
      refine (rn_icmp_eq (t := 139) (pc := 110) (dd bX13_encloses dX13_encloses_110) rfl).trans ?_
      by_cases c2 : h 2 323 x2 = (-1)
      · refine (if_pos c2).trans ?_
        refine (rn_iconst (pc := 139) (dd bX13_encloses dX13_encloses_139) (by decide)).trans ?_
        refine Eq.trans (b := vrun mX13_encloses 140 [(1, 282), (0, x1), (0, x2), v3] [(0, 0)] h) rfl ?_
        simp only [c2, true_or, false_or, or_true, or_false, true_and, false_and, and_true, and_false, not_true_eq_false, not_false_eq_true, ne_eq, if_true, if_false, ↓reduceIte]
      · refine (if_neg c2).trans ?_
        refine (rn_aload_n (pc := 113) (dd bX13_encloses dX13_encloses_113) rfl).trans ?_
        refine (rg_gf (pc := 114) (dd bX13_encloses dX13_encloses_114) (ci := 14) (j := 30) rfl rfl (key := 1530) rfl (kc := 34) rfl s1.1 s1.2.2.2.2.2.2.2.2.2.2.2.2.2.2.2.2.2.2.2.2.2.2.2.2.2.2.2.2.2.2.2.2.2.2.2.2.2.2.2.2.2.2.2.2.2.2.2.2.2.2.2.2.2.2.2.2.2.2.2.2.2.2.2.2.2.2.2.2.2.2.2.2.2.2.2.2.2.2.2.2.2.2.2.2.2.1).trans ?_
        refine (rn_iload_n (pc := 117) (dd bX13_encloses dX13_encloses_117) rfl).trans ?_
        refine (rg_iaload (pc := 118) (dd bX13_encloses dX13_encloses_118) s1.2.2.2.2.2.2.2.2.2.2.2.2.2.2.2.2.2.2.2.2.2.2.2.2.2.2.2.2.2.2.2.2.2.2.2.2.2.2.2.2.2.2.2.2.2.2.2.2.2.2.2.2.2.2.2.2.2.2.2.2.2.2.2.2.2.2.2.2.2.2.2.2.2.2.2.2.2.2.2.2.2.2.2.2.2.2.1 s1.2.2.2.2.2.2.2.2.2.2.2.2.2.2.2.2.2.2.2.2.2.2.2.2.2.2.2.2.2.2.2.2.2.2.2.2.2.2.2.2.2.2.2.2.2.2.2.2.2.2.2.2.2.2.2.2.2.2.2.2.2.2.2.2.2.2.2.2.2.2.2.2.2.2.2.2.2.2.2.2.2.2.2.2.2.2.2.1 (by have z0 := p2 c1; have z1 := p3 c1; omega) (by have z0 := p2 c1; have z1 := p3 c1; omega) rfl).trans ?_
        refine (rn_bipush (pc := 119) (dd bX13_encloses dX13_encloses_119) (by decide)).trans ?_
        have e2 : vrun mX13_encloses 121 [(1, 282), (0, x1), (0, x2), v3] [(0, 60), (0, h 2 311 x2)] h = vrun mX13_encloses 140 [(1, 282), (0, x1), (0, x2), v3] [(0, (if h 2 311 x2 = 60 ∨ h 2 311 x2 = 62 then 1 else 0))] h := by
          refine (rn_icmp_eq (t := 135) (pc := 121) (dd bX13_encloses dX13_encloses_121) rfl).trans ?_
          by_cases c3 : h 2 311 x2 = 60
          · refine (if_pos c3).trans ?_
            refine (rn_iconst (pc := 135) (dd bX13_encloses dX13_encloses_135) (by decide)).trans ?_
            refine (rn_goto (t := 140) (pc := 136) (dd bX13_encloses dX13_encloses_136) rfl).trans ?_
            refine Eq.trans (b := vrun mX13_encloses 140 [(1, 282), (0, x1), (0, x2), v3] [(0, 1)] h) rfl ?_
            simp only [c3, true_or, false_or, or_true, or_false, true_and, false_and, and_true, and_false, not_true_eq_false, not_false_eq_true, ne_eq, if_true, if_false, ↓reduceIte]
          · refine (if_neg c3).trans ?_
            refine (rn_aload_n (pc := 124) (dd bX13_encloses dX13_encloses_124) rfl).trans ?_
            refine (rg_gf (pc := 125) (dd bX13_encloses dX13_encloses_125) (ci := 14) (j := 30) rfl rfl (key := 1530) rfl (kc := 34) rfl s1.1 s1.2.2.2.2.2.2.2.2.2.2.2.2.2.2.2.2.2.2.2.2.2.2.2.2.2.2.2.2.2.2.2.2.2.2.2.2.2.2.2.2.2.2.2.2.2.2.2.2.2.2.2.2.2.2.2.2.2.2.2.2.2.2.2.2.2.2.2.2.2.2.2.2.2.2.2.2.2.2.2.2.2.2.2.2.2.1).trans ?_
            refine (rn_iload_n (pc := 128) (dd bX13_encloses dX13_encloses_128) rfl).trans ?_
            refine (rg_iaload (pc := 129) (dd bX13_encloses dX13_encloses_129) s1.2.2.2.2.2.2.2.2.2.2.2.2.2.2.2.2.2.2.2.2.2.2.2.2.2.2.2.2.2.2.2.2.2.2.2.2.2.2.2.2.2.2.2.2.2.2.2.2.2.2.2.2.2.2.2.2.2.2.2.2.2.2.2.2.2.2.2.2.2.2.2.2.2.2.2.2.2.2.2.2.2.2.2.2.2.2.1 s1.2.2.2.2.2.2.2.2.2.2.2.2.2.2.2.2.2.2.2.2.2.2.2.2.2.2.2.2.2.2.2.2.2.2.2.2.2.2.2.2.2.2.2.2.2.2.2.2.2.2.2.2.2.2.2.2.2.2.2.2.2.2.2.2.2.2.2.2.2.2.2.2.2.2.2.2.2.2.2.2.2.2.2.2.2.2.2.1 (by have z0 := p2 c1; have z1 := p3 c1; omega) (by have z0 := p2 c1; have z1 := p3 c1; omega) rfl).trans ?_
            refine (rn_bipush (pc := 130) (dd bX13_encloses dX13_encloses_130) (by decide)).trans ?_
            have e1 : vrun mX13_encloses 132 [(1, 282), (0, x1), (0, x2), v3] [(0, 62), (0, h 2 311 x2)] h = vrun mX13_encloses 140 [(1, 282), (0, x1), (0, x2), v3] [(0, (if h 2 311 x2 = 62 then 1 else 0))] h := by
              refine (rg_icmp_ne (t := 139) (pc := 132) (dd bX13_encloses dX13_encloses_132) rfl).trans ?_
              by_cases c4 : h 2 311 x2 = 62
              · refine (if_pos c4).trans ?_
                refine (rn_iconst (pc := 135) (dd bX13_encloses dX13_encloses_135) (by decide)).trans ?_
                refine (rn_goto (t := 140) (pc := 136) (dd bX13_encloses dX13_encloses_136) rfl).trans ?_
                refine Eq.trans (b := vrun mX13_encloses 140 [(1, 282), (0, x1), (0, x2), v3] [(0, 1)] h) rfl ?_
                simp only [c4, true_or, false_or, or_true, or_false, true_and, false_and, and_true, and_false, not_true_eq_false, not_false_eq_true, ne_eq, if_true, if_false, ↓reduceIte]
              · refine (if_neg c4).trans ?_
                refine (rn_iconst (pc := 139) (dd bX13_encloses dX13_encloses_139) (by decide)).trans ?_
                refine Eq.trans (b := vrun mX13_encloses 140 [(1, 282), (0, x1), (0, x2), v3] [(0, 0)] h) rfl ?_
                simp only [c4, true_or, false_or, or_true, or_false, true_and, false_and, and_true, and_false, not_true_eq_false, not_false_eq_true, ne_eq, if_true, if_false, ↓reduceIte]
            refine e1.trans ?_
            refine Eq.trans (b := vrun mX13_encloses 140 [(1, 282), (0, x1), (0, x2), v3] [(0, (if h 2 311 x2 = 62 then 1 else 0))] h) rfl ?_
            simp only [c3, true_or, false_or, or_true, or_false, true_and, false_and, and_true, and_false, not_true_eq_false, not_false_eq_true, ne_eq, if_true, if_false, ↓reduceIte]
        refine e2.trans ?_
        refine Eq.trans (b := vrun mX13_encloses 140 [(1, 282), (0, x1), (0, x2), v3] [(0, (if h 2 311 x2 = 60 ∨ h 2 311 x2 = 62 then 1 else 0))] h) rfl ?_
        simp only [c2, true_or, false_or, or_true, or_false, true_and, false_and, and_true, and_false, not_true_eq_false, not_false_eq_true, ne_eq, if_true, if_false, ↓reduceIte]
    refine e3.trans ?_
    refine (rn_istore_n (pc := 140) (dd bX13_encloses dX13_encloses_140) (Nat.le_of_ble_eq_true rfl) rfl).trans ?_
    refine (rn_iload_n (pc := 141) (dd bX13_encloses dX13_encloses_141) rfl).trans ?_
    refine (rn_iload_n (pc := 142) (dd bX13_encloses dX13_encloses_142) rfl).trans ?_
    have e5 : vrun mX13_encloses 143 [(1, 282), (0, x1), (0, x2), (0, (if ¬ (h 2 323 x2 = (-1)) ∧ (h 2 311 x2 = 60 ∨ h 2 311 x2 = 62) then 1 else 0))] [(0, (if ¬ (h 2 323 x2 = (-1)) ∧ (h 2 311 x2 = 60 ∨ h 2 311 x2 = 62) then 1 else 0)), (0, x1)] h = vrun mX13_encloses 162 [(1, 282), (0, x1), (0, x2), (0, (if ¬ (h 2 323 x2 = (-1)) ∧ (h 2 311 x2 = 60 ∨ h 2 311 x2 = 62) then 1 else 0))] [(0, (if (¬ (h 2 323 x2 = (-1)) ∧ (h 2 311 x2 = 60 ∨ h 2 311 x2 = 62)) ∧ h 2 311 x2 = 62 then 1 else 0)), (0, x1)] h := by
      refine (rg_beq (t := 161) (pc := 143) (dd bX13_encloses dX13_encloses_143) rfl).trans ?_
      by_cases c5 : ¬ (h 2 323 x2 = (-1)) ∧ (h 2 311 x2 = 60 ∨ h 2 311 x2 = 62)
      · refine (if_pos c5).trans ?_
        refine (rn_aload_n (pc := 146) (dd bX13_encloses dX13_encloses_146) rfl).trans ?_
        refine (rg_gf (pc := 147) (dd bX13_encloses dX13_encloses_147) (ci := 14) (j := 30) rfl rfl (key := 1530) rfl (kc := 34) rfl s1.1 s1.2.2.2.2.2.2.2.2.2.2.2.2.2.2.2.2.2.2.2.2.2.2.2.2.2.2.2.2.2.2.2.2.2.2.2.2.2.2.2.2.2.2.2.2.2.2.2.2.2.2.2.2.2.2.2.2.2.2.2.2.2.2.2.2.2.2.2.2.2.2.2.2.2.2.2.2.2.2.2.2.2.2.2.2.2.1).trans ?_
        refine (rn_iload_n (pc := 150) (dd bX13_encloses dX13_encloses_150) rfl).trans ?_
        refine (rg_iaload (pc := 151) (dd bX13_encloses dX13_encloses_151) s1.2.2.2.2.2.2.2.2.2.2.2.2.2.2.2.2.2.2.2.2.2.2.2.2.2.2.2.2.2.2.2.2.2.2.2.2.2.2.2.2.2.2.2.2.2.2.2.2.2.2.2.2.2.2.2.2.2.2.2.2.2.2.2.2.2.2.2.2.2.2.2.2.2.2.2.2.2.2.2.2.2.2.2.2.2.2.1 s1.2.2.2.2.2.2.2.2.2.2.2.2.2.2.2.2.2.2.2.2.2.2.2.2.2.2.2.2.2.2.2.2.2.2.2.2.2.2.2.2.2.2.2.2.2.2.2.2.2.2.2.2.2.2.2.2.2.2.2.2.2.2.2.2.2.2.2.2.2.2.2.2.2.2.2.2.2.2.2.2.2.2.2.2.2.2.2.1 (by have z0 := p2 c1; have z1 := p3 c1; omega) (by have z0 := p2 c1; have z1 := p3 c1; omega) rfl).trans ?_
        refine (rn_bipush (pc := 152) (dd bX13_encloses dX13_encloses_152) (by decide)).trans ?_
        have e4 : vrun mX13_encloses 154 [(1, 282), (0, x1), (0, x2), (0, (if ¬ (h 2 323 x2 = (-1)) ∧ (h 2 311 x2 = 60 ∨ h 2 311 x2 = 62) then 1 else 0))] [(0, 62), (0, h 2 311 x2), (0, x1)] h = vrun mX13_encloses 162 [(1, 282), (0, x1), (0, x2), (0, (if ¬ (h 2 323 x2 = (-1)) ∧ (h 2 311 x2 = 60 ∨ h 2 311 x2 = 62) then 1 else 0))] [(0, (if h 2 311 x2 = 62 then 1 else 0)), (0, x1)] h := by
          refine (rg_icmp_ne (t := 161) (pc := 154) (dd bX13_encloses dX13_encloses_154) rfl).trans ?_
          by_cases c6 : h 2 311 x2 = 62
          · refine (if_pos c6).trans ?_
            refine (rn_iconst (pc := 157) (dd bX13_encloses dX13_encloses_157) (by decide)).trans ?_
            refine (rn_goto (t := 162) (pc := 158) (dd bX13_encloses dX13_encloses_158) rfl).trans ?_
            refine Eq.trans (b := vrun mX13_encloses 162 [(1, 282), (0, x1), (0, x2), (0, (if ¬ (h 2 323 x2 = (-1)) ∧ (h 2 311 x2 = 60 ∨ h 2 311 x2 = 62) then 1 else 0))] [(0, 1), (0, x1)] h) rfl ?_
            simp only [c6, true_or, false_or, or_true, or_false, true_and, false_and, and_true, and_false, not_true_eq_false, not_false_eq_true, ne_eq, if_true, if_false, ↓reduceIte]
          · refine (if_neg c6).trans ?_
            refine (rn_iconst (pc := 161) (dd bX13_encloses dX13_encloses_161) (by decide)).trans ?_
            refine Eq.trans (b := vrun mX13_encloses 162 [(1, 282), (0, x1), (0, x2), (0, (if ¬ (h 2 323 x2 = (-1)) ∧ (h 2 311 x2 = 60 ∨ h 2 311 x2 = 62) then 1 else 0))] [(0, 0), (0, x1)] h) rfl ?_
            simp only [c6, true_or, false_or, or_true, or_false, true_and, false_and, and_true, and_false, not_true_eq_false, not_false_eq_true, ne_eq, if_true, if_false, ↓reduceIte]
        refine e4.trans ?_
        refine Eq.trans (b := vrun mX13_encloses 162 [(1, 282), (0, x1), (0, x2), (0, (if ¬ (h 2 323 x2 = (-1)) ∧ (h 2 311 x2 = 60 ∨ h 2 311 x2 = 62) then 1 else 0))] [(0, (if h 2 311 x2 = 62 then 1 else 0)), (0, x1)] h) rfl ?_
        simp only [c5, true_or, false_or, or_true, or_false, true_and, false_and, and_true, and_false, not_true_eq_false, not_false_eq_true, ne_eq, if_true, if_false, ↓reduceIte]
      · refine (if_neg c5).trans ?_
        refine (rn_iconst (pc := 161) (dd bX13_encloses dX13_encloses_161) (by decide)).trans ?_
        refine Eq.trans (b := vrun mX13_encloses 162 [(1, 282), (0, x1), (0, x2), (0, (if ¬ (h 2 323 x2 = (-1)) ∧ (h 2 311 x2 = 60 ∨ h 2 311 x2 = 62) then 1 else 0))] [(0, 0), (0, x1)] h) rfl ?_
        simp only [c5, true_or, false_or, or_true, or_false, true_and, false_and, and_true, and_false, not_true_eq_false, not_false_eq_true, ne_eq, if_true, if_false, ↓reduceIte]
    refine e5.trans ?_
    refine (rg_isub (pc := 162) (dd bX13_encloses dX13_encloses_162) (p4 c1) (p5 c1)).trans ?_
    refine (rn_istore_n (pc := 163) (dd bX13_encloses dX13_encloses_163) (Nat.le_of_ble_eq_true rfl) rfl).trans ?_
    rfl
theorem rX13_encloses_164x {x1 : Int} {x2 : Int} {x3 : Int} {h : vH} (s1 : shModel h) (p2 : ¬ (x1 = 0) → (-2147483648) ≤ x1 - 1) (p3 : ¬ (x1 = 0) → x1 - 1 < 2147483648) (p4 : ¬ (x1 = 0) → 0 ≤ x1 - 1) (p5 : ¬ (x1 = 0) → x1 - 1 < 140) (p6 : 0 ≤ x2) (p7 : x2 < 140) (p8 : ¬ (x3 = 0) → h 2 311 x2 = 60 → 0 ≤ x1) (p9 : ¬ (x3 = 0) → h 2 311 x2 = 60 → x1 < 140) : vrun mX13_encloses 164 [(1, 282), (0, x1), (0, x2), (0, x3)] [] h = vrun mX13_encloses 95 [(1, 282), (0, (if x3 = 0 then x1 else (if h 2 311 x2 = 60 then x1 + 1 else x1))), (0, x2 + 1), (0, x3)] [] (if x3 = 0 then vup h 2 322 x2 (if x1 = 0 then (-1) else h 2 325 (x1 - 1)) else (if h 2 311 x2 = 60 then vup (vup h 2 322 x2 (if x1 = 0 then (-1) else h 2 325 (x1 - 1))) 2 325 x1 x2 else vup h 2 322 x2 (if x1 = 0 then (-1) else h 2 325 (x1 - 1)))) := by
  refine (rn_aload_n (pc := 164) (dd bX13_encloses dX13_encloses_164) rfl).trans ?_
  refine (rg_gf (pc := 165) (dd bX13_encloses dX13_encloses_165) (ci := 14) (j := 44) rfl rfl (key := 1544) rfl (kc := 34) rfl s1.1 s1.2.2.2.2.2.2.2.2.2.2.2.2.2.2.2.2.2.2.2.2.2.2.2.2.2.2.2.2.2.2.2.2.2.2.2.2.2.2.2.2.2.2.2.2.2.2.2.2.2.2.2.2.2.2.2.2.2.2.2.2.2.2.2.2.2.2.2.2.2.2.2.2.2.2.2.2.2.2.2.2.2.2.2.2.2.2.2.2.2.2.2.2.2.2.2.2.2.2.2.2.2.2.2.2.2.2.2.2.2.2.2.2.2.2.2.2.2.2.1).trans ?_
  refine (rn_iload_n (pc := 168) (dd bX13_encloses dX13_encloses_168) rfl).trans ?_
  refine (rn_iload_n (pc := 169) (dd bX13_encloses dX13_encloses_169) rfl).trans ?_
  have e1 : vrun mX13_encloses 170 [(1, 282), (0, x1), (0, x2), (0, x3)] [(0, x1), (0, x2), (1, 322)] h = vrun mX13_encloses 185 [(1, 282), (0, x1), (0, x2), (0, x3)] [(0, (if x1 = 0 then (-1) else h 2 325 (x1 - 1))), (0, x2), (1, 322)] h := by
    refine (rg_if_ne (t := 177) (pc := 170) (dd bX13_encloses dX13_encloses_170) rfl).trans ?_
    by_cases c1 : x1 = 0
    · refine (if_pos c1).trans ?_
      refine (rn_iconst (pc := 173) (dd bX13_encloses dX13_encloses_173) (by decide)).trans ?_
      refine (rn_goto (t := 185) (pc := 174) (dd bX13_encloses dX13_encloses_174) rfl).trans ?_
      refine Eq.trans (b := vrun mX13_encloses 185 [(1, 282), (0, x1), (0, x2), (0, x3)] [(0, (-1)), (0, x2), (1, 322)] h) rfl ?_
      simp only [if_pos c1]
    · refine (if_neg c1).trans ?_
      refine (rn_aload_n (pc := 177) (dd bX13_encloses dX13_encloses_177) rfl).trans ?_
      refine (rg_gf (pc := 178) (dd bX13_encloses dX13_encloses_178) (ci := 14) (j := 47) rfl rfl (key := 1547) rfl (kc := 34) rfl s1.1 s1.2.2.2.2.2.2.2.2.2.2.2.2.2.2.2.2.2.2.2.2.2.2.2.2.2.2.2.2.2.2.2.2.2.2.2.2.2.2.2.2.2.2.2.2.2.2.2.2.2.2.2.2.2.2.2.2.2.2.2.2.2.2.2.2.2.2.2.2.2.2.2.2.2.2.2.2.2.2.2.2.2.2.2.2.2.2.2.2.2.2.2.2.2.2.2.2.2.2.2.2.2.2.2.2.2.2.2.2.2.2.2.2.2.2.2.2.2.2.2.2.2.2.2.2.2.2.2.1).trans ?_
      refine (rn_iload_n (pc := 181) (dd bX13_encloses dX13_encloses_181) rfl).trans ?_
      refine (rn_iconst (pc := 182) (dd bX13_encloses dX13_encloses_182) (by decide)).trans ?_
      refine (rg_isub (pc := 183) (dd bX13_encloses dX13_encloses_183) (p2 c1) (p3 c1)).trans ?_
      refine (rg_iaload (pc := 184) (dd bX13_encloses dX13_encloses_184) s1.2.2.2.2.2.2.2.2.2.2.2.2.2.2.2.2.2.2.2.2.2.2.2.2.2.2.2.2.2.2.2.2.2.2.2.2.2.2.2.2.2.2.2.2.2.2.2.2.2.2.2.2.2.2.2.2.2.2.2.2.2.2.2.2.2.2.2.2.2.2.2.2.2.2.2.2.2.2.2.2.2.2.2.2.2.2.2.2.2.2.2.2.2.2.2.2.2.2.2.2.2.2.2.2.2.2.2.2.2.2.2.2.2.2.2.2.2.2.2.2.2.2.2.2.2.2.2.2.1 s1.2.2.2.2.2.2.2.2.2.2.2.2.2.2.2.2.2.2.2.2.2.2.2.2.2.2.2.2.2.2.2.2.2.2.2.2.2.2.2.2.2.2.2.2.2.2.2.2.2.2.2.2.2.2.2.2.2.2.2.2.2.2.2.2.2.2.2.2.2.2.2.2.2.2.2.2.2.2.2.2.2.2.2.2.2.2.2.2.2.2.2.2.2.2.2.2.2.2.2.2.2.2.2.2.2.2.2.2.2.2.2.2.2.2.2.2.2.2.2.2.2.2.2.2.2.2.2.2.2.1 (p4 c1) (p5 c1) rfl).trans ?_
      refine Eq.trans (b := vrun mX13_encloses 185 [(1, 282), (0, x1), (0, x2), (0, x3)] [(0, h 2 325 (x1 - 1)), (0, x2), (1, 322)] h) rfl ?_
      simp only [if_neg c1]
  refine e1.trans ?_
  refine (rg_iastore (pc := 185) (dd bX13_encloses dX13_encloses_185) s1.2.2.2.2.2.2.2.2.2.2.2.2.2.2.2.2.2.2.2.2.2.2.2.2.2.2.2.2.2.2.2.2.2.2.2.2.2.2.2.2.2.2.2.2.2.2.2.2.2.2.2.2.2.2.2.2.2.2.2.2.2.2.2.2.2.2.2.2.2.2.2.2.2.2.2.2.2.2.2.2.2.2.2.2.2.2.2.2.2.2.2.2.2.2.2.2.2.2.2.2.2.2.2.2.2.2.2.2.2.2.2.2.2.2.2.2.2.2.2.1 s1.2.2.2.2.2.2.2.2.2.2.2.2.2.2.2.2.2.2.2.2.2.2.2.2.2.2.2.2.2.2.2.2.2.2.2.2.2.2.2.2.2.2.2.2.2.2.2.2.2.2.2.2.2.2.2.2.2.2.2.2.2.2.2.2.2.2.2.2.2.2.2.2.2.2.2.2.2.2.2.2.2.2.2.2.2.2.2.2.2.2.2.2.2.2.2.2.2.2.2.2.2.2.2.2.2.2.2.2.2.2.2.2.2.2.2.2.2.2.2.2.1 p6 p7).trans ?_
  refine (rn_iload_n (pc := 186) (dd bX13_encloses dX13_encloses_186) rfl).trans ?_
  have e3 : vrun mX13_encloses 187 [(1, 282), (0, x1), (0, x2), (0, x3)] [(0, x3)] (vup h 2 322 x2 (if x1 = 0 then (-1) else h 2 325 (x1 - 1))) = vrun mX13_encloses 211 [(1, 282), (0, (if x3 = 0 then x1 else (if h 2 311 x2 = 60 then x1 + 1 else x1))), (0, x2), (0, x3)] [] (if x3 = 0 then vup h 2 322 x2 (if x1 = 0 then (-1) else h 2 325 (x1 - 1)) else (if h 2 311 x2 = 60 then vup (vup h 2 322 x2 (if x1 = 0 then (-1) else h 2 325 (x1 - 1))) 2 325 x1 x2 else vup h 2 322 x2 (if x1 = 0 then (-1) else h 2 325 (x1 - 1)))) := by
    refine (rn_if_eq (t := 211) (pc := 187) (dd bX13_encloses dX13_encloses_187) rfl).trans ?_
    by_cases c2 : x3 = 0
    · refine (if_pos c2).trans ?_
      refine Eq.trans (b := vrun mX13_encloses 211 [(1, 282), (0, x1), (0, x2), (0, x3)] [] (vup h 2 322 x2 (if x1 = 0 then (-1) else h 2 325 (x1 - 1)))) rfl ?_
      simp only [if_pos c2]
    · refine (if_neg c2).trans ?_
      refine (rn_aload_n (pc := 190) (dd bX13_encloses dX13_encloses_190) rfl).trans ?_
      refine (rg_gf (pc := 191) (dd bX13_encloses dX13_encloses_191) (ci := 14) (j := 30) rfl rfl (key := 1530) rfl (kc := 34) rfl ((vup_k (by decide)).trans s1.1) ((vup_k (by decide)).trans s1.2.2.2.2.2.2.2.2.2.2.2.2.2.2.2.2.2.2.2.2.2.2.2.2.2.2.2.2.2.2.2.2.2.2.2.2.2.2.2.2.2.2.2.2.2.2.2.2.2.2.2.2.2.2.2.2.2.2.2.2.2.2.2.2.2.2.2.2.2.2.2.2.2.2.2.2.2.2.2.2.2.2.2.2.2.1)).trans ?_
      refine (rn_iload_n (pc := 194) (dd bX13_encloses dX13_encloses_194) rfl).trans ?_
      refine (rg_iaload (pc := 195) (dd bX13_encloses dX13_encloses_195) ((vup_k (by decide)).trans s1.2.2.2.2.2.2.2.2.2.2.2.2.2.2.2.2.2.2.2.2.2.2.2.2.2.2.2.2.2.2.2.2.2.2.2.2.2.2.2.2.2.2.2.2.2.2.2.2.2.2.2.2.2.2.2.2.2.2.2.2.2.2.2.2.2.2.2.2.2.2.2.2.2.2.2.2.2.2.2.2.2.2.2.2.2.2.1) ((vup_k (by decide)).trans s1.2.2.2.2.2.2.2.2.2.2.2.2.2.2.2.2.2.2.2.2.2.2.2.2.2.2.2.2.2.2.2.2.2.2.2.2.2.2.2.2.2.2.2.2.2.2.2.2.2.2.2.2.2.2.2.2.2.2.2.2.2.2.2.2.2.2.2.2.2.2.2.2.2.2.2.2.2.2.2.2.2.2.2.2.2.2.2.1) (by omega) (by omega) ((vup_r (by omega)).trans rfl)).trans ?_
      refine (rn_bipush (pc := 196) (dd bX13_encloses dX13_encloses_196) (by decide)).trans ?_
      have e2 : vrun mX13_encloses 198 [(1, 282), (0, x1), (0, x2), (0, x3)] [(0, 60), (0, h 2 311 x2)] (vup h 2 322 x2 (if x1 = 0 then (-1) else h 2 325 (x1 - 1))) = vrun mX13_encloses 211 [(1, 282), (0, (if h 2 311 x2 = 60 then x1 + 1 else x1)), (0, x2), (0, x3)] [] (if h 2 311 x2 = 60 then vup (vup h 2 322 x2 (if x1 = 0 then (-1) else h 2 325 (x1 - 1))) 2 325 x1 x2 else vup h 2 322 x2 (if x1 = 0 then (-1) else h 2 325 (x1 - 1))) := by
        refine (rg_icmp_ne (t := 211) (pc := 198) (dd bX13_encloses dX13_encloses_198) rfl).trans ?_
        by_cases c3 : h 2 311 x2 = 60
        · refine (if_pos c3).trans ?_
          refine (rn_aload_n (pc := 201) (dd bX13_encloses dX13_encloses_201) rfl).trans ?_
          refine (rg_gf (pc := 202) (dd bX13_encloses dX13_encloses_202) (ci := 14) (j := 47) rfl rfl (key := 1547) rfl (kc := 34) rfl ((vup_k (by decide)).trans s1.1) ((vup_k (by decide)).trans s1.2.2.2.2.2.2.2.2.2.2.2.2.2.2.2.2.2.2.2.2.2.2.2.2.2.2.2.2.2.2.2.2.2.2.2.2.2.2.2.2.2.2.2.2.2.2.2.2.2.2.2.2.2.2.2.2.2.2.2.2.2.2.2.2.2.2.2.2.2.2.2.2.2.2.2.2.2.2.2.2.2.2.2.2.2.2.2.2.2.2.2.2.2.2.2.2.2.2.2.2.2.2.2.2.2.2.2.2.2.2.2.2.2.2.2.2.2.2.2.2.2.2.2.2.2.2.2.1)).trans ?_
          refine (rn_iload_n (pc := 205) (dd bX13_encloses dX13_encloses_205) rfl).trans ?_
          refine (rn_iload_n (pc := 206) (dd bX13_encloses dX13_encloses_206) rfl).trans ?_
          refine (rg_iastore (pc := 207) (dd bX13_encloses dX13_encloses_207) ((vup_k (by decide)).trans s1.2.2.2.2.2.2.2.2.2.2.2.2.2.2.2.2.2.2.2.2.2.2.2.2.2.2.2.2.2.2.2.2.2.2.2.2.2.2.2.2.2.2.2.2.2.2.2.2.2.2.2.2.2.2.2.2.2.2.2.2.2.2.2.2.2.2.2.2.2.2.2.2.2.2.2.2.2.2.2.2.2.2.2.2.2.2.2.2.2.2.2.2.2.2.2.2.2.2.2.2.2.2.2.2.2.2.2.2.2.2.2.2.2.2.2.2.2.2.2.2.2.2.2.2.2.2.2.2.1) ((vup_k (by decide)).trans s1.2.2.2.2.2.2.2.2.2.2.2.2.2.2.2.2.2.2.2.2.2.2.2.2.2.2.2.2.2.2.2.2.2.2.2.2.2.2.2.2.2.2.2.2.2.2.2.2.2.2.2.2.2.2.2.2.2.2.2.2.2.2.2.2.2.2.2.2.2.2.2.2.2.2.2.2.2.2.2.2.2.2.2.2.2.2.2.2.2.2.2.2.2.2.2.2.2.2.2.2.2.2.2.2.2.2.2.2.2.2.2.2.2.2.2.2.2.2.2.2.2.2.2.2.2.2.2.2.2.1) (p8 c2 c3) (p9 c2 c3)).trans ?_
          refine (rg_iinc (pc := 208) (dd bX13_encloses dX13_encloses_208) rfl (Nat.le_of_ble_eq_true rfl) (by have z0 := p8 c2 c3; have z1 := p9 c2 c3; omega) (by have z0 := p8 c2 c3; have z1 := p9 c2 c3; omega) rfl).trans ?_
          refine Eq.trans (b := vrun mX13_encloses 211 [(1, 282), (0, x1 + 1), (0, x2), (0, x3)] [] (vup (vup h 2 322 x2 (if x1 = 0 then (-1) else h 2 325 (x1 - 1))) 2 325 x1 x2)) rfl ?_
          simp only [if_pos c3]
        · refine (if_neg c3).trans ?_
          refine Eq.trans (b := vrun mX13_encloses 211 [(1, 282), (0, x1), (0, x2), (0, x3)] [] (vup h 2 322 x2 (if x1 = 0 then (-1) else h 2 325 (x1 - 1)))) rfl ?_
          simp only [if_neg c3]
      refine e2.trans ?_
      refine Eq.trans (b := vrun mX13_encloses 211 [(1, 282), (0, (if h 2 311 x2 = 60 then x1 + 1 else x1)), (0, x2), (0, x3)] [] (if h 2 311 x2 = 60 then vup (vup h 2 322 x2 (if x1 = 0 then (-1) else h 2 325 (x1 - 1))) 2 325 x1 x2 else vup h 2 322 x2 (if x1 = 0 then (-1) else h 2 325 (x1 - 1)))) rfl ?_
      simp only [if_neg c2]
  refine e3.trans ?_
  refine (rg_iinc (pc := 211) (dd bX13_encloses dX13_encloses_211) rfl (Nat.le_of_ble_eq_true rfl) (by omega) (by omega) rfl).trans ?_
  refine (rn_goto (t := 95) (pc := 214) (dd bX13_encloses dX13_encloses_214) rfl).trans ?_
  rfl
