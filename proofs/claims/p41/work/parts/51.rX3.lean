theorem bX3_add : vmB mX3_add = cX3_add := rfl
theorem rX3_add_0 {x0 : Int} {x1 : Int} {x2 : Int} {x3 : Int} {x4 : Int} {h : vH} (s1 : shLayout h x0) : vrun mX3_add 0 [(1, x0), (0, x1), (0, x2), (0, x3), (0, x4)] [] h = if h 509 x0 0 < 0 then some (.inl none, h) else if h 509 x0 0 < 131 then some (.inl none, vup (vup (vup (vup (vup h 2 (x0 + 1) (h 509 x0 0) x1) 2 (x0 + 2) (h 509 x0 0) x2) 2 (x0 + 3) (h 509 x0 0) x3) 2 (x0 + 4) (h 509 x0 0) x4) 509 x0 0 (h 509 x0 0 + 1)) else some (.inl none, h) := by
  refine (rn_aload_n (pc := 0) (dd bX3_add dX3_add_0) rfl).trans ?_
  refine (rg_gf (pc := 1) (dd bX3_add dX3_add_1) (ci := 4) (j := 9) rfl rfl (key := 509) rfl (kc := 24) rfl s1.1 rfl).trans ?_
  refine (rn_if_lt (t := 17) (pc := 4) (dd bX3_add dX3_add_4) rfl).trans (itec (fun c1 => ?_) (fun c1 => ?_))
  · exact rn_return (pc := 17) (dd bX3_add dX3_add_17) rfl
  · refine (rn_aload_n (pc := 7) (dd bX3_add dX3_add_7) rfl).trans ?_
    refine (rg_gf (pc := 8) (dd bX3_add dX3_add_8) (ci := 4) (j := 9) rfl rfl (key := 509) rfl (kc := 24) rfl s1.1 rfl).trans ?_
    refine (rn_sipush (pc := 11) (dd bX3_add dX3_add_11) (by decide)).trans ?_
    refine (rn_icmp_lt (t := 18) (pc := 14) (dd bX3_add dX3_add_14) rfl).trans (itec (fun c2 => ?_) (fun c2 => ?_))
    · refine (rn_aload_n (pc := 18) (dd bX3_add dX3_add_18) rfl).trans ?_
      refine (rg_gf (pc := 19) (dd bX3_add dX3_add_19) (ci := 4) (j := 0) rfl rfl (key := 500) rfl (kc := 24) rfl s1.1 s1.2.1).trans ?_
      refine (rn_aload_n (pc := 22) (dd bX3_add dX3_add_22) rfl).trans ?_
      refine (rg_gf (pc := 23) (dd bX3_add dX3_add_23) (ci := 4) (j := 9) rfl rfl (key := 509) rfl (kc := 24) rfl s1.1 rfl).trans ?_
      refine (rn_iload_n (pc := 26) (dd bX3_add dX3_add_26) rfl).trans ?_
      refine (rg_iastore (pc := 27) (dd bX3_add dX3_add_27) s1.2.2.1 s1.2.2.2.1 (Int.not_lt.mp c1) c2).trans ?_
      refine (rn_aload_n (pc := 28) (dd bX3_add dX3_add_28) rfl).trans ?_
      refine (rg_gf (pc := 29) (dd bX3_add dX3_add_29) (ci := 4) (j := 1) rfl rfl (key := 501) rfl (kc := 24) rfl ((vup_k (by decide)).trans s1.1) ((vup_k (by decide)).trans s1.2.2.2.2.1)).trans ?_
      refine (rn_aload_n (pc := 32) (dd bX3_add dX3_add_32) rfl).trans ?_
      refine (rg_gf (pc := 33) (dd bX3_add dX3_add_33) (ci := 4) (j := 9) rfl rfl (key := 509) rfl (kc := 24) rfl ((vup_k (by decide)).trans s1.1) ((vup_k (by decide)).trans rfl)).trans ?_
      refine (rn_iload_n (pc := 36) (dd bX3_add dX3_add_36) rfl).trans ?_
      refine (rg_iastore (pc := 37) (dd bX3_add dX3_add_37) ((vup_k (by decide)).trans s1.2.2.2.2.2.1) ((vup_k (by decide)).trans s1.2.2.2.2.2.2.1) (Int.not_lt.mp c1) c2).trans ?_
      refine (rn_aload_n (pc := 38) (dd bX3_add dX3_add_38) rfl).trans ?_
      refine (rg_gf (pc := 39) (dd bX3_add dX3_add_39) (ci := 4) (j := 2) rfl rfl (key := 502) rfl (kc := 24) rfl ((vup_k (by decide)).trans ((vup_k (by decide)).trans s1.1)) ((vup_k (by decide)).trans ((vup_k (by decide)).trans s1.2.2.2.2.2.2.2.1))).trans ?_
      refine (rn_aload_n (pc := 42) (dd bX3_add dX3_add_42) rfl).trans ?_
      refine (rg_gf (pc := 43) (dd bX3_add dX3_add_43) (ci := 4) (j := 9) rfl rfl (key := 509) rfl (kc := 24) rfl ((vup_k (by decide)).trans ((vup_k (by decide)).trans s1.1)) ((vup_k (by decide)).trans ((vup_k (by decide)).trans rfl))).trans ?_
      refine (rn_iload_n (pc := 46) (dd bX3_add dX3_add_46) rfl).trans ?_
      refine (rg_iastore (pc := 47) (dd bX3_add dX3_add_47) ((vup_k (by decide)).trans ((vup_k (by decide)).trans s1.2.2.2.2.2.2.2.2.1)) ((vup_k (by decide)).trans ((vup_k (by decide)).trans s1.2.2.2.2.2.2.2.2.2.1)) (Int.not_lt.mp c1) c2).trans ?_
      refine (rn_aload_n (pc := 48) (dd bX3_add dX3_add_48) rfl).trans ?_
      refine (rg_gf (pc := 49) (dd bX3_add dX3_add_49) (ci := 4) (j := 3) rfl rfl (key := 503) rfl (kc := 24) rfl ((vup_k (by decide)).trans ((vup_k (by decide)).trans ((vup_k (by decide)).trans s1.1))) ((vup_k (by decide)).trans ((vup_k (by decide)).trans ((vup_k (by decide)).trans s1.2.2.2.2.2.2.2.2.2.2.1)))).trans ?_
      refine (rn_aload_n (pc := 52) (dd bX3_add dX3_add_52) rfl).trans ?_
      refine (rg_gf (pc := 53) (dd bX3_add dX3_add_53) (ci := 4) (j := 9) rfl rfl (key := 509) rfl (kc := 24) rfl ((vup_k (by decide)).trans ((vup_k (by decide)).trans ((vup_k (by decide)).trans s1.1))) ((vup_k (by decide)).trans ((vup_k (by decide)).trans ((vup_k (by decide)).trans rfl)))).trans ?_
      refine (rn_iload (pc := 56) (dd bX3_add dX3_add_56) rfl).trans ?_
      refine (rg_iastore (pc := 58) (dd bX3_add dX3_add_58) ((vup_k (by decide)).trans ((vup_k (by decide)).trans ((vup_k (by decide)).trans s1.2.2.2.2.2.2.2.2.2.2.2.1))) ((vup_k (by decide)).trans ((vup_k (by decide)).trans ((vup_k (by decide)).trans s1.2.2.2.2.2.2.2.2.2.2.2.2.1))) (Int.not_lt.mp c1) c2).trans ?_
      refine (rn_aload_n (pc := 59) (dd bX3_add dX3_add_59) rfl).trans ?_
      refine (rn_dup (pc := 60) (dd bX3_add dX3_add_60) (by decide)).trans ?_
      refine (rg_gf (pc := 61) (dd bX3_add dX3_add_61) (ci := 4) (j := 9) rfl rfl (key := 509) rfl (kc := 24) rfl ((vup_k (by decide)).trans ((vup_k (by decide)).trans ((vup_k (by decide)).trans ((vup_k (by decide)).trans s1.1)))) ((vup_k (by decide)).trans ((vup_k (by decide)).trans ((vup_k (by decide)).trans ((vup_k (by decide)).trans rfl))))).trans ?_
      refine (rn_iconst (pc := 64) (dd bX3_add dX3_add_64) (by decide)).trans ?_
      refine (rg_iadd (pc := 65) (dd bX3_add dX3_add_65) (by omega) (by omega)).trans ?_
      refine (rg_pf (pc := 66) (dd bX3_add dX3_add_66) (ci := 4) (j := 9) rfl (key := 509) rfl (kc := 24) rfl ((vup_k (by decide)).trans ((vup_k (by decide)).trans ((vup_k (by decide)).trans ((vup_k (by decide)).trans s1.1)))) rfl (by intro z; cases z) (by decide)).trans ?_
      exact rn_return (pc := 69) (dd bX3_add dX3_add_69) rfl
    · exact rn_return (pc := 17) (dd bX3_add dX3_add_17) rfl
theorem bX3_addVirtuals : vmB mX3_addVirtuals = cX3_addVirtuals := rfl
theorem rX3_addVirtuals_0 {x0 : Int} {x1 : Int} {x2 : Int} {x3 : Int} {x4 : Int} {h : vH} : vrun mX3_addVirtuals 0 [(1, x0), (1, x1), (0, x2), (0, x3), (0, x4), (9, 0), (9, 0), (9, 0), (9, 0)] [] h = vrun mX3_addVirtuals 3 [(1, x0), (1, x1), (0, x2), (0, x3), (0, x4), (0, 0), (9, 0), (9, 0), (9, 0)] [] h := by
  refine (rn_iconst (pc := 0) (dd bX3_addVirtuals dX3_addVirtuals_0) (by decide)).trans ?_
  refine (rn_istore (pc := 1) (dd bX3_addVirtuals dX3_addVirtuals_1) (Nat.le_of_ble_eq_true rfl) rfl).trans ?_
  rfl
theorem rX3_addVirtuals_3 {x0 : Int} {x1 : Int} {x2 : Int} {x3 : Int} {x4 : Int} {x5 : Int} {v6 : vv} {v7 : vv} {v8 : vv} {h : vH} (s1 : shLayers h x1) (s2 : shList h (x1 + 2)) (p3 : ¬ (h 102 (x1 + 2) 0 ≤ x5) → ¬ (x5 < 0)) (p4 : ¬ (h 102 (x1 + 2) 0 ≤ x5) → h 0 (h 101 (x1 + 2) 0) 0 = 6) (p5 : ¬ (h 102 (x1 + 2) 0 ≤ x5) → 0 ≤ x5) (p6 : ¬ (h 102 (x1 + 2) 0 ≤ x5) → x5 < h 1 (h 101 (x1 + 2) 0) 0) (s7 : ¬ (h 102 (x1 + 2) 0 ≤ x5) → shVirtual h (h 2 (h 101 (x1 + 2) 0) x5)) (p8 : ¬ (h 102 (x1 + 2) 0 ≤ x5) → h 901 (h 2 (h 101 (x1 + 2) 0) x5 + 1) 0 = x2 → h 902 (h 2 (h 101 (x1 + 2) 0) x5 + 1) 0 ≤ x3 → x5 + 1 < 2147483648) (p9 : ¬ (h 102 (x1 + 2) 0 ≤ x5) → h 901 (h 2 (h 101 (x1 + 2) 0) x5 + 1) 0 = x2 → ¬ (h 902 (h 2 (h 101 (x1 + 2) 0) x5 + 1) 0 ≤ x3) → x4 < h 902 (h 2 (h 101 (x1 + 2) 0) x5 + 1) 0 → x5 + 1 < 2147483648) (p10 : ¬ (h 102 (x1 + 2) 0 ≤ x5) → ¬ (h 901 (h 2 (h 101 (x1 + 2) 0) x5 + 1) 0 = x2) → x5 + 1 < 2147483648) : vrun mX3_addVirtuals 3 [(1, x0), (1, x1), (0, x2), (0, x3), (0, x4), (0, x5), v6, v7, v8] [] h = if h 102 (x1 + 2) 0 ≤ x5 then some (.inl none, h) else if h 901 (h 2 (h 101 (x1 + 2) 0) x5 + 1) 0 = x2 then if h 902 (h 2 (h 101 (x1 + 2) 0) x5 + 1) 0 ≤ x3 then vrun mX3_addVirtuals 3 [(1, x0), (1, x1), (0, x2), (0, x3), (0, x4), (0, x5 + 1), (1, h 2 (h 101 (x1 + 2) 0) x5), (0, h 902 (h 2 (h 101 (x1 + 2) 0) x5 + 1) 0), v8] [] h else if x4 < h 902 (h 2 (h 101 (x1 + 2) 0) x5 + 1) 0 then vrun mX3_addVirtuals 3 [(1, x0), (1, x1), (0, x2), (0, x3), (0, x4), (0, x5 + 1), (1, h 2 (h 101 (x1 + 2) 0) x5), (0, h 902 (h 2 (h 101 (x1 + 2) 0) x5 + 1) 0), v8] [] h else vrun mX3_addVirtuals 67 [(1, x0), (1, x1), (0, x2), (0, x3), (0, x4), (0, x5), (1, h 2 (h 101 (x1 + 2) 0) x5), (0, h 902 (h 2 (h 101 (x1 + 2) 0) x5 + 1) 0), (0, 0)] [] h else vrun mX3_addVirtuals 3 [(1, x0), (1, x1), (0, x2), (0, x3), (0, x4), (0, x5 + 1), (1, h 2 (h 101 (x1 + 2) 0) x5), (0, h 902 (h 2 (h 101 (x1 + 2) 0) x5 + 1) 0), v8] [] h := by
  refine (rn_iload (pc := 3) (dd bX3_addVirtuals dX3_addVirtuals_3) rfl).trans ?_
  refine (rn_aload_n (pc := 5) (dd bX3_addVirtuals dX3_addVirtuals_5) rfl).trans ?_
  refine (rg_gf (pc := 6) (dd bX3_addVirtuals dX3_addVirtuals_6) (ci := 3) (j := 1) rfl rfl (key := 401) rfl (kc := 23) rfl s1.1 s1.2.2.1).trans ?_
  refine (rg_virtual (pc := 9) (dd bX3_addVirtuals dX3_addVirtuals_9) rfl rfl (by decide) (kc := 20) rfl s2 (as := [(1, x1 + 2)]) rfl ⟨Nat.le_of_ble_eq_true rfl, Nat.le_of_ble_eq_true rfl, Nat.le_of_ble_eq_true rfl, Nat.le_of_ble_eq_true rfl⟩).trans ?_
  refine (vret_v (spJx4a65c_size_8abf5 s2)).trans ?_
  refine (rn_icmp_ge (t := 111) (pc := 12) (dd bX3_addVirtuals dX3_addVirtuals_12) rfl).trans (itec (fun c1 => ?_) (fun c1 => ?_))
  · exact rn_return (pc := 111) (dd bX3_addVirtuals dX3_addVirtuals_111) rfl
  · refine (rn_aload_n (pc := 15) (dd bX3_addVirtuals dX3_addVirtuals_15) rfl).trans ?_
    refine (rg_gf (pc := 16) (dd bX3_addVirtuals dX3_addVirtuals_16) (ci := 3) (j := 1) rfl rfl (key := 401) rfl (kc := 23) rfl s1.1 s1.2.2.1).trans ?_
    refine (rn_iload (pc := 19) (dd bX3_addVirtuals dX3_addVirtuals_19) rfl).trans ?_
    refine (rg_virtual (pc := 21) (dd bX3_addVirtuals dX3_addVirtuals_21) rfl rfl (by decide) (kc := 20) rfl s2 (as := [(1, x1 + 2), (0, x5)]) rfl ⟨Nat.le_of_ble_eq_true rfl, Nat.le_of_ble_eq_true rfl, Nat.le_of_ble_eq_true rfl, Nat.le_of_ble_eq_true rfl⟩).trans ?_
    refine (vret_v (spJx4a65c_get_915e3 s2 (p3 c1) (Int.not_le.mp c1) (p4 c1) (p5 c1) (p6 c1))).trans ?_
    refine (rg_cast (pc := 24) (dd bX3_addVirtuals dX3_addVirtuals_24) (ci := 12) rfl (kc := 32) rfl (s7 c1).1).trans ?_
    refine (rn_astore (pc := 27) (dd bX3_addVirtuals dX3_addVirtuals_27) (Nat.le_of_ble_eq_true rfl) rfl).trans ?_
    refine (rn_aload (pc := 29) (dd bX3_addVirtuals dX3_addVirtuals_29) rfl).trans ?_
    refine (rg_gf (pc := 31) (dd bX3_addVirtuals dX3_addVirtuals_31) (ci := 12) (j := 0) rfl rfl (key := 1300) rfl (kc := 32) rfl (s7 c1).1 (s7 c1).2.1).trans ?_
    refine (rg_gf (pc := 34) (dd bX3_addVirtuals dX3_addVirtuals_34) (ci := 8) (j := 2) rfl rfl (key := 902) rfl (kc := 28) rfl (s7 c1).2.2 rfl).trans ?_
    refine (rn_istore (pc := 37) (dd bX3_addVirtuals dX3_addVirtuals_37) (Nat.le_of_ble_eq_true rfl) rfl).trans ?_
    refine (rn_aload (pc := 39) (dd bX3_addVirtuals dX3_addVirtuals_39) rfl).trans ?_
    refine (rg_gf (pc := 41) (dd bX3_addVirtuals dX3_addVirtuals_41) (ci := 12) (j := 0) rfl rfl (key := 1300) rfl (kc := 32) rfl (s7 c1).1 (s7 c1).2.1).trans ?_
    refine (rg_gf (pc := 44) (dd bX3_addVirtuals dX3_addVirtuals_44) (ci := 8) (j := 1) rfl rfl (key := 901) rfl (kc := 28) rfl (s7 c1).2.2 rfl).trans ?_
    refine (rn_iload_n (pc := 47) (dd bX3_addVirtuals dX3_addVirtuals_47) rfl).trans ?_
    refine (rg_icmp_ne (t := 105) (pc := 48) (dd bX3_addVirtuals dX3_addVirtuals_48) rfl).trans (itec (fun c2 => ?_) (fun c2 => ?_))
    · refine (rn_iload (pc := 51) (dd bX3_addVirtuals dX3_addVirtuals_51) rfl).trans ?_
      refine (rn_iload_n (pc := 53) (dd bX3_addVirtuals dX3_addVirtuals_53) rfl).trans ?_
      refine (rn_icmp_le (t := 105) (pc := 54) (dd bX3_addVirtuals dX3_addVirtuals_54) rfl).trans (itec (fun c3 => ?_) (fun c3 => ?_))
      · refine (rg_iinc (pc := 105) (dd bX3_addVirtuals dX3_addVirtuals_105) rfl (Nat.le_of_ble_eq_true rfl) (by have z0 := p5 c1; omega) (p8 c1 c2 c3) rfl).trans ?_
        refine (rn_goto (t := 3) (pc := 108) (dd bX3_addVirtuals dX3_addVirtuals_108) rfl).trans ?_
        rfl
      · refine (rn_iload (pc := 57) (dd bX3_addVirtuals dX3_addVirtuals_57) rfl).trans ?_
        refine (rn_iload (pc := 59) (dd bX3_addVirtuals dX3_addVirtuals_59) rfl).trans ?_
        refine (rn_icmp_gt (t := 105) (pc := 61) (dd bX3_addVirtuals dX3_addVirtuals_61) rfl).trans (itec (fun c4 => ?_) (fun c4 => ?_))
        · refine (rg_iinc (pc := 105) (dd bX3_addVirtuals dX3_addVirtuals_105) rfl (Nat.le_of_ble_eq_true rfl) (by have z0 := p5 c1; omega) (p9 c1 c2 c3 c4) rfl).trans ?_
          refine (rn_goto (t := 3) (pc := 108) (dd bX3_addVirtuals dX3_addVirtuals_108) rfl).trans ?_
          rfl
        · refine (rn_iconst (pc := 64) (dd bX3_addVirtuals dX3_addVirtuals_64) (by decide)).trans ?_
          refine (rn_istore (pc := 65) (dd bX3_addVirtuals dX3_addVirtuals_65) (Nat.le_of_ble_eq_true rfl) rfl).trans ?_
          rfl
    · refine (rg_iinc (pc := 105) (dd bX3_addVirtuals dX3_addVirtuals_105) rfl (Nat.le_of_ble_eq_true rfl) (by have z0 := p5 c1; omega) (p10 c1 c2) rfl).trans ?_
      refine (rn_goto (t := 3) (pc := 108) (dd bX3_addVirtuals dX3_addVirtuals_108) rfl).trans ?_
      rfl
theorem rX3_addVirtuals_67 {x0 : Int} {x1 : Int} {x2 : Int} {x3 : Int} {x4 : Int} {x5 : Int} {x6 : Int} {x7 : Int} {x8 : Int} {h : vH} (p1 : 8 ≤ x8 → (-2147483648) ≤ x5 + 1) (p2 : 8 ≤ x8 → x5 + 1 < 2147483648) (s3 : shVirtual h x6) (p4 : ¬ (8 ≤ x8) → (-2147483648) ≤ x8 * 8) (p5 : ¬ (8 ≤ x8) → x8 * 8 < 2147483648) (p6 : ¬ (8 ≤ x8) → fX11_signAt h x6 x8 = 0 → (-2147483648) ≤ x5 + 1) (p7 : ¬ (8 ≤ x8) → fX11_signAt h x6 x8 = 0 → x5 + 1 < 2147483648) (s8 : shLayout h x0) : vrun mX3_addVirtuals 67 [(1, x0), (1, x1), (0, x2), (0, x3), (0, x4), (0, x5), (1, x6), (0, x7), (0, x8)] [] h = if 8 ≤ x8 then vrun mX3_addVirtuals 3 [(1, x0), (1, x1), (0, x2), (0, x3), (0, x4), (0, x5 + 1), (1, x6), (0, x7), (0, x8)] [] h else if fX11_signAt h x6 x8 = 0 then vrun mX3_addVirtuals 3 [(1, x0), (1, x1), (0, x2), (0, x3), (0, x4), (0, x5 + 1), (1, x6), (0, x7), (0, x8)] [] h else vret vrun mX3_addVirtuals 96 [(1, x0), (1, x1), (0, x2), (0, x3), (0, x4), (0, x5), (1, x6), (0, x7), (0, x8)] [] (vcl mX3_add [(1, x0), (0, fX11_signAt h x6 x8), (0, 1), (0, (-1)), (0, x7)] h) := by
  refine (rn_iload (pc := 67) (dd bX3_addVirtuals dX3_addVirtuals_67) rfl).trans ?_
  refine (rn_bipush (pc := 69) (dd bX3_addVirtuals dX3_addVirtuals_69) (by decide)).trans ?_
  refine (rn_icmp_ge (t := 105) (pc := 71) (dd bX3_addVirtuals dX3_addVirtuals_71) rfl).trans (itec (fun c1 => ?_) (fun c1 => ?_))
  · refine (rg_iinc (pc := 105) (dd bX3_addVirtuals dX3_addVirtuals_105) rfl (Nat.le_of_ble_eq_true rfl) (p1 c1) (p2 c1) rfl).trans ?_
    refine (rn_goto (t := 3) (pc := 108) (dd bX3_addVirtuals dX3_addVirtuals_108) rfl).trans ?_
    rfl
  · refine (rn_aload (pc := 74) (dd bX3_addVirtuals dX3_addVirtuals_74) rfl).trans ?_
    refine (rn_iload (pc := 76) (dd bX3_addVirtuals dX3_addVirtuals_76) rfl).trans ?_
    refine (rg_virtual (pc := 78) (dd bX3_addVirtuals dX3_addVirtuals_78) rfl rfl (by decide) (kc := 32) rfl s3.1 (as := [(1, x6), (0, x8)]) rfl ⟨Nat.le_of_ble_eq_true rfl, Nat.le_of_ble_eq_true rfl, Nat.le_of_ble_eq_true rfl, Nat.le_of_ble_eq_true rfl⟩).trans ?_
    refine (vret_v (spX11_signAt s3 (p4 c1) (p5 c1))).trans ?_
    refine (rn_if_eq (t := 105) (pc := 81) (dd bX3_addVirtuals dX3_addVirtuals_81) rfl).trans (itec (fun c2 => ?_) (fun c2 => ?_))
    · refine (rg_iinc (pc := 105) (dd bX3_addVirtuals dX3_addVirtuals_105) rfl (Nat.le_of_ble_eq_true rfl) (p6 c1 c2) (p7 c1 c2) rfl).trans ?_
      refine (rn_goto (t := 3) (pc := 108) (dd bX3_addVirtuals dX3_addVirtuals_108) rfl).trans ?_
      rfl
    · refine (rn_aload_n (pc := 84) (dd bX3_addVirtuals dX3_addVirtuals_84) rfl).trans ?_
      refine (rn_aload (pc := 85) (dd bX3_addVirtuals dX3_addVirtuals_85) rfl).trans ?_
      refine (rn_iload (pc := 87) (dd bX3_addVirtuals dX3_addVirtuals_87) rfl).trans ?_
      refine (rg_virtual (pc := 89) (dd bX3_addVirtuals dX3_addVirtuals_89) rfl rfl (by decide) (kc := 32) rfl s3.1 (as := [(1, x6), (0, x8)]) rfl ⟨Nat.le_of_ble_eq_true rfl, Nat.le_of_ble_eq_true rfl, Nat.le_of_ble_eq_true rfl, Nat.le_of_ble_eq_true rfl⟩).trans ?_
      refine (vret_v (spX11_signAt s3 (by have z0 := p4 c1; have z1 := p5 c1; omega) (by have z0 := p4 c1; have z1 := p5 c1; omega))).trans ?_
      refine (rn_iconst (pc := 92) (dd bX3_addVirtuals dX3_addVirtuals_92) (by decide)).trans ?_
      refine (rn_iconst (pc := 93) (dd bX3_addVirtuals dX3_addVirtuals_93) (by decide)).trans ?_
      refine (rn_iload (pc := 94) (dd bX3_addVirtuals dX3_addVirtuals_94) rfl).trans ?_
      exact rg_virtual (pc := 96) (dd bX3_addVirtuals dX3_addVirtuals_96) rfl rfl (by decide) (kc := 24) rfl s8.1 (as := [(1, x0), (0, fX11_signAt h x6 x8), (0, 1), (0, (-1)), (0, x7)]) rfl ⟨Nat.le_of_ble_eq_true rfl, Nat.le_of_ble_eq_true rfl, Nat.le_of_ble_eq_true rfl, Nat.le_of_ble_eq_true rfl⟩
theorem rX3_addVirtuals_99 {x0 : Int} {x1 : Int} {x2 : Int} {x3 : Int} {x4 : Int} {x5 : Int} {x6 : Int} {x7 : Int} {x8 : Int} {h : vH} (p1 : (-2147483648) ≤ x8 + 1) (p2 : x8 + 1 < 2147483648) : vrun mX3_addVirtuals 99 [(1, x0), (1, x1), (0, x2), (0, x3), (0, x4), (0, x5), (1, x6), (0, x7), (0, x8)] [] h = vrun mX3_addVirtuals 67 [(1, x0), (1, x1), (0, x2), (0, x3), (0, x4), (0, x5), (1, x6), (0, x7), (0, x8 + 1)] [] h := by
  refine (rg_iinc (pc := 99) (dd bX3_addVirtuals dX3_addVirtuals_99) rfl (Nat.le_of_ble_eq_true rfl) p1 p2 rfl).trans ?_
  refine (rn_goto (t := 67) (pc := 102) (dd bX3_addVirtuals dX3_addVirtuals_102) rfl).trans ?_
  rfl
theorem bX3_collect : vmB mX3_collect = cX3_collect := rfl
theorem rX3_collect_0 {x0 : Int} {x1 : Int} {x2 : Int} {x3 : Int} {h : vH} (s1 : shLayout h x0) (s2 : shLine h x1) : vrun mX3_collect 0 [(1, x0), (1, x1), (1, x2), (0, x3), (9, 0), (9, 0)] [] h = vrun mX3_collect 19 [(1, x0), (1, x1), (1, x2), (0, x3), (0, (-1)), (0, 0)] [] (vup (vup h 509 x0 0 0) 512 x0 0 (h 601 x1 0)) := by
  refine (rn_aload_n (pc := 0) (dd bX3_collect dX3_collect_0) rfl).trans ?_
  refine (rn_iconst (pc := 1) (dd bX3_collect dX3_collect_1) (by decide)).trans ?_
  refine (rg_pf (pc := 2) (dd bX3_collect dX3_collect_2) (ci := 4) (j := 9) rfl (key := 509) rfl (kc := 24) rfl s1.1 rfl (by intro z; cases z) (by decide)).trans ?_
  refine (rn_aload_n (pc := 5) (dd bX3_collect dX3_collect_5) rfl).trans ?_
  refine (rn_aload_n (pc := 6) (dd bX3_collect dX3_collect_6) rfl).trans ?_
  refine (rg_gf (pc := 7) (dd bX3_collect dX3_collect_7) (ci := 5) (j := 1) rfl rfl (key := 601) rfl (kc := 25) rfl ((vup_k (by decide)).trans s2.1) ((vup_k (by decide)).trans rfl)).trans ?_
  refine (rg_pf (pc := 10) (dd bX3_collect dX3_collect_10) (ci := 4) (j := 12) rfl (key := 512) rfl (kc := 24) rfl ((vup_k (by decide)).trans s1.1) rfl (by intro z; cases z) (by decide)).trans ?_
  refine (rn_iconst (pc := 13) (dd bX3_collect dX3_collect_13) (by decide)).trans ?_
  refine (rn_istore (pc := 14) (dd bX3_collect dX3_collect_14) (Nat.le_of_ble_eq_true rfl) rfl).trans ?_
  refine (rn_iconst (pc := 16) (dd bX3_collect dX3_collect_16) (by decide)).trans ?_
  refine (rn_istore (pc := 17) (dd bX3_collect dX3_collect_17) (Nat.le_of_ble_eq_true rfl) rfl).trans ?_
  rfl
theorem rX3_collect_19 {x0 : Int} {x1 : Int} {x2 : Int} {x3 : Int} {x4 : Int} {x5 : Int} {h : vH} (s1 : shLayout h x0) (s2 : shLine h x1) (p3 : ¬ (h 512 x0 0 ≤ x5) → fX4_hasClusterAt h x1 x5 = 0 → (-2147483648) ≤ x5 + 1) (p4 : ¬ (h 512 x0 0 ≤ x5) → fX4_hasClusterAt h x1 x5 = 0 → x5 + 1 < 2147483648) : vrun mX3_collect 19 [(1, x0), (1, x1), (1, x2), (0, x3), (0, x4), (0, x5)] [] h = if h 512 x0 0 ≤ x5 then vret vrun mX3_collect 96 [(1, x0), (1, x1), (1, x2), (0, x3), (0, x4), (0, x5)] [] (vcl mX3_addVirtuals [(1, x0), (1, x2), (0, x3), (0, x4), (0, h 512 x0 0)] h) else if fX4_hasClusterAt h x1 x5 = 0 then vrun mX3_collect 19 [(1, x0), (1, x1), (1, x2), (0, x3), (0, x4), (0, x5 + 1)] [] h else vret vrun mX3_collect 44 [(1, x0), (1, x1), (1, x2), (0, x3), (0, x4), (0, x5)] [] (vcl mX3_addVirtuals [(1, x0), (1, x2), (0, x3), (0, x4), (0, x5)] h) := by
  refine (rn_iload (pc := 19) (dd bX3_collect dX3_collect_19) rfl).trans ?_
  refine (rn_aload_n (pc := 21) (dd bX3_collect dX3_collect_21) rfl).trans ?_
  refine (rg_gf (pc := 22) (dd bX3_collect dX3_collect_22) (ci := 4) (j := 12) rfl rfl (key := 512) rfl (kc := 24) rfl s1.1 rfl).trans ?_
  refine (rn_icmp_ge (t := 87) (pc := 25) (dd bX3_collect dX3_collect_25) rfl).trans (itec (fun c1 => ?_) (fun c1 => ?_))
  · refine (rn_aload_n (pc := 87) (dd bX3_collect dX3_collect_87) rfl).trans ?_
    refine (rn_aload_n (pc := 88) (dd bX3_collect dX3_collect_88) rfl).trans ?_
    refine (rn_iload_n (pc := 89) (dd bX3_collect dX3_collect_89) rfl).trans ?_
    refine (rn_iload (pc := 90) (dd bX3_collect dX3_collect_90) rfl).trans ?_
    refine (rn_aload_n (pc := 92) (dd bX3_collect dX3_collect_92) rfl).trans ?_
    refine (rg_gf (pc := 93) (dd bX3_collect dX3_collect_93) (ci := 4) (j := 12) rfl rfl (key := 512) rfl (kc := 24) rfl s1.1 rfl).trans ?_
    exact rg_virtual (pc := 96) (dd bX3_collect dX3_collect_96) rfl rfl (by decide) (kc := 24) rfl s1.1 (as := [(1, x0), (1, x2), (0, x3), (0, x4), (0, h 512 x0 0)]) rfl ⟨Nat.le_of_ble_eq_true rfl, Nat.le_of_ble_eq_true rfl, Nat.le_of_ble_eq_true rfl, Nat.le_of_ble_eq_true rfl⟩
  · refine (rn_aload_n (pc := 28) (dd bX3_collect dX3_collect_28) rfl).trans ?_
    refine (rn_iload (pc := 29) (dd bX3_collect dX3_collect_29) rfl).trans ?_
    refine (rg_virtual (pc := 31) (dd bX3_collect dX3_collect_31) rfl rfl (by decide) (kc := 25) rfl s2.1 (as := [(1, x1), (0, x5)]) rfl ⟨Nat.le_of_ble_eq_true rfl, Nat.le_of_ble_eq_true rfl, Nat.le_of_ble_eq_true rfl, Nat.le_of_ble_eq_true rfl⟩).trans ?_
    refine (vret_v (spX4_hasClusterAt s2)).trans ?_
    refine (rn_if_eq (t := 81) (pc := 34) (dd bX3_collect dX3_collect_34) rfl).trans (itec (fun c2 => ?_) (fun c2 => ?_))
    · refine (rg_iinc (pc := 81) (dd bX3_collect dX3_collect_81) rfl (Nat.le_of_ble_eq_true rfl) (p3 c1 c2) (p4 c1 c2) rfl).trans ?_
      refine (rn_goto (t := 19) (pc := 84) (dd bX3_collect dX3_collect_84) rfl).trans ?_
      rfl
    · refine (rn_aload_n (pc := 37) (dd bX3_collect dX3_collect_37) rfl).trans ?_
      refine (rn_aload_n (pc := 38) (dd bX3_collect dX3_collect_38) rfl).trans ?_
      refine (rn_iload_n (pc := 39) (dd bX3_collect dX3_collect_39) rfl).trans ?_
      refine (rn_iload (pc := 40) (dd bX3_collect dX3_collect_40) rfl).trans ?_
      refine (rn_iload (pc := 42) (dd bX3_collect dX3_collect_42) rfl).trans ?_
      exact rg_virtual (pc := 44) (dd bX3_collect dX3_collect_44) rfl rfl (by decide) (kc := 24) rfl s1.1 (as := [(1, x0), (1, x2), (0, x3), (0, x4), (0, x5)]) rfl ⟨Nat.le_of_ble_eq_true rfl, Nat.le_of_ble_eq_true rfl, Nat.le_of_ble_eq_true rfl, Nat.le_of_ble_eq_true rfl⟩
theorem rX3_collect_99 {x0 : Int} {x1 : Int} {x2 : Int} {x3 : Int} {x4 : Int} {x5 : Int} {h : vH} (s1 : shLayers h x2) : vrun mX3_collect 99 [(1, x0), (1, x1), (1, x2), (0, x3), (0, x4), (0, x5)] [] h = vret vrun mX3_collect 101 [(1, x0), (1, x1), (1, x2), (0, x3), (0, x4), (0, x5)] [] (vcl mX2_closedEnd [(1, x2), (0, x3)] h) := by
  refine (rn_aload_n (pc := 99) (dd bX3_collect dX3_collect_99) rfl).trans ?_
  refine (rn_iload_n (pc := 100) (dd bX3_collect dX3_collect_100) rfl).trans ?_
  exact rg_virtual (pc := 101) (dd bX3_collect dX3_collect_101) rfl rfl (by decide) (kc := 23) rfl s1.1 (as := [(1, x2), (0, x3)]) rfl ⟨Nat.le_of_ble_eq_true rfl, Nat.le_of_ble_eq_true rfl, Nat.le_of_ble_eq_true rfl, Nat.le_of_ble_eq_true rfl⟩
theorem rX3_collect_47 {x0 : Int} {x1 : Int} {x2 : Int} {x3 : Int} {x4 : Int} {x5 : Int} {h : vH} (s1 : shLayers h x2) : vrun mX3_collect 47 [(1, x0), (1, x1), (1, x2), (0, x3), (0, x4), (0, x5)] [] h = vret vrun mX3_collect 51 [(1, x0), (1, x1), (1, x2), (0, x3), (0, x4), (0, x5)] [] (vcl mX2_isHidden [(1, x2), (0, x3), (0, x5)] h) := by
  refine (rn_aload_n (pc := 47) (dd bX3_collect dX3_collect_47) rfl).trans ?_
  refine (rn_iload_n (pc := 48) (dd bX3_collect dX3_collect_48) rfl).trans ?_
  refine (rn_iload (pc := 49) (dd bX3_collect dX3_collect_49) rfl).trans ?_
  exact rg_virtual (pc := 51) (dd bX3_collect dX3_collect_51) rfl rfl (by decide) (kc := 23) rfl s1.1 (as := [(1, x2), (0, x3), (0, x5)]) rfl ⟨Nat.le_of_ble_eq_true rfl, Nat.le_of_ble_eq_true rfl, Nat.le_of_ble_eq_true rfl, Nat.le_of_ble_eq_true rfl⟩
theorem rX3_collect_104 {x0 : Int} {x1 : Int} {x2 : Int} {x3 : Int} {x4 : Int} {x5 : Int} {y0 : Int} {h : vH} : vrun mX3_collect 104 [(1, x0), (1, x1), (1, x2), (0, x3), (0, x4), (0, x5)] [(0, y0)] h = if y0 = (-1) then some (.inl none, h) else vrun mX3_collect 111 [(1, x0), (1, x1), (1, x2), (0, x3), (0, x4), (0, 0)] [] h := by
  refine (rn_iconst (pc := 104) (dd bX3_collect dX3_collect_104) (by decide)).trans ?_
  refine (rn_icmp_eq (t := 135) (pc := 105) (dd bX3_collect dX3_collect_105) rfl).trans (itec (fun c1 => ?_) (fun c1 => ?_))
  · exact rn_return (pc := 135) (dd bX3_collect dX3_collect_135) rfl
  · refine (rn_iconst (pc := 108) (dd bX3_collect dX3_collect_108) (by decide)).trans ?_
    refine (rn_istore (pc := 109) (dd bX3_collect dX3_collect_109) (Nat.le_of_ble_eq_true rfl) rfl).trans ?_
    rfl
theorem rX3_collect_54 {x0 : Int} {x1 : Int} {x2 : Int} {x3 : Int} {x4 : Int} {x5 : Int} {y0 : Int} {h : vH} (s1 : shLine h x1) (p2 : ¬ (y0 = 0) → (-2147483648) ≤ x5 + 1) (p3 : ¬ (y0 = 0) → x5 + 1 < 2147483648) : vrun mX3_collect 54 [(1, x0), (1, x1), (1, x2), (0, x3), (0, x4), (0, x5)] [(0, y0)] h = if y0 = 0 then vret vrun mX3_collect 67 [(1, x0), (1, x1), (1, x2), (0, x3), (0, x4), (0, x5)] [(0, fX4_signAt h x1 x5), (1, x0)] (vcl mX4_clusterSize [(1, x1), (0, x5)] h) else vrun mX3_collect 19 [(1, x0), (1, x1), (1, x2), (0, x3), (0, x5), (0, x5 + 1)] [] h := by
  refine (rg_if_ne (t := 77) (pc := 54) (dd bX3_collect dX3_collect_54) rfl).trans (itec (fun c1 => ?_) (fun c1 => ?_))
  · refine (rn_aload_n (pc := 57) (dd bX3_collect dX3_collect_57) rfl).trans ?_
    refine (rn_aload_n (pc := 58) (dd bX3_collect dX3_collect_58) rfl).trans ?_
    refine (rn_iload (pc := 59) (dd bX3_collect dX3_collect_59) rfl).trans ?_
    refine (rg_virtual (pc := 61) (dd bX3_collect dX3_collect_61) rfl rfl (by decide) (kc := 25) rfl s1.1 (as := [(1, x1), (0, x5)]) rfl ⟨Nat.le_of_ble_eq_true rfl, Nat.le_of_ble_eq_true rfl, Nat.le_of_ble_eq_true rfl, Nat.le_of_ble_eq_true rfl⟩).trans ?_
    refine (vret_v (spX4_signAt s1)).trans ?_
    refine (rn_aload_n (pc := 64) (dd bX3_collect dX3_collect_64) rfl).trans ?_
    refine (rn_iload (pc := 65) (dd bX3_collect dX3_collect_65) rfl).trans ?_
    exact rg_virtual (pc := 67) (dd bX3_collect dX3_collect_67) rfl rfl (by decide) (kc := 25) rfl s1.1 (as := [(1, x1), (0, x5)]) rfl ⟨Nat.le_of_ble_eq_true rfl, Nat.le_of_ble_eq_true rfl, Nat.le_of_ble_eq_true rfl, Nat.le_of_ble_eq_true rfl⟩
  · refine (rn_iload (pc := 77) (dd bX3_collect dX3_collect_77) rfl).trans ?_
    refine (rn_istore (pc := 79) (dd bX3_collect dX3_collect_79) (Nat.le_of_ble_eq_true rfl) rfl).trans ?_
    refine (rg_iinc (pc := 81) (dd bX3_collect dX3_collect_81) rfl (Nat.le_of_ble_eq_true rfl) (p2 c1) (p3 c1) rfl).trans ?_
    refine (rn_goto (t := 19) (pc := 84) (dd bX3_collect dX3_collect_84) rfl).trans ?_
    rfl
theorem rX3_collect_111 {x0 : Int} {x1 : Int} {x2 : Int} {x3 : Int} {x4 : Int} {x5 : Int} {h : vH} (s1 : shLayout h x0) : vrun mX3_collect 111 [(1, x0), (1, x1), (1, x2), (0, x3), (0, x4), (0, x5)] [] h = if 3 ≤ x5 then some (.inl none, h) else vret vrun mX3_collect 126 [(1, x0), (1, x1), (1, x2), (0, x3), (0, x4), (0, x5)] [] (vcl mX3_add [(1, x0), (0, 46), (0, 1), (0, (-1)), (0, h 512 x0 0)] h) := by
  refine (rn_iload (pc := 111) (dd bX3_collect dX3_collect_111) rfl).trans ?_
  refine (rn_iconst (pc := 113) (dd bX3_collect dX3_collect_113) (by decide)).trans ?_
  refine (rn_icmp_ge (t := 135) (pc := 114) (dd bX3_collect dX3_collect_114) rfl).trans (itec (fun c1 => ?_) (fun c1 => ?_))
  · exact rn_return (pc := 135) (dd bX3_collect dX3_collect_135) rfl
  · refine (rn_aload_n (pc := 117) (dd bX3_collect dX3_collect_117) rfl).trans ?_
    refine (rn_bipush (pc := 118) (dd bX3_collect dX3_collect_118) (by decide)).trans ?_
    refine (rn_iconst (pc := 120) (dd bX3_collect dX3_collect_120) (by decide)).trans ?_
    refine (rn_iconst (pc := 121) (dd bX3_collect dX3_collect_121) (by decide)).trans ?_
    refine (rn_aload_n (pc := 122) (dd bX3_collect dX3_collect_122) rfl).trans ?_
    refine (rg_gf (pc := 123) (dd bX3_collect dX3_collect_123) (ci := 4) (j := 12) rfl rfl (key := 512) rfl (kc := 24) rfl s1.1 rfl).trans ?_
    exact rg_virtual (pc := 126) (dd bX3_collect dX3_collect_126) rfl rfl (by decide) (kc := 24) rfl s1.1 (as := [(1, x0), (0, 46), (0, 1), (0, (-1)), (0, h 512 x0 0)]) rfl ⟨Nat.le_of_ble_eq_true rfl, Nat.le_of_ble_eq_true rfl, Nat.le_of_ble_eq_true rfl, Nat.le_of_ble_eq_true rfl⟩
theorem rX3_collect_70 {x0 : Int} {x1 : Int} {x2 : Int} {x3 : Int} {x4 : Int} {x5 : Int} {y0 : Int} {y1 : Int} {y2 : Int} {h : vH} (s1 : shLayout h y2) : vrun mX3_collect 70 [(1, x0), (1, x1), (1, x2), (0, x3), (0, x4), (0, x5)] [(0, y0), (0, y1), (1, y2)] h = vret vrun mX3_collect 74 [(1, x0), (1, x1), (1, x2), (0, x3), (0, x4), (0, x5)] [] (vcl mX3_add [(1, y2), (0, y1), (0, y0), (0, x5), (0, x5)] h) := by
  refine (rn_iload (pc := 70) (dd bX3_collect dX3_collect_70) rfl).trans ?_
  refine (rn_iload (pc := 72) (dd bX3_collect dX3_collect_72) rfl).trans ?_
  exact rg_virtual (pc := 74) (dd bX3_collect dX3_collect_74) rfl rfl (by decide) (kc := 24) rfl s1.1 (as := [(1, y2), (0, y1), (0, y0), (0, x5), (0, x5)]) rfl ⟨Nat.le_of_ble_eq_true rfl, Nat.le_of_ble_eq_true rfl, Nat.le_of_ble_eq_true rfl, Nat.le_of_ble_eq_true rfl⟩
theorem rX3_collect_129 {x0 : Int} {x1 : Int} {x2 : Int} {x3 : Int} {x4 : Int} {x5 : Int} {h : vH} (p1 : (-2147483648) ≤ x5 + 1) (p2 : x5 + 1 < 2147483648) : vrun mX3_collect 129 [(1, x0), (1, x1), (1, x2), (0, x3), (0, x4), (0, x5)] [] h = vrun mX3_collect 111 [(1, x0), (1, x1), (1, x2), (0, x3), (0, x4), (0, x5 + 1)] [] h := by
  refine (rg_iinc (pc := 129) (dd bX3_collect dX3_collect_129) rfl (Nat.le_of_ble_eq_true rfl) p1 p2 rfl).trans ?_
  refine (rn_goto (t := 111) (pc := 132) (dd bX3_collect dX3_collect_132) rfl).trans ?_
  rfl
theorem rX3_collect_77 {x0 : Int} {x1 : Int} {x2 : Int} {x3 : Int} {x4 : Int} {x5 : Int} {h : vH} (p1 : (-2147483648) ≤ x5 + 1) (p2 : x5 + 1 < 2147483648) : vrun mX3_collect 77 [(1, x0), (1, x1), (1, x2), (0, x3), (0, x4), (0, x5)] [] h = vrun mX3_collect 19 [(1, x0), (1, x1), (1, x2), (0, x3), (0, x5), (0, x5 + 1)] [] h := by
  refine (rn_iload (pc := 77) (dd bX3_collect dX3_collect_77) rfl).trans ?_
  refine (rn_istore (pc := 79) (dd bX3_collect dX3_collect_79) (Nat.le_of_ble_eq_true rfl) rfl).trans ?_
  refine (rg_iinc (pc := 81) (dd bX3_collect dX3_collect_81) rfl (Nat.le_of_ble_eq_true rfl) p1 p2 rfl).trans ?_
  refine (rn_goto (t := 19) (pc := 84) (dd bX3_collect dX3_collect_84) rfl).trans ?_
  rfl
theorem bX3_firstColumn : vmB mX3_firstColumn = cX3_firstColumn := rfl
theorem rX3_firstColumn_0 {x0 : Int} {x1 : Int} {h : vH} (s1 : shLayout h x0) : vrun mX3_firstColumn 0 [(1, x0), (0, x1)] [] h = some (.inl (some (0, (if x1 = 0 then 0 else h 513 x0 0))), h) := by
  refine (rn_iload_n (pc := 0) (dd bX3_firstColumn dX3_firstColumn_0) rfl).trans ?_
  have e1 : vrun mX3_firstColumn 1 [(1, x0), (0, x1)] [(0, x1)] h = vrun mX3_firstColumn 12 [(1, x0), (0, x1)] [(0, (if x1 = 0 then 0 else h 513 x0 0))] h := by
    refine (rg_if_ne (t := 8) (pc := 1) (dd bX3_firstColumn dX3_firstColumn_1) rfl).trans ?_
    by_cases c1 : x1 = 0
    · refine (if_pos c1).trans ?_
      refine (rn_iconst (pc := 4) (dd bX3_firstColumn dX3_firstColumn_4) (by decide)).trans ?_
      refine (rn_goto (t := 12) (pc := 5) (dd bX3_firstColumn dX3_firstColumn_5) rfl).trans ?_
      refine Eq.trans (b := vrun mX3_firstColumn 12 [(1, x0), (0, x1)] [(0, 0)] h) rfl ?_
      simp only [if_pos c1]
    · refine (if_neg c1).trans ?_
      refine (rn_aload_n (pc := 8) (dd bX3_firstColumn dX3_firstColumn_8) rfl).trans ?_
      refine (rg_gf (pc := 9) (dd bX3_firstColumn dX3_firstColumn_9) (ci := 4) (j := 13) rfl rfl (key := 513) rfl (kc := 24) rfl s1.1 rfl).trans ?_
      refine Eq.trans (b := vrun mX3_firstColumn 12 [(1, x0), (0, x1)] [(0, h 513 x0 0)] h) rfl ?_
      simp only [if_neg c1]
  refine e1.trans ?_
  exact rn_ireturn (pc := 12) (dd bX3_firstColumn dX3_firstColumn_12) (Or.inl rfl)
theorem spX3_firstColumn {x0 : Int} {x1 : Int} {h : vH} (s1 : shLayout h x0) : vcl mX3_firstColumn [(1, x0), (0, x1)] h = some (.inl (some (0, (if x1 = 0 then 0 else h 513 x0 0))), h) := by
  refine (show _ = _ from rX3_firstColumn_0 s1).trans ?_
  rfl
theorem bX3_widthAt : vmB mX3_widthAt = cX3_widthAt := rfl
theorem rX3_widthAt_0 {x0 : Int} {x1 : Int} {x2 : Int} {h : vH} (p1 : x1 = 9 → 0 ≤ x2) : vrun mX3_widthAt 0 [(1, x0), (0, x1), (0, x2)] [] h = if x1 = 9 then some (.inl (some (0, 4 - x2 % 4)), h) else some (.inl (some (0, (if x1 < 65 then 1 else (if 90 < x1 then 1 else 2)))), h) := by
  refine (rn_iload_n (pc := 0) (dd bX3_widthAt dX3_widthAt_0) rfl).trans ?_
  refine (rn_bipush (pc := 1) (dd bX3_widthAt dX3_widthAt_1) (by decide)).trans ?_
  refine (rg_icmp_ne (t := 12) (pc := 3) (dd bX3_widthAt dX3_widthAt_3) rfl).trans (itec (fun c1 => ?_) (fun c1 => ?_))
  · refine (rn_iconst (pc := 6) (dd bX3_widthAt dX3_widthAt_6) (by decide)).trans ?_
    refine (rn_iload_n (pc := 7) (dd bX3_widthAt dX3_widthAt_7) rfl).trans ?_
    refine (rn_iconst (pc := 8) (dd bX3_widthAt dX3_widthAt_8) (by decide)).trans ?_
    refine (rg_irem (pc := 9) (dd bX3_widthAt dX3_widthAt_9) (by decide) (p1 c1)).trans ?_
    refine (rg_isub (pc := 10) (dd bX3_widthAt dX3_widthAt_10) (by omega) (by omega)).trans ?_
    exact rn_ireturn (pc := 11) (dd bX3_widthAt dX3_widthAt_11) (Or.inl rfl)
  · refine (rn_iload_n (pc := 12) (dd bX3_widthAt dX3_widthAt_12) rfl).trans ?_
    refine (rn_bipush (pc := 13) (dd bX3_widthAt dX3_widthAt_13) (by decide)).trans ?_
    have e2 : vrun mX3_widthAt 15 [(1, x0), (0, x1), (0, x2)] [(0, 65), (0, x1)] h = vrun mX3_widthAt 29 [(1, x0), (0, x1), (0, x2)] [(0, (if x1 < 65 then 1 else (if 90 < x1 then 1 else 2)))] h := by
      refine (rn_icmp_lt (t := 28) (pc := 15) (dd bX3_widthAt dX3_widthAt_15) rfl).trans ?_
      by_cases c2 : x1 < 65
      · refine (if_pos c2).trans ?_
        refine (rn_iconst (pc := 28) (dd bX3_widthAt dX3_widthAt_28) (by decide)).trans ?_
        refine Eq.trans (b := vrun mX3_widthAt 29 [(1, x0), (0, x1), (0, x2)] [(0, 1)] h) rfl ?_
        simp only [if_pos c2]
      · refine (if_neg c2).trans ?_
        refine (rn_iload_n (pc := 18) (dd bX3_widthAt dX3_widthAt_18) rfl).trans ?_
        refine (rn_bipush (pc := 19) (dd bX3_widthAt dX3_widthAt_19) (by decide)).trans ?_
        have e1 : vrun mX3_widthAt 21 [(1, x0), (0, x1), (0, x2)] [(0, 90), (0, x1)] h = vrun mX3_widthAt 29 [(1, x0), (0, x1), (0, x2)] [(0, (if 90 < x1 then 1 else 2))] h := by
          refine (rn_icmp_gt (t := 28) (pc := 21) (dd bX3_widthAt dX3_widthAt_21) rfl).trans ?_
          by_cases c3 : 90 < x1
          · refine (if_pos c3).trans ?_
            refine (rn_iconst (pc := 28) (dd bX3_widthAt dX3_widthAt_28) (by decide)).trans ?_
            refine Eq.trans (b := vrun mX3_widthAt 29 [(1, x0), (0, x1), (0, x2)] [(0, 1)] h) rfl ?_
            simp only [if_pos c3]
          · refine (if_neg c3).trans ?_
            refine (rn_iconst (pc := 24) (dd bX3_widthAt dX3_widthAt_24) (by decide)).trans ?_
            refine (rn_goto (t := 29) (pc := 25) (dd bX3_widthAt dX3_widthAt_25) rfl).trans ?_
            refine Eq.trans (b := vrun mX3_widthAt 29 [(1, x0), (0, x1), (0, x2)] [(0, 2)] h) rfl ?_
            simp only [if_neg c3]
        refine e1.trans ?_
        refine Eq.trans (b := vrun mX3_widthAt 29 [(1, x0), (0, x1), (0, x2)] [(0, (if 90 < x1 then 1 else 2))] h) rfl ?_
        simp only [if_neg c2]
    refine e2.trans ?_
    exact rn_ireturn (pc := 29) (dd bX3_widthAt dX3_widthAt_29) (Or.inl rfl)
def fX3_widthAt (h : vH) (x0 : Int) (x1 : Int) (x2 : Int) : Int := (if x1 = 9 then 4 - x2 % 4 else (if x1 < 65 then 1 else (if 90 < x1 then 1 else 2)))
theorem spX3_widthAt {x0 : Int} {x1 : Int} {x2 : Int} {h : vH} (p1 : x1 = 9 → 0 ≤ x2) : vcl mX3_widthAt [(1, x0), (0, x1), (0, x2)] h = some (.inl (some (0, fX3_widthAt h x0 x1 x2)), h) := by
  refine (show _ = _ from rX3_widthAt_0 p1).trans ?_
  simp only [ret_ite]
  rfl
theorem bX3_layRow : vmB mX3_layRow = cX3_layRow := rfl
theorem rX3_layRow_0 {x0 : Int} {x1 : Int} {x2 : Int} {x3 : Int} {h : vH} : vrun mX3_layRow 0 [(1, x0), (0, x1), (0, x2), (0, x3), (9, 0), (9, 0), (9, 0)] [] h = vrun mX3_layRow 10 [(1, x0), (0, x1), (0, x2), (0, x3), (0, x2), (0, max x1 0), (9, 0)] [] h := by
  refine (rn_iload_n (pc := 0) (dd bX3_layRow dX3_layRow_0) rfl).trans ?_
  refine (rn_istore (pc := 1) (dd bX3_layRow dX3_layRow_1) (Nat.le_of_ble_eq_true rfl) rfl).trans ?_
  refine (rn_iload_n (pc := 3) (dd bX3_layRow dX3_layRow_3) rfl).trans ?_
  refine (rn_iconst (pc := 4) (dd bX3_layRow dX3_layRow_4) (by decide)).trans ?_
  refine (rg_max (pc := 5) (dd bX3_layRow dX3_layRow_5) rfl ⟨Nat.le_of_ble_eq_true rfl, Nat.le_of_ble_eq_true rfl, Nat.le_of_ble_eq_true rfl⟩).trans ?_
  refine (rn_istore (pc := 8) (dd bX3_layRow dX3_layRow_8) (Nat.le_of_ble_eq_true rfl) rfl).trans ?_
  rfl
theorem rX3_layRow_10 {x0 : Int} {x1 : Int} {x2 : Int} {x3 : Int} {x4 : Int} {x5 : Int} {h : vH} (s1 : shLayout h x0) (p2 : ¬ (h 509 x0 0 ≤ x5) → ¬ (131 ≤ x5) → 0 ≤ x5) (p3 : ¬ (h 509 x0 0 ≤ x5) → ¬ (131 ≤ x5) → h 2 (x0 + 1) x5 = 9 → 0 ≤ x4) (p4 : ¬ (h 509 x0 0 ≤ x5) → ¬ (131 ≤ x5) → (-2147483648) ≤ x4 + fX3_widthAt h x0 (h 2 (x0 + 1) x5) x4) (p5 : ¬ (h 509 x0 0 ≤ x5) → ¬ (131 ≤ x5) → x4 + fX3_widthAt h x0 (h 2 (x0 + 1) x5) x4 < 2147483648) (p6 : ¬ (h 509 x0 0 ≤ x5) → ¬ (131 ≤ x5) → ¬ (x3 < x4 + fX3_widthAt h x0 (h 2 (x0 + 1) x5) x4) → (-2147483648) ≤ x4 + (vup h 2 (x0 + 5) x5 (fX3_widthAt h x0 (h 2 (x0 + 1) x5) x4)) 2 (x0 + 5) x5) (p7 : ¬ (h 509 x0 0 ≤ x5) → ¬ (131 ≤ x5) → ¬ (x3 < x4 + fX3_widthAt h x0 (h 2 (x0 + 1) x5) x4) → x4 + (vup h 2 (x0 + 5) x5 (fX3_widthAt h x0 (h 2 (x0 + 1) x5) x4)) 2 (x0 + 5) x5 < 2147483648) : vrun mX3_layRow 10 [(1, x0), (0, x1), (0, x2), (0, x3), (0, x4), (0, x5), (9, 0)] [] h = if h 509 x0 0 ≤ x5 then vrun mX3_layRow 85 [(1, x0), (0, x1), (0, x2), (0, x3), (0, x4), (0, x5), (9, 0)] [] h else if 131 ≤ x5 then vrun mX3_layRow 85 [(1, x0), (0, x1), (0, x2), (0, x3), (0, x4), (0, x5), (9, 0)] [] h else if x3 < x4 + fX3_widthAt h x0 (h 2 (x0 + 1) x5) x4 then vrun mX3_layRow 85 [(1, x0), (0, x1), (0, x2), (0, x3), (0, x4), (0, x5), (9, 0)] [] h else vrun mX3_layRow 10 [(1, x0), (0, x1), (0, x2), (0, x3), (0, x4 + (vup h 2 (x0 + 5) x5 (fX3_widthAt h x0 (h 2 (x0 + 1) x5) x4)) 2 (x0 + 5) x5), (0, x5 + 1), (9, 0)] [] (vup h 2 (x0 + 5) x5 (fX3_widthAt h x0 (h 2 (x0 + 1) x5) x4)) := by
  refine (rn_iload (pc := 10) (dd bX3_layRow dX3_layRow_10) rfl).trans ?_
  refine (rn_aload_n (pc := 12) (dd bX3_layRow dX3_layRow_12) rfl).trans ?_
  refine (rg_gf (pc := 13) (dd bX3_layRow dX3_layRow_13) (ci := 4) (j := 9) rfl rfl (key := 509) rfl (kc := 24) rfl s1.1 rfl).trans ?_
  refine (rn_icmp_ge (t := 85) (pc := 16) (dd bX3_layRow dX3_layRow_16) rfl).trans (itec (fun c1 => ?_) (fun c1 => ?_))
  · rfl
  · refine (rn_iload (pc := 19) (dd bX3_layRow dX3_layRow_19) rfl).trans ?_
    refine (rn_sipush (pc := 21) (dd bX3_layRow dX3_layRow_21) (by decide)).trans ?_
    refine (rn_icmp_ge (t := 85) (pc := 24) (dd bX3_layRow dX3_layRow_24) rfl).trans (itec (fun c2 => ?_) (fun c2 => ?_))
    · rfl
    · refine (rn_iload (pc := 27) (dd bX3_layRow dX3_layRow_27) rfl).trans ?_
      refine (rn_aload_n (pc := 29) (dd bX3_layRow dX3_layRow_29) rfl).trans ?_
      refine (rn_aload_n (pc := 30) (dd bX3_layRow dX3_layRow_30) rfl).trans ?_
      refine (rg_gf (pc := 31) (dd bX3_layRow dX3_layRow_31) (ci := 4) (j := 0) rfl rfl (key := 500) rfl (kc := 24) rfl s1.1 s1.2.1).trans ?_
      refine (rn_iload (pc := 34) (dd bX3_layRow dX3_layRow_34) rfl).trans ?_
      refine (rg_iaload (pc := 36) (dd bX3_layRow dX3_layRow_36) s1.2.2.1 s1.2.2.2.1 (p2 c1 c2) (Int.not_le.mp c2) rfl).trans ?_
      refine (rn_iload (pc := 37) (dd bX3_layRow dX3_layRow_37) rfl).trans ?_
      refine (rg_virtual (pc := 39) (dd bX3_layRow dX3_layRow_39) rfl rfl (by decide) (kc := 24) rfl s1.1 (as := [(1, x0), (0, h 2 (x0 + 1) x5), (0, x4)]) rfl ⟨Nat.le_of_ble_eq_true rfl, Nat.le_of_ble_eq_true rfl, Nat.le_of_ble_eq_true rfl, Nat.le_of_ble_eq_true rfl⟩).trans ?_
      refine (vret_v (spX3_widthAt (p3 c1 c2))).trans ?_
      refine (rg_iadd (pc := 42) (dd bX3_layRow dX3_layRow_42) (p4 c1 c2) (p5 c1 c2)).trans ?_
      refine (rn_iload_n (pc := 43) (dd bX3_layRow dX3_layRow_43) rfl).trans ?_
      refine (rn_icmp_gt (t := 85) (pc := 44) (dd bX3_layRow dX3_layRow_44) rfl).trans (itec (fun c3 => ?_) (fun c3 => ?_))
      · rfl
      · refine (rn_aload_n (pc := 47) (dd bX3_layRow dX3_layRow_47) rfl).trans ?_
        refine (rg_gf (pc := 48) (dd bX3_layRow dX3_layRow_48) (ci := 4) (j := 4) rfl rfl (key := 504) rfl (kc := 24) rfl s1.1 s1.2.2.2.2.2.2.2.2.2.2.2.2.2.1).trans ?_
        refine (rn_iload (pc := 51) (dd bX3_layRow dX3_layRow_51) rfl).trans ?_
        refine (rn_aload_n (pc := 53) (dd bX3_layRow dX3_layRow_53) rfl).trans ?_
        refine (rn_aload_n (pc := 54) (dd bX3_layRow dX3_layRow_54) rfl).trans ?_
        refine (rg_gf (pc := 55) (dd bX3_layRow dX3_layRow_55) (ci := 4) (j := 0) rfl rfl (key := 500) rfl (kc := 24) rfl s1.1 s1.2.1).trans ?_
        refine (rn_iload (pc := 58) (dd bX3_layRow dX3_layRow_58) rfl).trans ?_
        refine (rg_iaload (pc := 60) (dd bX3_layRow dX3_layRow_60) s1.2.2.1 s1.2.2.2.1 (by have z0 := p2 c1 c2; omega) (Int.not_le.mp c2) rfl).trans ?_
        refine (rn_iload (pc := 61) (dd bX3_layRow dX3_layRow_61) rfl).trans ?_
        refine (rg_virtual (pc := 63) (dd bX3_layRow dX3_layRow_63) rfl rfl (by decide) (kc := 24) rfl s1.1 (as := [(1, x0), (0, h 2 (x0 + 1) x5), (0, x4)]) rfl ⟨Nat.le_of_ble_eq_true rfl, Nat.le_of_ble_eq_true rfl, Nat.le_of_ble_eq_true rfl, Nat.le_of_ble_eq_true rfl⟩).trans ?_
        refine (vret_v (spX3_widthAt (p3 c1 c2))).trans ?_
        refine (rg_iastore (pc := 66) (dd bX3_layRow dX3_layRow_66) s1.2.2.2.2.2.2.2.2.2.2.2.2.2.2.1 s1.2.2.2.2.2.2.2.2.2.2.2.2.2.2.2.1 (by have z0 := p2 c1 c2; omega) (Int.not_le.mp c2)).trans ?_
        refine (rn_iload (pc := 67) (dd bX3_layRow dX3_layRow_67) rfl).trans ?_
        refine (rn_aload_n (pc := 69) (dd bX3_layRow dX3_layRow_69) rfl).trans ?_
        refine (rg_gf (pc := 70) (dd bX3_layRow dX3_layRow_70) (ci := 4) (j := 4) rfl rfl (key := 504) rfl (kc := 24) rfl ((vup_k (by decide)).trans s1.1) ((vup_k (by decide)).trans s1.2.2.2.2.2.2.2.2.2.2.2.2.2.1)).trans ?_
        refine (rn_iload (pc := 73) (dd bX3_layRow dX3_layRow_73) rfl).trans ?_
        refine (rg_iaload (pc := 75) (dd bX3_layRow dX3_layRow_75) ((vup_k (by decide)).trans s1.2.2.2.2.2.2.2.2.2.2.2.2.2.2.1) ((vup_k (by decide)).trans s1.2.2.2.2.2.2.2.2.2.2.2.2.2.2.2.1) (by have z0 := p2 c1 c2; omega) (Int.not_le.mp c2) rfl).trans ?_
        refine (rg_iadd (pc := 76) (dd bX3_layRow dX3_layRow_76) (p6 c1 c2 c3) (p7 c1 c2 c3)).trans ?_
        refine (rn_istore (pc := 77) (dd bX3_layRow dX3_layRow_77) (Nat.le_of_ble_eq_true rfl) rfl).trans ?_
        refine (rg_iinc (pc := 79) (dd bX3_layRow dX3_layRow_79) rfl (Nat.le_of_ble_eq_true rfl) (by have z0 := p2 c1 c2; omega) (by have z0 := p2 c1 c2; omega) rfl).trans ?_
        refine (rn_goto (t := 10) (pc := 82) (dd bX3_layRow dX3_layRow_82) rfl).trans ?_
        rfl
theorem rX3_layRow_85 {x0 : Int} {x1 : Int} {x2 : Int} {x3 : Int} {x4 : Int} {x5 : Int} {h : vH} (s1 : shLayout h x0) (p2 : ¬ (h 509 x0 0 ≤ x5) → ¬ (131 ≤ x5) → 0 ≤ x5) : vrun mX3_layRow 85 [(1, x0), (0, x1), (0, x2), (0, x3), (0, x4), (0, x5), (9, 0)] [] h = if h 509 x0 0 ≤ x5 then if x5 < h 509 x0 0 then vrun mX3_layRow 145 [(1, x0), (0, x1), (0, x2), (0, x3), (0, x4), (0, x5), (0, x5)] [] h else some (.inl (some (0, x5)), h) else if 131 ≤ x5 then if x5 < h 509 x0 0 then vrun mX3_layRow 145 [(1, x0), (0, x1), (0, x2), (0, x3), (0, x4), (0, x5), (0, x5)] [] h else some (.inl (some (0, x5)), h) else if h 2 (x0 + 1) x5 = 32 ∨ h 2 (x0 + 1) x5 = 9 then vrun mX3_layRow 85 [(1, x0), (0, x1), (0, x2), (0, x3), (0, x4), (0, x5 + 1), (9, 0)] [] (vup h 2 (x0 + 5) x5 0) else if x5 < h 509 x0 0 then vrun mX3_layRow 145 [(1, x0), (0, x1), (0, x2), (0, x3), (0, x4), (0, x5), (0, x5)] [] h else some (.inl (some (0, x5)), h) := by
  refine (rn_iload (pc := 85) (dd bX3_layRow dX3_layRow_85) rfl).trans ?_
  refine (rn_aload_n (pc := 87) (dd bX3_layRow dX3_layRow_87) rfl).trans ?_
  refine (rg_gf (pc := 88) (dd bX3_layRow dX3_layRow_88) (ci := 4) (j := 9) rfl rfl (key := 509) rfl (kc := 24) rfl s1.1 rfl).trans ?_
  refine (rn_icmp_ge (t := 129) (pc := 91) (dd bX3_layRow dX3_layRow_91) rfl).trans (itec (fun c1 => ?_) (fun c1 => ?_))
  · refine (rn_iload (pc := 129) (dd bX3_layRow dX3_layRow_129) rfl).trans ?_
    refine (rn_aload_n (pc := 131) (dd bX3_layRow dX3_layRow_131) rfl).trans ?_
    refine (rg_gf (pc := 132) (dd bX3_layRow dX3_layRow_132) (ci := 4) (j := 9) rfl rfl (key := 509) rfl (kc := 24) rfl s1.1 rfl).trans ?_
    refine (rn_icmp_lt (t := 141) (pc := 135) (dd bX3_layRow dX3_layRow_135) rfl).trans (itec (fun c2 => ?_) (fun c2 => ?_))
    · refine (rn_iload (pc := 141) (dd bX3_layRow dX3_layRow_141) rfl).trans ?_
      refine (rn_istore (pc := 143) (dd bX3_layRow dX3_layRow_143) (Nat.le_of_ble_eq_true rfl) rfl).trans ?_
      rfl
    · refine (rn_iload (pc := 138) (dd bX3_layRow dX3_layRow_138) rfl).trans ?_
      exact rn_ireturn (pc := 140) (dd bX3_layRow dX3_layRow_140) (Or.inl rfl)
  · refine (rn_iload (pc := 94) (dd bX3_layRow dX3_layRow_94) rfl).trans ?_
    refine (rn_sipush (pc := 96) (dd bX3_layRow dX3_layRow_96) (by decide)).trans ?_
    refine (rn_icmp_ge (t := 129) (pc := 99) (dd bX3_layRow dX3_layRow_99) rfl).trans (itec (fun c3 => ?_) (fun c3 => ?_))
    · refine (rn_iload (pc := 129) (dd bX3_layRow dX3_layRow_129) rfl).trans ?_
      refine (rn_aload_n (pc := 131) (dd bX3_layRow dX3_layRow_131) rfl).trans ?_
      refine (rg_gf (pc := 132) (dd bX3_layRow dX3_layRow_132) (ci := 4) (j := 9) rfl rfl (key := 509) rfl (kc := 24) rfl s1.1 rfl).trans ?_
      refine (rn_icmp_lt (t := 141) (pc := 135) (dd bX3_layRow dX3_layRow_135) rfl).trans (itec (fun c4 => ?_) (fun c4 => ?_))
      · refine (rn_iload (pc := 141) (dd bX3_layRow dX3_layRow_141) rfl).trans ?_
        refine (rn_istore (pc := 143) (dd bX3_layRow dX3_layRow_143) (Nat.le_of_ble_eq_true rfl) rfl).trans ?_
        rfl
      · refine (rn_iload (pc := 138) (dd bX3_layRow dX3_layRow_138) rfl).trans ?_
        exact rn_ireturn (pc := 140) (dd bX3_layRow dX3_layRow_140) (Or.inl rfl)
    · refine (rn_aload_n (pc := 102) (dd bX3_layRow dX3_layRow_102) rfl).trans ?_
      refine (rg_gf (pc := 103) (dd bX3_layRow dX3_layRow_103) (ci := 4) (j := 0) rfl rfl (key := 500) rfl (kc := 24) rfl s1.1 s1.2.1).trans ?_
      refine (rn_iload (pc := 106) (dd bX3_layRow dX3_layRow_106) rfl).trans ?_
      refine (rg_iaload (pc := 108) (dd bX3_layRow dX3_layRow_108) s1.2.2.1 s1.2.2.2.1 (p2 c1 c3) (Int.not_le.mp c3) rfl).trans ?_
      refine (rg_static (pc := 109) (dd bX3_layRow dX3_layRow_109) rfl (by decide) (Nat.le_of_ble_eq_true rfl) (as := [(0, h 2 (x0 + 1) x5)]) rfl rfl ⟨Nat.le_of_ble_eq_true rfl, Nat.le_of_ble_eq_true rfl, Nat.le_of_ble_eq_true rfl, Nat.le_of_ble_eq_true rfl⟩).trans ?_
      refine (vret_v spX12_isBlank).trans ?_
      refine (rg_beq (t := 129) (pc := 112) (dd bX3_layRow dX3_layRow_112) rfl).trans (itec (fun c5 => ?_) (fun c5 => ?_))
      · refine (rn_aload_n (pc := 115) (dd bX3_layRow dX3_layRow_115) rfl).trans ?_
        refine (rg_gf (pc := 116) (dd bX3_layRow dX3_layRow_116) (ci := 4) (j := 4) rfl rfl (key := 504) rfl (kc := 24) rfl s1.1 s1.2.2.2.2.2.2.2.2.2.2.2.2.2.1).trans ?_
        refine (rn_iload (pc := 119) (dd bX3_layRow dX3_layRow_119) rfl).trans ?_
        refine (rn_iconst (pc := 121) (dd bX3_layRow dX3_layRow_121) (by decide)).trans ?_
        refine (rg_iastore (pc := 122) (dd bX3_layRow dX3_layRow_122) s1.2.2.2.2.2.2.2.2.2.2.2.2.2.2.1 s1.2.2.2.2.2.2.2.2.2.2.2.2.2.2.2.1 (by have z0 := p2 c1 c3; omega) (Int.not_le.mp c3)).trans ?_
        refine (rg_iinc (pc := 123) (dd bX3_layRow dX3_layRow_123) rfl (Nat.le_of_ble_eq_true rfl) (by have z0 := p2 c1 c3; omega) (by have z0 := p2 c1 c3; omega) rfl).trans ?_
        refine (rn_goto (t := 85) (pc := 126) (dd bX3_layRow dX3_layRow_126) rfl).trans ?_
        rfl
      · refine (rn_iload (pc := 129) (dd bX3_layRow dX3_layRow_129) rfl).trans ?_
        refine (rn_aload_n (pc := 131) (dd bX3_layRow dX3_layRow_131) rfl).trans ?_
        refine (rg_gf (pc := 132) (dd bX3_layRow dX3_layRow_132) (ci := 4) (j := 9) rfl rfl (key := 509) rfl (kc := 24) rfl s1.1 rfl).trans ?_
        refine (rn_icmp_lt (t := 141) (pc := 135) (dd bX3_layRow dX3_layRow_135) rfl).trans (itec (fun c6 => ?_) (fun c6 => ?_))
        · refine (rn_iload (pc := 141) (dd bX3_layRow dX3_layRow_141) rfl).trans ?_
          refine (rn_istore (pc := 143) (dd bX3_layRow dX3_layRow_143) (Nat.le_of_ble_eq_true rfl) rfl).trans ?_
          rfl
        · refine (rn_iload (pc := 138) (dd bX3_layRow dX3_layRow_138) rfl).trans ?_
          exact rn_ireturn (pc := 140) (dd bX3_layRow dX3_layRow_140) (Or.inl rfl)
theorem rX3_layRow_145 {x0 : Int} {x1 : Int} {x2 : Int} {x3 : Int} {x4 : Int} {x5 : Int} {x6 : Int} {h : vH} (s1 : shLayout h x0) (p2 : ¬ (x6 ≤ x1) → ¬ (x6 ≤ 0) → x6 - 1 < 2147483648) (p3 : ¬ (x6 ≤ x1) → ¬ (x6 ≤ 0) → x6 - 1 < 131) (p4 : ¬ (x6 ≤ x1) → ¬ (x6 ≤ 0) → ¬ (h 2 (x0 + 1) (x6 - 1) = 32 ∨ h 2 (x0 + 1) (x6 - 1) = 9) → x6 + (-1) < 2147483648) : vrun mX3_layRow 145 [(1, x0), (0, x1), (0, x2), (0, x3), (0, x4), (0, x5), (0, x6)] [] h = if x6 ≤ x1 then some (.inl (some (0, (if x6 ≤ x1 then x5 else x6))), h) else if x6 ≤ 0 then some (.inl (some (0, (if x6 ≤ x1 then x5 else x6))), h) else if h 2 (x0 + 1) (x6 - 1) = 32 ∨ h 2 (x0 + 1) (x6 - 1) = 9 then some (.inl (some (0, (if x6 ≤ x1 then x5 else x6))), h) else vrun mX3_layRow 145 [(1, x0), (0, x1), (0, x2), (0, x3), (0, x4), (0, x5), (0, x6 + (-1))] [] h := by
  refine (rn_iload (pc := 145) (dd bX3_layRow dX3_layRow_145) rfl).trans ?_
  refine (rn_iload_n (pc := 147) (dd bX3_layRow dX3_layRow_147) rfl).trans ?_
  refine (rn_icmp_le (t := 177) (pc := 148) (dd bX3_layRow dX3_layRow_148) rfl).trans (itec (fun c1 => ?_) (fun c1 => ?_))
  · refine (rn_iload (pc := 177) (dd bX3_layRow dX3_layRow_177) rfl).trans ?_
    refine (rn_iload_n (pc := 179) (dd bX3_layRow dX3_layRow_179) rfl).trans ?_
    have e1 : vrun mX3_layRow 180 [(1, x0), (0, x1), (0, x2), (0, x3), (0, x4), (0, x5), (0, x6)] [(0, x1), (0, x6)] h = vrun mX3_layRow 190 [(1, x0), (0, x1), (0, x2), (0, x3), (0, x4), (0, x5), (0, x6)] [(0, (if x6 ≤ x1 then x5 else x6))] h := by
      refine (rn_icmp_le (t := 188) (pc := 180) (dd bX3_layRow dX3_layRow_180) rfl).trans ?_
      by_cases c2 : x6 ≤ x1
      · refine (if_pos c2).trans ?_
        refine (rn_iload (pc := 188) (dd bX3_layRow dX3_layRow_188) rfl).trans ?_
        refine Eq.trans (b := vrun mX3_layRow 190 [(1, x0), (0, x1), (0, x2), (0, x3), (0, x4), (0, x5), (0, x6)] [(0, x5)] h) rfl ?_
        simp only [if_pos c2]
      · refine (if_neg c2).trans ?_
        refine (rn_iload (pc := 183) (dd bX3_layRow dX3_layRow_183) rfl).trans ?_
        refine (rn_goto (t := 190) (pc := 185) (dd bX3_layRow dX3_layRow_185) rfl).trans ?_
        refine Eq.trans (b := vrun mX3_layRow 190 [(1, x0), (0, x1), (0, x2), (0, x3), (0, x4), (0, x5), (0, x6)] [(0, x6)] h) rfl ?_
        simp only [if_neg c2]
    refine e1.trans ?_
    exact rn_ireturn (pc := 190) (dd bX3_layRow dX3_layRow_190) (Or.inl rfl)
  · refine (rn_iload (pc := 151) (dd bX3_layRow dX3_layRow_151) rfl).trans ?_
    refine (rn_if_le (t := 177) (pc := 153) (dd bX3_layRow dX3_layRow_153) rfl).trans (itec (fun c3 => ?_) (fun c3 => ?_))
    · refine (rn_iload (pc := 177) (dd bX3_layRow dX3_layRow_177) rfl).trans ?_
      refine (rn_iload_n (pc := 179) (dd bX3_layRow dX3_layRow_179) rfl).trans ?_
      have e2 : vrun mX3_layRow 180 [(1, x0), (0, x1), (0, x2), (0, x3), (0, x4), (0, x5), (0, x6)] [(0, x1), (0, x6)] h = vrun mX3_layRow 190 [(1, x0), (0, x1), (0, x2), (0, x3), (0, x4), (0, x5), (0, x6)] [(0, (if x6 ≤ x1 then x5 else x6))] h := by
        refine (rn_icmp_le (t := 188) (pc := 180) (dd bX3_layRow dX3_layRow_180) rfl).trans ?_
        by_cases c4 : x6 ≤ x1
        · refine (if_pos c4).trans ?_
          refine (rn_iload (pc := 188) (dd bX3_layRow dX3_layRow_188) rfl).trans ?_
          refine Eq.trans (b := vrun mX3_layRow 190 [(1, x0), (0, x1), (0, x2), (0, x3), (0, x4), (0, x5), (0, x6)] [(0, x5)] h) rfl ?_
          simp only [if_pos c4]
        · refine (if_neg c4).trans ?_
          refine (rn_iload (pc := 183) (dd bX3_layRow dX3_layRow_183) rfl).trans ?_
          refine (rn_goto (t := 190) (pc := 185) (dd bX3_layRow dX3_layRow_185) rfl).trans ?_
          refine Eq.trans (b := vrun mX3_layRow 190 [(1, x0), (0, x1), (0, x2), (0, x3), (0, x4), (0, x5), (0, x6)] [(0, x6)] h) rfl ?_
          simp only [if_neg c4]
      refine e2.trans ?_
      exact rn_ireturn (pc := 190) (dd bX3_layRow dX3_layRow_190) (Or.inl rfl)
    · refine (rn_aload_n (pc := 156) (dd bX3_layRow dX3_layRow_156) rfl).trans ?_
      refine (rg_gf (pc := 157) (dd bX3_layRow dX3_layRow_157) (ci := 4) (j := 0) rfl rfl (key := 500) rfl (kc := 24) rfl s1.1 s1.2.1).trans ?_
      refine (rn_iload (pc := 160) (dd bX3_layRow dX3_layRow_160) rfl).trans ?_
      refine (rn_iconst (pc := 162) (dd bX3_layRow dX3_layRow_162) (by decide)).trans ?_
      refine (rg_isub (pc := 163) (dd bX3_layRow dX3_layRow_163) (by omega) (p2 c1 c3)).trans ?_
      refine (rg_iaload (pc := 164) (dd bX3_layRow dX3_layRow_164) s1.2.2.1 s1.2.2.2.1 (by have z0 := p2 c1 c3; omega) (p3 c1 c3) rfl).trans ?_
      refine (rg_static (pc := 165) (dd bX3_layRow dX3_layRow_165) rfl (by decide) (Nat.le_of_ble_eq_true rfl) (as := [(0, h 2 (x0 + 1) (x6 - 1))]) rfl rfl ⟨Nat.le_of_ble_eq_true rfl, Nat.le_of_ble_eq_true rfl, Nat.le_of_ble_eq_true rfl, Nat.le_of_ble_eq_true rfl⟩).trans ?_
      refine (vret_v spX12_isBlank).trans ?_
      refine (rg_bne (t := 177) (pc := 168) (dd bX3_layRow dX3_layRow_168) rfl).trans (itec (fun c5 => ?_) (fun c5 => ?_))
      · refine (rn_iload (pc := 177) (dd bX3_layRow dX3_layRow_177) rfl).trans ?_
        refine (rn_iload_n (pc := 179) (dd bX3_layRow dX3_layRow_179) rfl).trans ?_
        have e3 : vrun mX3_layRow 180 [(1, x0), (0, x1), (0, x2), (0, x3), (0, x4), (0, x5), (0, x6)] [(0, x1), (0, x6)] h = vrun mX3_layRow 190 [(1, x0), (0, x1), (0, x2), (0, x3), (0, x4), (0, x5), (0, x6)] [(0, (if x6 ≤ x1 then x5 else x6))] h := by
          refine (rn_icmp_le (t := 188) (pc := 180) (dd bX3_layRow dX3_layRow_180) rfl).trans ?_
          by_cases c6 : x6 ≤ x1
          · refine (if_pos c6).trans ?_
            refine (rn_iload (pc := 188) (dd bX3_layRow dX3_layRow_188) rfl).trans ?_
            refine Eq.trans (b := vrun mX3_layRow 190 [(1, x0), (0, x1), (0, x2), (0, x3), (0, x4), (0, x5), (0, x6)] [(0, x5)] h) rfl ?_
            simp only [if_pos c6]
          · refine (if_neg c6).trans ?_
            refine (rn_iload (pc := 183) (dd bX3_layRow dX3_layRow_183) rfl).trans ?_
            refine (rn_goto (t := 190) (pc := 185) (dd bX3_layRow dX3_layRow_185) rfl).trans ?_
            refine Eq.trans (b := vrun mX3_layRow 190 [(1, x0), (0, x1), (0, x2), (0, x3), (0, x4), (0, x5), (0, x6)] [(0, x6)] h) rfl ?_
            simp only [if_neg c6]
        refine e3.trans ?_
        exact rn_ireturn (pc := 190) (dd bX3_layRow dX3_layRow_190) (Or.inl rfl)
      · refine (rg_iinc (pc := 171) (dd bX3_layRow dX3_layRow_171) rfl (Nat.le_of_ble_eq_true rfl) (by omega) (p4 c1 c3 c5) rfl).trans ?_
        refine (rn_goto (t := 145) (pc := 174) (dd bX3_layRow dX3_layRow_174) rfl).trans ?_
        rfl
theorem bX3_wrap : vmB mX3_wrap = cX3_wrap := rfl
theorem rX3_wrap_0 {x0 : Int} {x1 : Int} {x2 : Int} {h : vH} (s1 : shLayout h x0) : vrun mX3_wrap 0 [(1, x0), (0, x1), (0, x2), (9, 0)] [] h = vrun mX3_wrap 12 [(1, x0), (0, x1), (0, x2), (0, 0)] [] (vup (vup h 513 x0 0 x2) 510 x0 0 0) := by
  refine (rn_aload_n (pc := 0) (dd bX3_wrap dX3_wrap_0) rfl).trans ?_
  refine (rn_iload_n (pc := 1) (dd bX3_wrap dX3_wrap_1) rfl).trans ?_
  refine (rg_pf (pc := 2) (dd bX3_wrap dX3_wrap_2) (ci := 4) (j := 13) rfl (key := 513) rfl (kc := 24) rfl s1.1 rfl (by intro z; cases z) (by decide)).trans ?_
  refine (rn_aload_n (pc := 5) (dd bX3_wrap dX3_wrap_5) rfl).trans ?_
  refine (rn_iconst (pc := 6) (dd bX3_wrap dX3_wrap_6) (by decide)).trans ?_
  refine (rg_pf (pc := 7) (dd bX3_wrap dX3_wrap_7) (ci := 4) (j := 10) rfl (key := 510) rfl (kc := 24) rfl ((vup_k (by decide)).trans s1.1) rfl (by intro z; cases z) (by decide)).trans ?_
  refine (rn_iconst (pc := 10) (dd bX3_wrap dX3_wrap_10) (by decide)).trans ?_
  refine (rn_istore_n (pc := 11) (dd bX3_wrap dX3_wrap_11) (Nat.le_of_ble_eq_true rfl) rfl).trans ?_
  rfl
theorem rX3_wrap_12 {x0 : Int} {x1 : Int} {x2 : Int} {x3 : Int} {h : vH} (s1 : shLayout h x0) (p2 : ¬ (131 ≤ h 510 x0 0) → ¬ (h 510 x0 0 = 0) → ¬ (h 509 x0 0 ≤ x3) → 0 ≤ h 510 x0 0) : vrun mX3_wrap 12 [(1, x0), (0, x1), (0, x2), (0, x3)] [] h = if 131 ≤ h 510 x0 0 then some (.inl none, h) else if h 510 x0 0 = 0 then vret vrun mX3_wrap 58 [(1, x0), (0, x1), (0, x2), (0, x3)] [] (vcl mX3_layRow [(1, x0), (0, x3), (0, (if h 510 x0 0 = 0 then 0 else (vup h 2 (x0 + 9) (h 510 x0 0) x3) 513 x0 0)), (0, x1)] (vup h 2 (x0 + 9) (h 510 x0 0) x3)) else if h 509 x0 0 ≤ x3 then some (.inl none, h) else vret vrun mX3_wrap 58 [(1, x0), (0, x1), (0, x2), (0, x3)] [] (vcl mX3_layRow [(1, x0), (0, x3), (0, (if h 510 x0 0 = 0 then 0 else (vup h 2 (x0 + 9) (h 510 x0 0) x3) 513 x0 0)), (0, x1)] (vup h 2 (x0 + 9) (h 510 x0 0) x3)) := by
  refine (rn_aload_n (pc := 12) (dd bX3_wrap dX3_wrap_12) rfl).trans ?_
  refine (rg_gf (pc := 13) (dd bX3_wrap dX3_wrap_13) (ci := 4) (j := 10) rfl rfl (key := 510) rfl (kc := 24) rfl s1.1 rfl).trans ?_
  refine (rn_sipush (pc := 16) (dd bX3_wrap dX3_wrap_16) (by decide)).trans ?_
  refine (rn_icmp_ge (t := 75) (pc := 19) (dd bX3_wrap dX3_wrap_19) rfl).trans (itec (fun c1 => ?_) (fun c1 => ?_))
  · exact rn_return (pc := 75) (dd bX3_wrap dX3_wrap_75) rfl
  · refine (rn_aload_n (pc := 22) (dd bX3_wrap dX3_wrap_22) rfl).trans ?_
    refine (rg_gf (pc := 23) (dd bX3_wrap dX3_wrap_23) (ci := 4) (j := 10) rfl rfl (key := 510) rfl (kc := 24) rfl s1.1 rfl).trans ?_
    refine (rn_if_eq (t := 37) (pc := 26) (dd bX3_wrap dX3_wrap_26) rfl).trans (itec (fun c2 => ?_) (fun c2 => ?_))
    · refine (rn_aload_n (pc := 37) (dd bX3_wrap dX3_wrap_37) rfl).trans ?_
      refine (rg_gf (pc := 38) (dd bX3_wrap dX3_wrap_38) (ci := 4) (j := 8) rfl rfl (key := 508) rfl (kc := 24) rfl s1.1 s1.2.2.2.2.2.2.2.2.2.2.2.2.2.2.2.2.2.2.2.2.2.2.2.2.2.1).trans ?_
      refine (rn_aload_n (pc := 41) (dd bX3_wrap dX3_wrap_41) rfl).trans ?_
      refine (rg_gf (pc := 42) (dd bX3_wrap dX3_wrap_42) (ci := 4) (j := 10) rfl rfl (key := 510) rfl (kc := 24) rfl s1.1 rfl).trans ?_
      refine (rn_iload_n (pc := 45) (dd bX3_wrap dX3_wrap_45) rfl).trans ?_
      refine (rg_iastore (pc := 46) (dd bX3_wrap dX3_wrap_46) s1.2.2.2.2.2.2.2.2.2.2.2.2.2.2.2.2.2.2.2.2.2.2.2.2.2.2.1 s1.2.2.2.2.2.2.2.2.2.2.2.2.2.2.2.2.2.2.2.2.2.2.2.2.2.2.2 (by omega) (Int.not_le.mp c1)).trans ?_
      refine (rn_aload_n (pc := 47) (dd bX3_wrap dX3_wrap_47) rfl).trans ?_
      refine (rn_iload_n (pc := 48) (dd bX3_wrap dX3_wrap_48) rfl).trans ?_
      refine (rn_aload_n (pc := 49) (dd bX3_wrap dX3_wrap_49) rfl).trans ?_
      refine (rn_aload_n (pc := 50) (dd bX3_wrap dX3_wrap_50) rfl).trans ?_
      refine (rg_gf (pc := 51) (dd bX3_wrap dX3_wrap_51) (ci := 4) (j := 10) rfl rfl (key := 510) rfl (kc := 24) rfl ((vup_k (by decide)).trans s1.1) ((vup_k (by decide)).trans rfl)).trans ?_
      refine (rg_virtual (pc := 54) (dd bX3_wrap dX3_wrap_54) rfl rfl (by decide) (kc := 24) rfl ((vup_k (by decide)).trans s1.1) (as := [(1, x0), (0, h 510 x0 0)]) rfl ⟨Nat.le_of_ble_eq_true rfl, Nat.le_of_ble_eq_true rfl, Nat.le_of_ble_eq_true rfl, Nat.le_of_ble_eq_true rfl⟩).trans ?_
      refine (vret_v (spX3_firstColumn (shLayout_sx (sx_up (by decide) sx_rf) s1))).trans ?_
      refine (rn_iload_n (pc := 57) (dd bX3_wrap dX3_wrap_57) rfl).trans ?_
      exact rg_virtual (pc := 58) (dd bX3_wrap dX3_wrap_58) rfl rfl (by decide) (kc := 24) rfl ((vup_k (by decide)).trans s1.1) (as := [(1, x0), (0, x3), (0, (if h 510 x0 0 = 0 then 0 else (vup h 2 (x0 + 9) (h 510 x0 0) x3) 513 x0 0)), (0, x1)]) rfl ⟨Nat.le_of_ble_eq_true rfl, Nat.le_of_ble_eq_true rfl, Nat.le_of_ble_eq_true rfl, Nat.le_of_ble_eq_true rfl⟩
    · refine (rn_iload_n (pc := 29) (dd bX3_wrap dX3_wrap_29) rfl).trans ?_
      refine (rn_aload_n (pc := 30) (dd bX3_wrap dX3_wrap_30) rfl).trans ?_
      refine (rg_gf (pc := 31) (dd bX3_wrap dX3_wrap_31) (ci := 4) (j := 9) rfl rfl (key := 509) rfl (kc := 24) rfl s1.1 rfl).trans ?_
      refine (rn_icmp_ge (t := 75) (pc := 34) (dd bX3_wrap dX3_wrap_34) rfl).trans (itec (fun c3 => ?_) (fun c3 => ?_))
      · exact rn_return (pc := 75) (dd bX3_wrap dX3_wrap_75) rfl
      · refine (rn_aload_n (pc := 37) (dd bX3_wrap dX3_wrap_37) rfl).trans ?_
        refine (rg_gf (pc := 38) (dd bX3_wrap dX3_wrap_38) (ci := 4) (j := 8) rfl rfl (key := 508) rfl (kc := 24) rfl s1.1 s1.2.2.2.2.2.2.2.2.2.2.2.2.2.2.2.2.2.2.2.2.2.2.2.2.2.1).trans ?_
        refine (rn_aload_n (pc := 41) (dd bX3_wrap dX3_wrap_41) rfl).trans ?_
        refine (rg_gf (pc := 42) (dd bX3_wrap dX3_wrap_42) (ci := 4) (j := 10) rfl rfl (key := 510) rfl (kc := 24) rfl s1.1 rfl).trans ?_
        refine (rn_iload_n (pc := 45) (dd bX3_wrap dX3_wrap_45) rfl).trans ?_
        refine (rg_iastore (pc := 46) (dd bX3_wrap dX3_wrap_46) s1.2.2.2.2.2.2.2.2.2.2.2.2.2.2.2.2.2.2.2.2.2.2.2.2.2.2.1 s1.2.2.2.2.2.2.2.2.2.2.2.2.2.2.2.2.2.2.2.2.2.2.2.2.2.2.2 (p2 c1 c2 c3) (Int.not_le.mp c1)).trans ?_
        refine (rn_aload_n (pc := 47) (dd bX3_wrap dX3_wrap_47) rfl).trans ?_
        refine (rn_iload_n (pc := 48) (dd bX3_wrap dX3_wrap_48) rfl).trans ?_
        refine (rn_aload_n (pc := 49) (dd bX3_wrap dX3_wrap_49) rfl).trans ?_
        refine (rn_aload_n (pc := 50) (dd bX3_wrap dX3_wrap_50) rfl).trans ?_
        refine (rg_gf (pc := 51) (dd bX3_wrap dX3_wrap_51) (ci := 4) (j := 10) rfl rfl (key := 510) rfl (kc := 24) rfl ((vup_k (by decide)).trans s1.1) ((vup_k (by decide)).trans rfl)).trans ?_
        refine (rg_virtual (pc := 54) (dd bX3_wrap dX3_wrap_54) rfl rfl (by decide) (kc := 24) rfl ((vup_k (by decide)).trans s1.1) (as := [(1, x0), (0, h 510 x0 0)]) rfl ⟨Nat.le_of_ble_eq_true rfl, Nat.le_of_ble_eq_true rfl, Nat.le_of_ble_eq_true rfl, Nat.le_of_ble_eq_true rfl⟩).trans ?_
        refine (vret_v (spX3_firstColumn (shLayout_sx (sx_up (by decide) sx_rf) s1))).trans ?_
        refine (rn_iload_n (pc := 57) (dd bX3_wrap dX3_wrap_57) rfl).trans ?_
        exact rg_virtual (pc := 58) (dd bX3_wrap dX3_wrap_58) rfl rfl (by decide) (kc := 24) rfl ((vup_k (by decide)).trans s1.1) (as := [(1, x0), (0, x3), (0, (if h 510 x0 0 = 0 then 0 else (vup h 2 (x0 + 9) (h 510 x0 0) x3) 513 x0 0)), (0, x1)]) rfl ⟨Nat.le_of_ble_eq_true rfl, Nat.le_of_ble_eq_true rfl, Nat.le_of_ble_eq_true rfl, Nat.le_of_ble_eq_true rfl⟩
theorem rX3_wrap_61 {x0 : Int} {x1 : Int} {x2 : Int} {x3 : Int} {y0 : Int} {h : vH} (s1 : shLayout h x0) (p2 : (-2147483648) ≤ h 510 x0 0 + 1) (p3 : h 510 x0 0 + 1 < 2147483648) : vrun mX3_wrap 61 [(1, x0), (0, x1), (0, x2), (0, x3)] [(0, y0)] h = vrun mX3_wrap 12 [(1, x0), (0, x1), (0, x2), (0, y0)] [] (vup h 510 x0 0 (h 510 x0 0 + 1)) := by
  refine (rn_istore_n (pc := 61) (dd bX3_wrap dX3_wrap_61) (Nat.le_of_ble_eq_true rfl) rfl).trans ?_
  refine (rn_aload_n (pc := 62) (dd bX3_wrap dX3_wrap_62) rfl).trans ?_
  refine (rn_dup (pc := 63) (dd bX3_wrap dX3_wrap_63) (by decide)).trans ?_
  refine (rg_gf (pc := 64) (dd bX3_wrap dX3_wrap_64) (ci := 4) (j := 10) rfl rfl (key := 510) rfl (kc := 24) rfl s1.1 rfl).trans ?_
  refine (rn_iconst (pc := 67) (dd bX3_wrap dX3_wrap_67) (by decide)).trans ?_
  refine (rg_iadd (pc := 68) (dd bX3_wrap dX3_wrap_68) p2 p3).trans ?_
  refine (rg_pf (pc := 69) (dd bX3_wrap dX3_wrap_69) (ci := 4) (j := 10) rfl (key := 510) rfl (kc := 24) rfl s1.1 rfl (by intro z; cases z) (by decide)).trans ?_
  refine (rn_goto (t := 12) (pc := 72) (dd bX3_wrap dX3_wrap_72) rfl).trans ?_
  rfl
theorem bX3_startOf : vmB mX3_startOf = cX3_startOf := rfl
theorem rX3_startOf_0 {x0 : Int} {x1 : Int} {h : vH} (s1 : shLayout h x0) : vrun mX3_startOf 0 [(1, x0), (0, x1)] [] h = some (.inl (some (0, (if x1 < 0 then h 509 x0 0 else (if h 510 x0 0 ≤ x1 then h 509 x0 0 else (if x1 < 131 then h 2 (x0 + 9) x1 else h 509 x0 0))))), h) := by
  refine (rn_iload_n (pc := 0) (dd bX3_startOf dX3_startOf_0) rfl).trans ?_
  have e3 : vrun mX3_startOf 1 [(1, x0), (0, x1)] [(0, x1)] h = vrun mX3_startOf 32 [(1, x0), (0, x1)] [(0, (if x1 < 0 then h 509 x0 0 else (if h 510 x0 0 ≤ x1 then h 509 x0 0 else (if x1 < 131 then h 2 (x0 + 9) x1 else h 509 x0 0))))] h := by
    refine (rn_if_lt (t := 19) (pc := 1) (dd bX3_startOf dX3_startOf_1) rfl).trans ?_
    by_cases c1 : x1 < 0
    · refine (if_pos c1).trans ?_
      refine (rn_aload_n (pc := 19) (dd bX3_startOf dX3_startOf_19) rfl).trans ?_
      refine (rg_gf (pc := 20) (dd bX3_startOf dX3_startOf_20) (ci := 4) (j := 9) rfl rfl (key := 509) rfl (kc := 24) rfl s1.1 rfl).trans ?_
      refine (rn_goto (t := 32) (pc := 23) (dd bX3_startOf dX3_startOf_23) rfl).trans ?_
      refine Eq.trans (b := vrun mX3_startOf 32 [(1, x0), (0, x1)] [(0, h 509 x0 0)] h) rfl ?_
      simp only [if_pos c1]
    · refine (if_neg c1).trans ?_
      refine (rn_iload_n (pc := 4) (dd bX3_startOf dX3_startOf_4) rfl).trans ?_
      refine (rn_aload_n (pc := 5) (dd bX3_startOf dX3_startOf_5) rfl).trans ?_
      refine (rg_gf (pc := 6) (dd bX3_startOf dX3_startOf_6) (ci := 4) (j := 10) rfl rfl (key := 510) rfl (kc := 24) rfl s1.1 rfl).trans ?_
      have e2 : vrun mX3_startOf 9 [(1, x0), (0, x1)] [(0, h 510 x0 0), (0, x1)] h = vrun mX3_startOf 32 [(1, x0), (0, x1)] [(0, (if h 510 x0 0 ≤ x1 then h 509 x0 0 else (if x1 < 131 then h 2 (x0 + 9) x1 else h 509 x0 0)))] h := by
        refine (rn_icmp_ge (t := 19) (pc := 9) (dd bX3_startOf dX3_startOf_9) rfl).trans ?_
        by_cases c2 : h 510 x0 0 ≤ x1
        · refine (if_pos c2).trans ?_
          refine (rn_aload_n (pc := 19) (dd bX3_startOf dX3_startOf_19) rfl).trans ?_
          refine (rg_gf (pc := 20) (dd bX3_startOf dX3_startOf_20) (ci := 4) (j := 9) rfl rfl (key := 509) rfl (kc := 24) rfl s1.1 rfl).trans ?_
          refine (rn_goto (t := 32) (pc := 23) (dd bX3_startOf dX3_startOf_23) rfl).trans ?_
          refine Eq.trans (b := vrun mX3_startOf 32 [(1, x0), (0, x1)] [(0, h 509 x0 0)] h) rfl ?_
          simp only [if_pos c2]
        · refine (if_neg c2).trans ?_
          refine (rn_iload_n (pc := 12) (dd bX3_startOf dX3_startOf_12) rfl).trans ?_
          refine (rn_sipush (pc := 13) (dd bX3_startOf dX3_startOf_13) (by decide)).trans ?_
          have e1 : vrun mX3_startOf 16 [(1, x0), (0, x1)] [(0, 131), (0, x1)] h = vrun mX3_startOf 32 [(1, x0), (0, x1)] [(0, (if x1 < 131 then h 2 (x0 + 9) x1 else h 509 x0 0))] h := by
            refine (rn_icmp_lt (t := 26) (pc := 16) (dd bX3_startOf dX3_startOf_16) rfl).trans ?_
            by_cases c3 : x1 < 131
            · refine (if_pos c3).trans ?_
              refine (rn_aload_n (pc := 26) (dd bX3_startOf dX3_startOf_26) rfl).trans ?_
              refine (rg_gf (pc := 27) (dd bX3_startOf dX3_startOf_27) (ci := 4) (j := 8) rfl rfl (key := 508) rfl (kc := 24) rfl s1.1 s1.2.2.2.2.2.2.2.2.2.2.2.2.2.2.2.2.2.2.2.2.2.2.2.2.2.1).trans ?_
              refine (rn_iload_n (pc := 30) (dd bX3_startOf dX3_startOf_30) rfl).trans ?_
              refine (rg_iaload (pc := 31) (dd bX3_startOf dX3_startOf_31) s1.2.2.2.2.2.2.2.2.2.2.2.2.2.2.2.2.2.2.2.2.2.2.2.2.2.2.1 s1.2.2.2.2.2.2.2.2.2.2.2.2.2.2.2.2.2.2.2.2.2.2.2.2.2.2.2 (Int.not_lt.mp c1) c3 rfl).trans ?_
              refine Eq.trans (b := vrun mX3_startOf 32 [(1, x0), (0, x1)] [(0, h 2 (x0 + 9) x1)] h) rfl ?_
              simp only [if_pos c3]
            · refine (if_neg c3).trans ?_
              refine (rn_aload_n (pc := 19) (dd bX3_startOf dX3_startOf_19) rfl).trans ?_
              refine (rg_gf (pc := 20) (dd bX3_startOf dX3_startOf_20) (ci := 4) (j := 9) rfl rfl (key := 509) rfl (kc := 24) rfl s1.1 rfl).trans ?_
              refine (rn_goto (t := 32) (pc := 23) (dd bX3_startOf dX3_startOf_23) rfl).trans ?_
              refine Eq.trans (b := vrun mX3_startOf 32 [(1, x0), (0, x1)] [(0, h 509 x0 0)] h) rfl ?_
              simp only [if_neg c3]
          refine e1.trans ?_
          refine Eq.trans (b := vrun mX3_startOf 32 [(1, x0), (0, x1)] [(0, (if x1 < 131 then h 2 (x0 + 9) x1 else h 509 x0 0))] h) rfl ?_
          simp only [if_neg c2]
      refine e2.trans ?_
      refine Eq.trans (b := vrun mX3_startOf 32 [(1, x0), (0, x1)] [(0, (if h 510 x0 0 ≤ x1 then h 509 x0 0 else (if x1 < 131 then h 2 (x0 + 9) x1 else h 509 x0 0)))] h) rfl ?_
      simp only [if_neg c1]
  refine e3.trans ?_
  exact rn_ireturn (pc := 32) (dd bX3_startOf dX3_startOf_32) (Or.inl rfl)
def fX3_startOf (h : vH) (x0 : Int) (x1 : Int) : Int := (if x1 < 0 then h 509 x0 0 else (if h 510 x0 0 ≤ x1 then h 509 x0 0 else (if x1 < 131 then h 2 (x0 + 9) x1 else h 509 x0 0)))
theorem spX3_startOf {x0 : Int} {x1 : Int} {h : vH} (s1 : shLayout h x0) : vcl mX3_startOf [(1, x0), (0, x1)] h = some (.inl (some (0, fX3_startOf h x0 x1)), h) := by
  refine (show _ = _ from rX3_startOf_0 s1).trans ?_
  rfl
theorem bX3_cellsIn : vmB mX3_cellsIn = cX3_cellsIn := rfl
theorem rX3_cellsIn_0 {x0 : Int} {x1 : Int} {h : vH} (p1 : (-2147483648) ≤ x1 + 1) (p2 : x1 + 1 < 2147483648) (s3 : shLayout h x0) (p4 : (-2147483648) ≤ fX3_startOf h x0 (x1 + 1) - fX3_startOf h x0 x1) (p5 : fX3_startOf h x0 (x1 + 1) - fX3_startOf h x0 x1 < 2147483648) : vrun mX3_cellsIn 0 [(1, x0), (0, x1)] [] h = some (.inl (some (0, fX3_startOf h x0 (x1 + 1) - fX3_startOf h x0 x1)), h) := by
  refine (rn_aload_n (pc := 0) (dd bX3_cellsIn dX3_cellsIn_0) rfl).trans ?_
  refine (rn_iload_n (pc := 1) (dd bX3_cellsIn dX3_cellsIn_1) rfl).trans ?_
  refine (rn_iconst (pc := 2) (dd bX3_cellsIn dX3_cellsIn_2) (by decide)).trans ?_
  refine (rg_iadd (pc := 3) (dd bX3_cellsIn dX3_cellsIn_3) p1 p2).trans ?_
  refine (rg_virtual (pc := 4) (dd bX3_cellsIn dX3_cellsIn_4) rfl rfl (by decide) (kc := 24) rfl s3.1 (as := [(1, x0), (0, x1 + 1)]) rfl ⟨Nat.le_of_ble_eq_true rfl, Nat.le_of_ble_eq_true rfl, Nat.le_of_ble_eq_true rfl, Nat.le_of_ble_eq_true rfl⟩).trans ?_
  refine (vret_v (spX3_startOf s3)).trans ?_
  refine (rn_aload_n (pc := 7) (dd bX3_cellsIn dX3_cellsIn_7) rfl).trans ?_
  refine (rn_iload_n (pc := 8) (dd bX3_cellsIn dX3_cellsIn_8) rfl).trans ?_
  refine (rg_virtual (pc := 9) (dd bX3_cellsIn dX3_cellsIn_9) rfl rfl (by decide) (kc := 24) rfl s3.1 (as := [(1, x0), (0, x1)]) rfl ⟨Nat.le_of_ble_eq_true rfl, Nat.le_of_ble_eq_true rfl, Nat.le_of_ble_eq_true rfl, Nat.le_of_ble_eq_true rfl⟩).trans ?_
  refine (vret_v (spX3_startOf s3)).trans ?_
  refine (rg_isub (pc := 12) (dd bX3_cellsIn dX3_cellsIn_12) p4 p5).trans ?_
  exact rn_ireturn (pc := 13) (dd bX3_cellsIn dX3_cellsIn_13) (Or.inl rfl)
def fX3_cellsIn (h : vH) (x0 : Int) (x1 : Int) : Int := fX3_startOf h x0 (x1 + 1) - fX3_startOf h x0 x1
theorem spX3_cellsIn {x0 : Int} {x1 : Int} {h : vH} (p1 : (-2147483648) ≤ x1 + 1) (p2 : x1 + 1 < 2147483648) (s3 : shLayout h x0) (p4 : (-2147483648) ≤ fX3_startOf h x0 (x1 + 1) - fX3_startOf h x0 x1) (p5 : fX3_startOf h x0 (x1 + 1) - fX3_startOf h x0 x1 < 2147483648) : vcl mX3_cellsIn [(1, x0), (0, x1)] h = some (.inl (some (0, fX3_cellsIn h x0 x1)), h) := by
  refine (show _ = _ from rX3_cellsIn_0 p1 p2 s3 p4 p5).trans ?_
  rfl
theorem bX3_levelEnd : vmB mX3_levelEnd = cX3_levelEnd := rfl
theorem rX3_levelEnd_0 {x0 : Int} {x1 : Int} {x2 : Int} {h : vH} (p1 : (-2147483648) ≤ x2 - 1) (p2 : x2 - 1 < 2147483648) : vrun mX3_levelEnd 0 [(1, x0), (0, x1), (0, x2), (9, 0)] [] h = vrun mX3_levelEnd 4 [(1, x0), (0, x1), (0, x2), (0, x2 - 1)] [] h := by
  refine (rn_iload_n (pc := 0) (dd bX3_levelEnd dX3_levelEnd_0) rfl).trans ?_
  refine (rn_iconst (pc := 1) (dd bX3_levelEnd dX3_levelEnd_1) (by decide)).trans ?_
  refine (rg_isub (pc := 2) (dd bX3_levelEnd dX3_levelEnd_2) p1 p2).trans ?_
  refine (rn_istore_n (pc := 3) (dd bX3_levelEnd dX3_levelEnd_3) (Nat.le_of_ble_eq_true rfl) rfl).trans ?_
  rfl
theorem rX3_levelEnd_4 {x0 : Int} {x1 : Int} {x2 : Int} {x3 : Int} {h : vH} (s1 : shLayout h x0) : vrun mX3_levelEnd 4 [(1, x0), (0, x1), (0, x2), (0, x3)] [] h = if x3 < x1 then some (.inl none, h) else if x3 < 0 then some (.inl none, h) else if 131 ≤ x3 then some (.inl none, h) else if h 2 (x0 + 1) x3 = 32 ∨ h 2 (x0 + 1) x3 = 9 then vrun mX3_levelEnd 4 [(1, x0), (0, x1), (0, x2), (0, x3 + (-1))] [] (vup h 2 (x0 + 7) x3 (h 511 x0 0)) else some (.inl none, h) := by
  refine (rn_iload_n (pc := 4) (dd bX3_levelEnd dX3_levelEnd_4) rfl).trans ?_
  refine (rn_iload_n (pc := 5) (dd bX3_levelEnd dX3_levelEnd_5) rfl).trans ?_
  refine (rn_icmp_lt (t := 48) (pc := 6) (dd bX3_levelEnd dX3_levelEnd_6) rfl).trans (itec (fun c1 => ?_) (fun c1 => ?_))
  · exact rn_return (pc := 48) (dd bX3_levelEnd dX3_levelEnd_48) rfl
  · refine (rn_iload_n (pc := 9) (dd bX3_levelEnd dX3_levelEnd_9) rfl).trans ?_
    refine (rn_if_lt (t := 48) (pc := 10) (dd bX3_levelEnd dX3_levelEnd_10) rfl).trans (itec (fun c2 => ?_) (fun c2 => ?_))
    · exact rn_return (pc := 48) (dd bX3_levelEnd dX3_levelEnd_48) rfl
    · refine (rn_iload_n (pc := 13) (dd bX3_levelEnd dX3_levelEnd_13) rfl).trans ?_
      refine (rn_sipush (pc := 14) (dd bX3_levelEnd dX3_levelEnd_14) (by decide)).trans ?_
      refine (rn_icmp_ge (t := 48) (pc := 17) (dd bX3_levelEnd dX3_levelEnd_17) rfl).trans (itec (fun c3 => ?_) (fun c3 => ?_))
      · exact rn_return (pc := 48) (dd bX3_levelEnd dX3_levelEnd_48) rfl
      · refine (rn_aload_n (pc := 20) (dd bX3_levelEnd dX3_levelEnd_20) rfl).trans ?_
        refine (rg_gf (pc := 21) (dd bX3_levelEnd dX3_levelEnd_21) (ci := 4) (j := 0) rfl rfl (key := 500) rfl (kc := 24) rfl s1.1 s1.2.1).trans ?_
        refine (rn_iload_n (pc := 24) (dd bX3_levelEnd dX3_levelEnd_24) rfl).trans ?_
        refine (rg_iaload (pc := 25) (dd bX3_levelEnd dX3_levelEnd_25) s1.2.2.1 s1.2.2.2.1 (Int.not_lt.mp c2) (Int.not_le.mp c3) rfl).trans ?_
        refine (rg_static (pc := 26) (dd bX3_levelEnd dX3_levelEnd_26) rfl (by decide) (Nat.le_of_ble_eq_true rfl) (as := [(0, h 2 (x0 + 1) x3)]) rfl rfl ⟨Nat.le_of_ble_eq_true rfl, Nat.le_of_ble_eq_true rfl, Nat.le_of_ble_eq_true rfl, Nat.le_of_ble_eq_true rfl⟩).trans ?_
        refine (vret_v spX12_isBlank).trans ?_
        refine (rg_beq (t := 48) (pc := 29) (dd bX3_levelEnd dX3_levelEnd_29) rfl).trans (itec (fun c4 => ?_) (fun c4 => ?_))
        · refine (rn_aload_n (pc := 32) (dd bX3_levelEnd dX3_levelEnd_32) rfl).trans ?_
          refine (rg_gf (pc := 33) (dd bX3_levelEnd dX3_levelEnd_33) (ci := 4) (j := 6) rfl rfl (key := 506) rfl (kc := 24) rfl s1.1 s1.2.2.2.2.2.2.2.2.2.2.2.2.2.2.2.2.2.2.2.1).trans ?_
          refine (rn_iload_n (pc := 36) (dd bX3_levelEnd dX3_levelEnd_36) rfl).trans ?_
          refine (rn_aload_n (pc := 37) (dd bX3_levelEnd dX3_levelEnd_37) rfl).trans ?_
          refine (rg_gf (pc := 38) (dd bX3_levelEnd dX3_levelEnd_38) (ci := 4) (j := 11) rfl rfl (key := 511) rfl (kc := 24) rfl s1.1 rfl).trans ?_
          refine (rg_iastore (pc := 41) (dd bX3_levelEnd dX3_levelEnd_41) s1.2.2.2.2.2.2.2.2.2.2.2.2.2.2.2.2.2.2.2.2.1 s1.2.2.2.2.2.2.2.2.2.2.2.2.2.2.2.2.2.2.2.2.2.1 (Int.not_lt.mp c2) (Int.not_le.mp c3)).trans ?_
          refine (rg_iinc (pc := 42) (dd bX3_levelEnd dX3_levelEnd_42) rfl (Nat.le_of_ble_eq_true rfl) (by omega) (by omega) rfl).trans ?_
          refine (rn_goto (t := 4) (pc := 45) (dd bX3_levelEnd dX3_levelEnd_45) rfl).trans ?_
          rfl
        · exact rn_return (pc := 48) (dd bX3_levelEnd dX3_levelEnd_48) rfl
theorem bX3_levelOnScreen : vmB mX3_levelOnScreen = cX3_levelOnScreen := rfl
theorem rX3_levelOnScreen_0 {x0 : Int} {x1 : Int} {h : vH} (s1 : shLayout h x0) : vrun mX3_levelOnScreen 0 [(1, x0), (0, x1), (9, 0)] [] h = some (.inl (some (0, (if (if x1 < 0 then (-1) else (if 131 ≤ x1 then (-1) else h 2 (x0 + 8) x1)) < 0 then (-1) else (if 131 ≤ (if x1 < 0 then (-1) else (if 131 ≤ x1 then (-1) else h 2 (x0 + 8) x1)) then (-1) else h 2 (x0 + 7) (if x1 < 0 then (-1) else (if 131 ≤ x1 then (-1) else h 2 (x0 + 8) x1)))))), h) := by
  refine (rn_iload_n (pc := 0) (dd bX3_levelOnScreen dX3_levelOnScreen_0) rfl).trans ?_
  have e2 : vrun mX3_levelOnScreen 1 [(1, x0), (0, x1), (9, 0)] [(0, x1)] h = vrun mX3_levelOnScreen 21 [(1, x0), (0, x1), (9, 0)] [(0, (if x1 < 0 then (-1) else (if 131 ≤ x1 then (-1) else h 2 (x0 + 8) x1)))] h := by
    refine (rn_if_lt (t := 20) (pc := 1) (dd bX3_levelOnScreen dX3_levelOnScreen_1) rfl).trans ?_
    by_cases c1 : x1 < 0
    · refine (if_pos c1).trans ?_
      refine (rn_iconst (pc := 20) (dd bX3_levelOnScreen dX3_levelOnScreen_20) (by decide)).trans ?_
      refine Eq.trans (b := vrun mX3_levelOnScreen 21 [(1, x0), (0, x1), (9, 0)] [(0, (-1))] h) rfl ?_
      simp only [if_pos c1]
    · refine (if_neg c1).trans ?_
      refine (rn_iload_n (pc := 4) (dd bX3_levelOnScreen dX3_levelOnScreen_4) rfl).trans ?_
      refine (rn_sipush (pc := 5) (dd bX3_levelOnScreen dX3_levelOnScreen_5) (by decide)).trans ?_
      have e1 : vrun mX3_levelOnScreen 8 [(1, x0), (0, x1), (9, 0)] [(0, 131), (0, x1)] h = vrun mX3_levelOnScreen 21 [(1, x0), (0, x1), (9, 0)] [(0, (if 131 ≤ x1 then (-1) else h 2 (x0 + 8) x1))] h := by
        refine (rn_icmp_ge (t := 20) (pc := 8) (dd bX3_levelOnScreen dX3_levelOnScreen_8) rfl).trans ?_
        by_cases c2 : 131 ≤ x1
        · refine (if_pos c2).trans ?_
          refine (rn_iconst (pc := 20) (dd bX3_levelOnScreen dX3_levelOnScreen_20) (by decide)).trans ?_
          refine Eq.trans (b := vrun mX3_levelOnScreen 21 [(1, x0), (0, x1), (9, 0)] [(0, (-1))] h) rfl ?_
          simp only [if_pos c2]
        · refine (if_neg c2).trans ?_
          refine (rn_aload_n (pc := 11) (dd bX3_levelOnScreen dX3_levelOnScreen_11) rfl).trans ?_
          refine (rg_gf (pc := 12) (dd bX3_levelOnScreen dX3_levelOnScreen_12) (ci := 4) (j := 7) rfl rfl (key := 507) rfl (kc := 24) rfl s1.1 s1.2.2.2.2.2.2.2.2.2.2.2.2.2.2.2.2.2.2.2.2.2.2.1).trans ?_
          refine (rn_iload_n (pc := 15) (dd bX3_levelOnScreen dX3_levelOnScreen_15) rfl).trans ?_
          refine (rg_iaload (pc := 16) (dd bX3_levelOnScreen dX3_levelOnScreen_16) s1.2.2.2.2.2.2.2.2.2.2.2.2.2.2.2.2.2.2.2.2.2.2.2.1 s1.2.2.2.2.2.2.2.2.2.2.2.2.2.2.2.2.2.2.2.2.2.2.2.2.1 (Int.not_lt.mp c1) (Int.not_le.mp c2) rfl).trans ?_
          refine (rn_goto (t := 21) (pc := 17) (dd bX3_levelOnScreen dX3_levelOnScreen_17) rfl).trans ?_
          refine Eq.trans (b := vrun mX3_levelOnScreen 21 [(1, x0), (0, x1), (9, 0)] [(0, h 2 (x0 + 8) x1)] h) rfl ?_
          simp only [if_neg c2]
      refine e1.trans ?_
      refine Eq.trans (b := vrun mX3_levelOnScreen 21 [(1, x0), (0, x1), (9, 0)] [(0, (if 131 ≤ x1 then (-1) else h 2 (x0 + 8) x1))] h) rfl ?_
      simp only [if_neg c1]
  refine e2.trans ?_
  refine (rn_istore_n (pc := 21) (dd bX3_levelOnScreen dX3_levelOnScreen_21) (Nat.le_of_ble_eq_true rfl) rfl).trans ?_
  refine (rn_iload_n (pc := 22) (dd bX3_levelOnScreen dX3_levelOnScreen_22) rfl).trans ?_
  have e4 : vrun mX3_levelOnScreen 23 [(1, x0), (0, x1), (0, (if x1 < 0 then (-1) else (if 131 ≤ x1 then (-1) else h 2 (x0 + 8) x1)))] [(0, (if x1 < 0 then (-1) else (if 131 ≤ x1 then (-1) else h 2 (x0 + 8) x1)))] h = vrun mX3_levelOnScreen 43 [(1, x0), (0, x1), (0, (if x1 < 0 then (-1) else (if 131 ≤ x1 then (-1) else h 2 (x0 + 8) x1)))] [(0, (if (if x1 < 0 then (-1) else (if 131 ≤ x1 then (-1) else h 2 (x0 + 8) x1)) < 0 then (-1) else (if 131 ≤ (if x1 < 0 then (-1) else (if 131 ≤ x1 then (-1) else h 2 (x0 + 8) x1)) then (-1) else h 2 (x0 + 7) (if x1 < 0 then (-1) else (if 131 ≤ x1 then (-1) else h 2 (x0 + 8) x1)))))] h := by
    refine (rn_if_lt (t := 42) (pc := 23) (dd bX3_levelOnScreen dX3_levelOnScreen_23) rfl).trans ?_
    by_cases c3 : (if x1 < 0 then (-1) else (if 131 ≤ x1 then (-1) else h 2 (x0 + 8) x1)) < 0
    · refine (if_pos c3).trans ?_
      refine (rn_iconst (pc := 42) (dd bX3_levelOnScreen dX3_levelOnScreen_42) (by decide)).trans ?_
      refine Eq.trans (b := vrun mX3_levelOnScreen 43 [(1, x0), (0, x1), (0, (if x1 < 0 then (-1) else (if 131 ≤ x1 then (-1) else h 2 (x0 + 8) x1)))] [(0, (-1))] h) rfl ?_
      simp only [if_pos c3]
    · refine (if_neg c3).trans ?_
      refine (rn_iload_n (pc := 26) (dd bX3_levelOnScreen dX3_levelOnScreen_26) rfl).trans ?_
      refine (rn_sipush (pc := 27) (dd bX3_levelOnScreen dX3_levelOnScreen_27) (by decide)).trans ?_
      have e3 : vrun mX3_levelOnScreen 30 [(1, x0), (0, x1), (0, (if x1 < 0 then (-1) else (if 131 ≤ x1 then (-1) else h 2 (x0 + 8) x1)))] [(0, 131), (0, (if x1 < 0 then (-1) else (if 131 ≤ x1 then (-1) else h 2 (x0 + 8) x1)))] h = vrun mX3_levelOnScreen 43 [(1, x0), (0, x1), (0, (if x1 < 0 then (-1) else (if 131 ≤ x1 then (-1) else h 2 (x0 + 8) x1)))] [(0, (if 131 ≤ (if x1 < 0 then (-1) else (if 131 ≤ x1 then (-1) else h 2 (x0 + 8) x1)) then (-1) else h 2 (x0 + 7) (if x1 < 0 then (-1) else (if 131 ≤ x1 then (-1) else h 2 (x0 + 8) x1))))] h := by
        refine (rn_icmp_ge (t := 42) (pc := 30) (dd bX3_levelOnScreen dX3_levelOnScreen_30) rfl).trans ?_
        by_cases c4 : 131 ≤ (if x1 < 0 then (-1) else (if 131 ≤ x1 then (-1) else h 2 (x0 + 8) x1))
        · refine (if_pos c4).trans ?_
          refine (rn_iconst (pc := 42) (dd bX3_levelOnScreen dX3_levelOnScreen_42) (by decide)).trans ?_
          refine Eq.trans (b := vrun mX3_levelOnScreen 43 [(1, x0), (0, x1), (0, (if x1 < 0 then (-1) else (if 131 ≤ x1 then (-1) else h 2 (x0 + 8) x1)))] [(0, (-1))] h) rfl ?_
          simp only [if_pos c4]
        · refine (if_neg c4).trans ?_
          refine (rn_aload_n (pc := 33) (dd bX3_levelOnScreen dX3_levelOnScreen_33) rfl).trans ?_
          refine (rg_gf (pc := 34) (dd bX3_levelOnScreen dX3_levelOnScreen_34) (ci := 4) (j := 6) rfl rfl (key := 506) rfl (kc := 24) rfl s1.1 s1.2.2.2.2.2.2.2.2.2.2.2.2.2.2.2.2.2.2.2.1).trans ?_
          refine (rn_iload_n (pc := 37) (dd bX3_levelOnScreen dX3_levelOnScreen_37) rfl).trans ?_
          refine (rg_iaload (pc := 38) (dd bX3_levelOnScreen dX3_levelOnScreen_38) s1.2.2.2.2.2.2.2.2.2.2.2.2.2.2.2.2.2.2.2.2.1 s1.2.2.2.2.2.2.2.2.2.2.2.2.2.2.2.2.2.2.2.2.2.1 (Int.not_lt.mp c3) (Int.not_le.mp c4) rfl).trans ?_
          refine (rn_goto (t := 43) (pc := 39) (dd bX3_levelOnScreen dX3_levelOnScreen_39) rfl).trans ?_
          refine Eq.trans (b := vrun mX3_levelOnScreen 43 [(1, x0), (0, x1), (0, (if x1 < 0 then (-1) else (if 131 ≤ x1 then (-1) else h 2 (x0 + 8) x1)))] [(0, h 2 (x0 + 7) (if x1 < 0 then (-1) else (if 131 ≤ x1 then (-1) else h 2 (x0 + 8) x1)))] h) rfl ?_
          simp only [if_neg c4]
      refine e3.trans ?_
      refine Eq.trans (b := vrun mX3_levelOnScreen 43 [(1, x0), (0, x1), (0, (if x1 < 0 then (-1) else (if 131 ≤ x1 then (-1) else h 2 (x0 + 8) x1)))] [(0, (if 131 ≤ (if x1 < 0 then (-1) else (if 131 ≤ x1 then (-1) else h 2 (x0 + 8) x1)) then (-1) else h 2 (x0 + 7) (if x1 < 0 then (-1) else (if 131 ≤ x1 then (-1) else h 2 (x0 + 8) x1))))] h) rfl ?_
      simp only [if_neg c3]
  refine e4.trans ?_
  exact rn_ireturn (pc := 43) (dd bX3_levelOnScreen dX3_levelOnScreen_43) (Or.inl rfl)
def fX3_levelOnScreen (h : vH) (x0 : Int) (x1 : Int) : Int := (if (if x1 < 0 then (-1) else (if 131 ≤ x1 then (-1) else h 2 (x0 + 8) x1)) < 0 then (-1) else (if 131 ≤ (if x1 < 0 then (-1) else (if 131 ≤ x1 then (-1) else h 2 (x0 + 8) x1)) then (-1) else h 2 (x0 + 7) (if x1 < 0 then (-1) else (if 131 ≤ x1 then (-1) else h 2 (x0 + 8) x1))))
theorem spX3_levelOnScreen {x0 : Int} {x1 : Int} {h : vH} (s1 : shLayout h x0) : vcl mX3_levelOnScreen [(1, x0), (0, x1)] h = some (.inl (some (0, fX3_levelOnScreen h x0 x1)), h) := by
  refine (show _ = _ from rX3_levelOnScreen_0 s1).trans ?_
  rfl
theorem bX3_turnRound : vmB mX3_turnRound = cX3_turnRound := rfl
theorem rX3_turnRound_0 {x0 : Int} {x1 : Int} {x2 : Int} {h : vH} (p1 : (-2147483648) ≤ x2 - 1) (p2 : x2 - 1 < 2147483648) : vrun mX3_turnRound 0 [(1, x0), (0, x1), (0, x2), (9, 0), (9, 0), (9, 0)] [] h = vrun mX3_turnRound 7 [(1, x0), (0, x1), (0, x2), (0, x1), (0, x2 - 1), (9, 0)] [] h := by
  refine (rn_iload_n (pc := 0) (dd bX3_turnRound dX3_turnRound_0) rfl).trans ?_
  refine (rn_istore_n (pc := 1) (dd bX3_turnRound dX3_turnRound_1) (Nat.le_of_ble_eq_true rfl) rfl).trans ?_
  refine (rn_iload_n (pc := 2) (dd bX3_turnRound dX3_turnRound_2) rfl).trans ?_
  refine (rn_iconst (pc := 3) (dd bX3_turnRound dX3_turnRound_3) (by decide)).trans ?_
  refine (rg_isub (pc := 4) (dd bX3_turnRound dX3_turnRound_4) p1 p2).trans ?_
  refine (rn_istore (pc := 5) (dd bX3_turnRound dX3_turnRound_5) (Nat.le_of_ble_eq_true rfl) rfl).trans ?_
  rfl
theorem rX3_turnRound_7 {x0 : Int} {x1 : Int} {x2 : Int} {x3 : Int} {x4 : Int} {v5 : vv} {h : vH} (s1 : shLayout h x0) (p2 : ¬ (x3 < 0) → ¬ (x4 ≤ x3) → ¬ (131 ≤ x4) → x3 < 131) (p3 : ¬ (x3 < 0) → ¬ (x4 ≤ x3) → ¬ (131 ≤ x4) → 0 ≤ x4) : vrun mX3_turnRound 7 [(1, x0), (0, x1), (0, x2), (0, x3), (0, x4), v5] [] h = if x3 < 0 then some (.inl none, h) else if x4 ≤ x3 then some (.inl none, h) else if 131 ≤ x4 then some (.inl none, h) else vrun mX3_turnRound 7 [(1, x0), (0, x1), (0, x2), (0, x3 + 1), (0, x4 + (-1)), (0, h 2 (x0 + 8) x3)] [] (vup (vup h 2 (x0 + 8) x3 (h 2 (x0 + 8) x4)) 2 (x0 + 8) x4 (h 2 (x0 + 8) x3)) := by
  refine (rn_iload_n (pc := 7) (dd bX3_turnRound dX3_turnRound_7) rfl).trans ?_
  refine (rn_if_lt (t := 64) (pc := 8) (dd bX3_turnRound dX3_turnRound_8) rfl).trans (itec (fun c1 => ?_) (fun c1 => ?_))
  · exact rn_return (pc := 64) (dd bX3_turnRound dX3_turnRound_64) rfl
  · refine (rn_iload_n (pc := 11) (dd bX3_turnRound dX3_turnRound_11) rfl).trans ?_
    refine (rn_iload (pc := 12) (dd bX3_turnRound dX3_turnRound_12) rfl).trans ?_
    refine (rn_icmp_ge (t := 64) (pc := 14) (dd bX3_turnRound dX3_turnRound_14) rfl).trans (itec (fun c2 => ?_) (fun c2 => ?_))
    · exact rn_return (pc := 64) (dd bX3_turnRound dX3_turnRound_64) rfl
    · refine (rn_iload (pc := 17) (dd bX3_turnRound dX3_turnRound_17) rfl).trans ?_
      refine (rn_sipush (pc := 19) (dd bX3_turnRound dX3_turnRound_19) (by decide)).trans ?_
      refine (rn_icmp_ge (t := 64) (pc := 22) (dd bX3_turnRound dX3_turnRound_22) rfl).trans (itec (fun c3 => ?_) (fun c3 => ?_))
      · exact rn_return (pc := 64) (dd bX3_turnRound dX3_turnRound_64) rfl
      · refine (rn_aload_n (pc := 25) (dd bX3_turnRound dX3_turnRound_25) rfl).trans ?_
        refine (rg_gf (pc := 26) (dd bX3_turnRound dX3_turnRound_26) (ci := 4) (j := 7) rfl rfl (key := 507) rfl (kc := 24) rfl s1.1 s1.2.2.2.2.2.2.2.2.2.2.2.2.2.2.2.2.2.2.2.2.2.2.1).trans ?_
        refine (rn_iload_n (pc := 29) (dd bX3_turnRound dX3_turnRound_29) rfl).trans ?_
        refine (rg_iaload (pc := 30) (dd bX3_turnRound dX3_turnRound_30) s1.2.2.2.2.2.2.2.2.2.2.2.2.2.2.2.2.2.2.2.2.2.2.2.1 s1.2.2.2.2.2.2.2.2.2.2.2.2.2.2.2.2.2.2.2.2.2.2.2.2.1 (Int.not_lt.mp c1) (p2 c1 c2 c3) rfl).trans ?_
        refine (rn_istore (pc := 31) (dd bX3_turnRound dX3_turnRound_31) (Nat.le_of_ble_eq_true rfl) rfl).trans ?_
        refine (rn_aload_n (pc := 33) (dd bX3_turnRound dX3_turnRound_33) rfl).trans ?_
        refine (rg_gf (pc := 34) (dd bX3_turnRound dX3_turnRound_34) (ci := 4) (j := 7) rfl rfl (key := 507) rfl (kc := 24) rfl s1.1 s1.2.2.2.2.2.2.2.2.2.2.2.2.2.2.2.2.2.2.2.2.2.2.1).trans ?_
        refine (rn_iload_n (pc := 37) (dd bX3_turnRound dX3_turnRound_37) rfl).trans ?_
        refine (rn_aload_n (pc := 38) (dd bX3_turnRound dX3_turnRound_38) rfl).trans ?_
        refine (rg_gf (pc := 39) (dd bX3_turnRound dX3_turnRound_39) (ci := 4) (j := 7) rfl rfl (key := 507) rfl (kc := 24) rfl s1.1 s1.2.2.2.2.2.2.2.2.2.2.2.2.2.2.2.2.2.2.2.2.2.2.1).trans ?_
        refine (rn_iload (pc := 42) (dd bX3_turnRound dX3_turnRound_42) rfl).trans ?_
        refine (rg_iaload (pc := 44) (dd bX3_turnRound dX3_turnRound_44) s1.2.2.2.2.2.2.2.2.2.2.2.2.2.2.2.2.2.2.2.2.2.2.2.1 s1.2.2.2.2.2.2.2.2.2.2.2.2.2.2.2.2.2.2.2.2.2.2.2.2.1 (p3 c1 c2 c3) (Int.not_le.mp c3) rfl).trans ?_
        refine (rg_iastore (pc := 45) (dd bX3_turnRound dX3_turnRound_45) s1.2.2.2.2.2.2.2.2.2.2.2.2.2.2.2.2.2.2.2.2.2.2.2.1 s1.2.2.2.2.2.2.2.2.2.2.2.2.2.2.2.2.2.2.2.2.2.2.2.2.1 (Int.not_lt.mp c1) (by have z0 := p2 c1 c2 c3; omega)).trans ?_
        refine (rn_aload_n (pc := 46) (dd bX3_turnRound dX3_turnRound_46) rfl).trans ?_
        refine (rg_gf (pc := 47) (dd bX3_turnRound dX3_turnRound_47) (ci := 4) (j := 7) rfl rfl (key := 507) rfl (kc := 24) rfl ((vup_k (by decide)).trans s1.1) ((vup_k (by decide)).trans s1.2.2.2.2.2.2.2.2.2.2.2.2.2.2.2.2.2.2.2.2.2.2.1)).trans ?_
        refine (rn_iload (pc := 50) (dd bX3_turnRound dX3_turnRound_50) rfl).trans ?_
        refine (rn_iload (pc := 52) (dd bX3_turnRound dX3_turnRound_52) rfl).trans ?_
        refine (rg_iastore (pc := 54) (dd bX3_turnRound dX3_turnRound_54) ((vup_k (by decide)).trans s1.2.2.2.2.2.2.2.2.2.2.2.2.2.2.2.2.2.2.2.2.2.2.2.1) ((vup_k (by decide)).trans s1.2.2.2.2.2.2.2.2.2.2.2.2.2.2.2.2.2.2.2.2.2.2.2.2.1) (by have z0 := p3 c1 c2 c3; omega) (Int.not_le.mp c3)).trans ?_
        refine (rg_iinc (pc := 55) (dd bX3_turnRound dX3_turnRound_55) rfl (Nat.le_of_ble_eq_true rfl) (by have z0 := p2 c1 c2 c3; omega) (by have z0 := p2 c1 c2 c3; omega) rfl).trans ?_
        refine (rg_iinc (pc := 58) (dd bX3_turnRound dX3_turnRound_58) rfl (Nat.le_of_ble_eq_true rfl) (by have z0 := p3 c1 c2 c3; omega) (by have z0 := p3 c1 c2 c3; omega) rfl).trans ?_
        refine (rn_goto (t := 7) (pc := 61) (dd bX3_turnRound dX3_turnRound_61) rfl).trans ?_
        rfl
theorem bX3_orderRow : vmB mX3_orderRow = cX3_orderRow := rfl
theorem rX3_orderRow_0 {x0 : Int} {x1 : Int} {x2 : Int} {h : vH} : vrun mX3_orderRow 0 [(1, x0), (0, x1), (0, x2), (9, 0), (9, 0), (9, 0), (9, 0)] [] h = vrun mX3_orderRow 9 [(1, x0), (0, x1), (0, x2), (0, 0), (0, max x1 0), (9, 0), (9, 0)] [] h := by
  refine (rn_iconst (pc := 0) (dd bX3_orderRow dX3_orderRow_0) (by decide)).trans ?_
  refine (rn_istore_n (pc := 1) (dd bX3_orderRow dX3_orderRow_1) (Nat.le_of_ble_eq_true rfl) rfl).trans ?_
  refine (rn_iload_n (pc := 2) (dd bX3_orderRow dX3_orderRow_2) rfl).trans ?_
  refine (rn_iconst (pc := 3) (dd bX3_orderRow dX3_orderRow_3) (by decide)).trans ?_
  refine (rg_max (pc := 4) (dd bX3_orderRow dX3_orderRow_4) rfl ⟨Nat.le_of_ble_eq_true rfl, Nat.le_of_ble_eq_true rfl, Nat.le_of_ble_eq_true rfl⟩).trans ?_
  refine (rn_istore (pc := 7) (dd bX3_orderRow dX3_orderRow_7) (Nat.le_of_ble_eq_true rfl) rfl).trans ?_
  rfl
theorem rX3_orderRow_9 {x0 : Int} {x1 : Int} {x2 : Int} {x3 : Int} {x4 : Int} {h : vH} (s1 : shLayout h x0) (p2 : ¬ (x2 ≤ x4) → ¬ (131 ≤ x4) → 0 ≤ x4) : vrun mX3_orderRow 9 [(1, x0), (0, x1), (0, x2), (0, x3), (0, x4), (9, 0), (9, 0)] [] h = if x2 ≤ x4 then vrun mX3_orderRow 53 [(1, x0), (0, x1), (0, x2), (0, x3), (0, x3), (9, 0), (9, 0)] [] h else if 131 ≤ x4 then vrun mX3_orderRow 53 [(1, x0), (0, x1), (0, x2), (0, x3), (0, x3), (9, 0), (9, 0)] [] h else vrun mX3_orderRow 9 [(1, x0), (0, x1), (0, x2), (0, max x3 (h 2 (x0 + 7) x4)), (0, x4 + 1), (9, 0), (9, 0)] [] (vup h 2 (x0 + 8) x4 x4) := by
  refine (rn_iload (pc := 9) (dd bX3_orderRow dX3_orderRow_9) rfl).trans ?_
  refine (rn_iload_n (pc := 11) (dd bX3_orderRow dX3_orderRow_11) rfl).trans ?_
  refine (rn_icmp_ge (t := 50) (pc := 12) (dd bX3_orderRow dX3_orderRow_12) rfl).trans (itec (fun c1 => ?_) (fun c1 => ?_))
  · refine (rn_iload_n (pc := 50) (dd bX3_orderRow dX3_orderRow_50) rfl).trans ?_
    refine (rn_istore (pc := 51) (dd bX3_orderRow dX3_orderRow_51) (Nat.le_of_ble_eq_true rfl) rfl).trans ?_
    rfl
  · refine (rn_iload (pc := 15) (dd bX3_orderRow dX3_orderRow_15) rfl).trans ?_
    refine (rn_sipush (pc := 17) (dd bX3_orderRow dX3_orderRow_17) (by decide)).trans ?_
    refine (rn_icmp_ge (t := 50) (pc := 20) (dd bX3_orderRow dX3_orderRow_20) rfl).trans (itec (fun c2 => ?_) (fun c2 => ?_))
    · refine (rn_iload_n (pc := 50) (dd bX3_orderRow dX3_orderRow_50) rfl).trans ?_
      refine (rn_istore (pc := 51) (dd bX3_orderRow dX3_orderRow_51) (Nat.le_of_ble_eq_true rfl) rfl).trans ?_
      rfl
    · refine (rn_aload_n (pc := 23) (dd bX3_orderRow dX3_orderRow_23) rfl).trans ?_
      refine (rg_gf (pc := 24) (dd bX3_orderRow dX3_orderRow_24) (ci := 4) (j := 7) rfl rfl (key := 507) rfl (kc := 24) rfl s1.1 s1.2.2.2.2.2.2.2.2.2.2.2.2.2.2.2.2.2.2.2.2.2.2.1).trans ?_
      refine (rn_iload (pc := 27) (dd bX3_orderRow dX3_orderRow_27) rfl).trans ?_
      refine (rn_iload (pc := 29) (dd bX3_orderRow dX3_orderRow_29) rfl).trans ?_
      refine (rg_iastore (pc := 31) (dd bX3_orderRow dX3_orderRow_31) s1.2.2.2.2.2.2.2.2.2.2.2.2.2.2.2.2.2.2.2.2.2.2.2.1 s1.2.2.2.2.2.2.2.2.2.2.2.2.2.2.2.2.2.2.2.2.2.2.2.2.1 (p2 c1 c2) (Int.not_le.mp c2)).trans ?_
      refine (rn_iload_n (pc := 32) (dd bX3_orderRow dX3_orderRow_32) rfl).trans ?_
      refine (rn_aload_n (pc := 33) (dd bX3_orderRow dX3_orderRow_33) rfl).trans ?_
      refine (rg_gf (pc := 34) (dd bX3_orderRow dX3_orderRow_34) (ci := 4) (j := 6) rfl rfl (key := 506) rfl (kc := 24) rfl ((vup_k (by decide)).trans s1.1) ((vup_k (by decide)).trans s1.2.2.2.2.2.2.2.2.2.2.2.2.2.2.2.2.2.2.2.1)).trans ?_
      refine (rn_iload (pc := 37) (dd bX3_orderRow dX3_orderRow_37) rfl).trans ?_
      refine (rg_iaload (pc := 39) (dd bX3_orderRow dX3_orderRow_39) ((vup_k (by decide)).trans s1.2.2.2.2.2.2.2.2.2.2.2.2.2.2.2.2.2.2.2.2.1) ((vup_k (by decide)).trans s1.2.2.2.2.2.2.2.2.2.2.2.2.2.2.2.2.2.2.2.2.2.1) (by have z0 := p2 c1 c2; omega) (Int.not_le.mp c2) ((vup_r (by omega)).trans rfl)).trans ?_
      refine (rg_max (pc := 40) (dd bX3_orderRow dX3_orderRow_40) rfl ⟨Nat.le_of_ble_eq_true rfl, Nat.le_of_ble_eq_true rfl, Nat.le_of_ble_eq_true rfl⟩).trans ?_
      refine (rn_istore_n (pc := 43) (dd bX3_orderRow dX3_orderRow_43) (Nat.le_of_ble_eq_true rfl) rfl).trans ?_
      refine (rg_iinc (pc := 44) (dd bX3_orderRow dX3_orderRow_44) rfl (Nat.le_of_ble_eq_true rfl) (by have z0 := p2 c1 c2; omega) (by have z0 := p2 c1 c2; omega) rfl).trans ?_
      refine (rn_goto (t := 9) (pc := 47) (dd bX3_orderRow dX3_orderRow_47) rfl).trans ?_
      rfl
theorem rX3_orderRow_53 {x0 : Int} {x1 : Int} {x2 : Int} {x3 : Int} {x4 : Int} {v5 : vv} {v6 : vv} {h : vH} : vrun mX3_orderRow 53 [(1, x0), (0, x1), (0, x2), (0, x3), (0, x4), v5, v6] [] h = if x4 ≤ 0 then some (.inl none, h) else vrun mX3_orderRow 61 [(1, x0), (0, x1), (0, x2), (0, x3), (0, x4), (0, x1), v6] [] h := by
  refine (rn_iload (pc := 53) (dd bX3_orderRow dX3_orderRow_53) rfl).trans ?_
  refine (rn_if_le (t := 117) (pc := 55) (dd bX3_orderRow dX3_orderRow_55) rfl).trans (itec (fun c1 => ?_) (fun c1 => ?_))
  · exact rn_return (pc := 117) (dd bX3_orderRow dX3_orderRow_117) rfl
  · refine (rn_iload_n (pc := 58) (dd bX3_orderRow dX3_orderRow_58) rfl).trans ?_
    refine (rn_istore (pc := 59) (dd bX3_orderRow dX3_orderRow_59) (Nat.le_of_ble_eq_true rfl) rfl).trans ?_
    rfl
theorem rX3_orderRow_61 {x0 : Int} {x1 : Int} {x2 : Int} {x3 : Int} {x4 : Int} {x5 : Int} {v6 : vv} {h : vH} (p1 : x2 ≤ x5 → (-2147483648) ≤ x4 + (-1)) (p2 : x2 ≤ x5 → x4 + (-1) < 2147483648) : vrun mX3_orderRow 61 [(1, x0), (0, x1), (0, x2), (0, x3), (0, x4), (0, x5), v6] [] h = if x2 ≤ x5 then vrun mX3_orderRow 53 [(1, x0), (0, x1), (0, x2), (0, x3), (0, x4 + (-1)), (0, x5), v6] [] h else vrun mX3_orderRow 71 [(1, x0), (0, x1), (0, x2), (0, x3), (0, x4), (0, x5), (0, x5)] [] h := by
  refine (rn_iload (pc := 61) (dd bX3_orderRow dX3_orderRow_61) rfl).trans ?_
  refine (rn_iload_n (pc := 63) (dd bX3_orderRow dX3_orderRow_63) rfl).trans ?_
  refine (rn_icmp_ge (t := 111) (pc := 64) (dd bX3_orderRow dX3_orderRow_64) rfl).trans (itec (fun c1 => ?_) (fun c1 => ?_))
  · refine (rg_iinc (pc := 111) (dd bX3_orderRow dX3_orderRow_111) rfl (Nat.le_of_ble_eq_true rfl) (p1 c1) (p2 c1) rfl).trans ?_
    refine (rn_goto (t := 53) (pc := 114) (dd bX3_orderRow dX3_orderRow_114) rfl).trans ?_
    rfl
  · refine (rn_iload (pc := 67) (dd bX3_orderRow dX3_orderRow_67) rfl).trans ?_
    refine (rn_istore (pc := 69) (dd bX3_orderRow dX3_orderRow_69) (Nat.le_of_ble_eq_true rfl) rfl).trans ?_
    rfl
theorem rX3_orderRow_71 {x0 : Int} {x1 : Int} {x2 : Int} {x3 : Int} {x4 : Int} {x5 : Int} {x6 : Int} {h : vH} (s1 : shLayout h x0) (p2 : ¬ (x2 ≤ x6) → ¬ (fX3_levelOnScreen h x0 x6 < x4) → (-2147483648) ≤ x6 + 1) (p3 : ¬ (x2 ≤ x6) → ¬ (fX3_levelOnScreen h x0 x6 < x4) → x6 + 1 < 2147483648) : vrun mX3_orderRow 71 [(1, x0), (0, x1), (0, x2), (0, x3), (0, x4), (0, x5), (0, x6)] [] h = if x2 ≤ x6 then vret vrun mX3_orderRow 99 [(1, x0), (0, x1), (0, x2), (0, x3), (0, x4), (0, x5), (0, x6)] [] (vcl mX3_turnRound [(1, x0), (0, x5), (0, x6)] h) else if fX3_levelOnScreen h x0 x6 < x4 then vret vrun mX3_orderRow 99 [(1, x0), (0, x1), (0, x2), (0, x3), (0, x4), (0, x5), (0, x6)] [] (vcl mX3_turnRound [(1, x0), (0, x5), (0, x6)] h) else vrun mX3_orderRow 71 [(1, x0), (0, x1), (0, x2), (0, x3), (0, x4), (0, x5), (0, x6 + 1)] [] h := by
  refine (rn_iload (pc := 71) (dd bX3_orderRow dX3_orderRow_71) rfl).trans ?_
  refine (rn_iload_n (pc := 73) (dd bX3_orderRow dX3_orderRow_73) rfl).trans ?_
  refine (rn_icmp_ge (t := 94) (pc := 74) (dd bX3_orderRow dX3_orderRow_74) rfl).trans (itec (fun c1 => ?_) (fun c1 => ?_))
  · refine (rn_aload_n (pc := 94) (dd bX3_orderRow dX3_orderRow_94) rfl).trans ?_
    refine (rn_iload (pc := 95) (dd bX3_orderRow dX3_orderRow_95) rfl).trans ?_
    refine (rn_iload (pc := 97) (dd bX3_orderRow dX3_orderRow_97) rfl).trans ?_
    exact rg_virtual (pc := 99) (dd bX3_orderRow dX3_orderRow_99) rfl rfl (by decide) (kc := 24) rfl s1.1 (as := [(1, x0), (0, x5), (0, x6)]) rfl ⟨Nat.le_of_ble_eq_true rfl, Nat.le_of_ble_eq_true rfl, Nat.le_of_ble_eq_true rfl, Nat.le_of_ble_eq_true rfl⟩
  · refine (rn_aload_n (pc := 77) (dd bX3_orderRow dX3_orderRow_77) rfl).trans ?_
    refine (rn_iload (pc := 78) (dd bX3_orderRow dX3_orderRow_78) rfl).trans ?_
    refine (rg_virtual (pc := 80) (dd bX3_orderRow dX3_orderRow_80) rfl rfl (by decide) (kc := 24) rfl s1.1 (as := [(1, x0), (0, x6)]) rfl ⟨Nat.le_of_ble_eq_true rfl, Nat.le_of_ble_eq_true rfl, Nat.le_of_ble_eq_true rfl, Nat.le_of_ble_eq_true rfl⟩).trans ?_
    refine (vret_v (spX3_levelOnScreen s1)).trans ?_
    refine (rn_iload (pc := 83) (dd bX3_orderRow dX3_orderRow_83) rfl).trans ?_
    refine (rn_icmp_lt (t := 94) (pc := 85) (dd bX3_orderRow dX3_orderRow_85) rfl).trans (itec (fun c2 => ?_) (fun c2 => ?_))
    · refine (rn_aload_n (pc := 94) (dd bX3_orderRow dX3_orderRow_94) rfl).trans ?_
      refine (rn_iload (pc := 95) (dd bX3_orderRow dX3_orderRow_95) rfl).trans ?_
      refine (rn_iload (pc := 97) (dd bX3_orderRow dX3_orderRow_97) rfl).trans ?_
      exact rg_virtual (pc := 99) (dd bX3_orderRow dX3_orderRow_99) rfl rfl (by decide) (kc := 24) rfl s1.1 (as := [(1, x0), (0, x5), (0, x6)]) rfl ⟨Nat.le_of_ble_eq_true rfl, Nat.le_of_ble_eq_true rfl, Nat.le_of_ble_eq_true rfl, Nat.le_of_ble_eq_true rfl⟩
    · refine (rg_iinc (pc := 88) (dd bX3_orderRow dX3_orderRow_88) rfl (Nat.le_of_ble_eq_true rfl) (p2 c1 c2) (p3 c1 c2) rfl).trans ?_
      refine (rn_goto (t := 71) (pc := 91) (dd bX3_orderRow dX3_orderRow_91) rfl).trans ?_
      rfl
theorem rX3_orderRow_102 {x0 : Int} {x1 : Int} {x2 : Int} {x3 : Int} {x4 : Int} {x5 : Int} {x6 : Int} {h : vH} (p1 : (-2147483648) ≤ x6 + 1) (p2 : x6 + 1 < 2147483648) : vrun mX3_orderRow 102 [(1, x0), (0, x1), (0, x2), (0, x3), (0, x4), (0, x5), (0, x6)] [] h = vrun mX3_orderRow 61 [(1, x0), (0, x1), (0, x2), (0, x3), (0, x4), (0, x6 + 1), (0, x6)] [] h := by
  refine (rn_iload (pc := 102) (dd bX3_orderRow dX3_orderRow_102) rfl).trans ?_
  refine (rn_iconst (pc := 104) (dd bX3_orderRow dX3_orderRow_104) (by decide)).trans ?_
  refine (rg_iadd (pc := 105) (dd bX3_orderRow dX3_orderRow_105) p1 p2).trans ?_
  refine (rn_istore (pc := 106) (dd bX3_orderRow dX3_orderRow_106) (Nat.le_of_ble_eq_true rfl) rfl).trans ?_
  refine (rn_goto (t := 61) (pc := 108) (dd bX3_orderRow dX3_orderRow_108) rfl).trans ?_
  rfl
theorem bX3_placeRow : vmB mX3_placeRow = cX3_placeRow := rfl
theorem rX3_placeRow_0 {x0 : Int} {x1 : Int} {x2 : Int} {x3 : Int} {h : vH} : vrun mX3_placeRow 0 [(1, x0), (0, x1), (0, x2), (0, x3), (9, 0), (9, 0), (9, 0)] [] h = vrun mX3_placeRow 10 [(1, x0), (0, x1), (0, x2), (0, x3), (0, x3), (0, max x1 0), (9, 0)] [] h := by
  refine (rn_iload_n (pc := 0) (dd bX3_placeRow dX3_placeRow_0) rfl).trans ?_
  refine (rn_istore (pc := 1) (dd bX3_placeRow dX3_placeRow_1) (Nat.le_of_ble_eq_true rfl) rfl).trans ?_
  refine (rn_iload_n (pc := 3) (dd bX3_placeRow dX3_placeRow_3) rfl).trans ?_
  refine (rn_iconst (pc := 4) (dd bX3_placeRow dX3_placeRow_4) (by decide)).trans ?_
  refine (rg_max (pc := 5) (dd bX3_placeRow dX3_placeRow_5) rfl ⟨Nat.le_of_ble_eq_true rfl, Nat.le_of_ble_eq_true rfl, Nat.le_of_ble_eq_true rfl⟩).trans ?_
  refine (rn_istore (pc := 8) (dd bX3_placeRow dX3_placeRow_8) (Nat.le_of_ble_eq_true rfl) rfl).trans ?_
  rfl
theorem rX3_placeRow_10 {x0 : Int} {x1 : Int} {x2 : Int} {x3 : Int} {x4 : Int} {x5 : Int} {v6 : vv} {h : vH} (s1 : shLayout h x0) (p2 : ¬ (x2 ≤ x5) → ¬ (131 ≤ x5) → 0 ≤ x5) (p3 : ¬ (x2 ≤ x5) → ¬ (131 ≤ x5) → ¬ (h 2 (x0 + 8) x5 < 0) → ¬ (131 ≤ h 2 (x0 + 8) x5) → (-2147483648) ≤ x4 + h 2 (x0 + 5) (h 2 (x0 + 8) x5)) (p4 : ¬ (x2 ≤ x5) → ¬ (131 ≤ x5) → ¬ (h 2 (x0 + 8) x5 < 0) → ¬ (131 ≤ h 2 (x0 + 8) x5) → x4 + h 2 (x0 + 5) (h 2 (x0 + 8) x5) < 2147483648) : vrun mX3_placeRow 10 [(1, x0), (0, x1), (0, x2), (0, x3), (0, x4), (0, x5), v6] [] h = if x2 ≤ x5 then some (.inl none, h) else if 131 ≤ x5 then some (.inl none, h) else vrun mX3_placeRow 10 [(1, x0), (0, x1), (0, x2), (0, x3), (0, (if h 2 (x0 + 8) x5 < 0 then x4 else (if 131 ≤ h 2 (x0 + 8) x5 then x4 else x4 + h 2 (x0 + 5) (h 2 (x0 + 8) x5)))), (0, x5 + 1), (0, h 2 (x0 + 8) x5)] [] (if h 2 (x0 + 8) x5 < 0 then h else (if 131 ≤ h 2 (x0 + 8) x5 then h else vup h 2 (x0 + 6) (h 2 (x0 + 8) x5) x4)) := by
  refine (rn_iload (pc := 10) (dd bX3_placeRow dX3_placeRow_10) rfl).trans ?_
  refine (rn_iload_n (pc := 12) (dd bX3_placeRow dX3_placeRow_12) rfl).trans ?_
  refine (rn_icmp_ge (t := 73) (pc := 13) (dd bX3_placeRow dX3_placeRow_13) rfl).trans (itec (fun c1 => ?_) (fun c1 => ?_))
  · exact rn_return (pc := 73) (dd bX3_placeRow dX3_placeRow_73) rfl
  · refine (rn_iload (pc := 16) (dd bX3_placeRow dX3_placeRow_16) rfl).trans ?_
    refine (rn_sipush (pc := 18) (dd bX3_placeRow dX3_placeRow_18) (by decide)).trans ?_
    refine (rn_icmp_ge (t := 73) (pc := 21) (dd bX3_placeRow dX3_placeRow_21) rfl).trans (itec (fun c2 => ?_) (fun c2 => ?_))
    · exact rn_return (pc := 73) (dd bX3_placeRow dX3_placeRow_73) rfl
    · refine (rn_aload_n (pc := 24) (dd bX3_placeRow dX3_placeRow_24) rfl).trans ?_
      refine (rg_gf (pc := 25) (dd bX3_placeRow dX3_placeRow_25) (ci := 4) (j := 7) rfl rfl (key := 507) rfl (kc := 24) rfl s1.1 s1.2.2.2.2.2.2.2.2.2.2.2.2.2.2.2.2.2.2.2.2.2.2.1).trans ?_
      refine (rn_iload (pc := 28) (dd bX3_placeRow dX3_placeRow_28) rfl).trans ?_
      refine (rg_iaload (pc := 30) (dd bX3_placeRow dX3_placeRow_30) s1.2.2.2.2.2.2.2.2.2.2.2.2.2.2.2.2.2.2.2.2.2.2.2.1 s1.2.2.2.2.2.2.2.2.2.2.2.2.2.2.2.2.2.2.2.2.2.2.2.2.1 (p2 c1 c2) (Int.not_le.mp c2) rfl).trans ?_
      refine (rn_istore (pc := 31) (dd bX3_placeRow dX3_placeRow_31) (Nat.le_of_ble_eq_true rfl) rfl).trans ?_
      refine (rn_iload (pc := 33) (dd bX3_placeRow dX3_placeRow_33) rfl).trans ?_
      have e2 : vrun mX3_placeRow 35 [(1, x0), (0, x1), (0, x2), (0, x3), (0, x4), (0, x5), (0, h 2 (x0 + 8) x5)] [(0, h 2 (x0 + 8) x5)] h = vrun mX3_placeRow 67 [(1, x0), (0, x1), (0, x2), (0, x3), (0, (if h 2 (x0 + 8) x5 < 0 then x4 else (if 131 ≤ h 2 (x0 + 8) x5 then x4 else x4 + h 2 (x0 + 5) (h 2 (x0 + 8) x5)))), (0, x5), (0, h 2 (x0 + 8) x5)] [] (if h 2 (x0 + 8) x5 < 0 then h else (if 131 ≤ h 2 (x0 + 8) x5 then h else vup h 2 (x0 + 6) (h 2 (x0 + 8) x5) x4)) := by
        refine (rn_if_lt (t := 67) (pc := 35) (dd bX3_placeRow dX3_placeRow_35) rfl).trans ?_
        by_cases c3 : h 2 (x0 + 8) x5 < 0
        · refine (if_pos c3).trans ?_
          refine Eq.trans (b := vrun mX3_placeRow 67 [(1, x0), (0, x1), (0, x2), (0, x3), (0, x4), (0, x5), (0, h 2 (x0 + 8) x5)] [] h) rfl ?_
          simp only [if_pos c3]
        · refine (if_neg c3).trans ?_
          refine (rn_iload (pc := 38) (dd bX3_placeRow dX3_placeRow_38) rfl).trans ?_
          refine (rn_sipush (pc := 40) (dd bX3_placeRow dX3_placeRow_40) (by decide)).trans ?_
          have e1 : vrun mX3_placeRow 43 [(1, x0), (0, x1), (0, x2), (0, x3), (0, x4), (0, x5), (0, h 2 (x0 + 8) x5)] [(0, 131), (0, h 2 (x0 + 8) x5)] h = vrun mX3_placeRow 67 [(1, x0), (0, x1), (0, x2), (0, x3), (0, (if 131 ≤ h 2 (x0 + 8) x5 then x4 else x4 + h 2 (x0 + 5) (h 2 (x0 + 8) x5))), (0, x5), (0, h 2 (x0 + 8) x5)] [] (if 131 ≤ h 2 (x0 + 8) x5 then h else vup h 2 (x0 + 6) (h 2 (x0 + 8) x5) x4) := by
            refine (rn_icmp_ge (t := 67) (pc := 43) (dd bX3_placeRow dX3_placeRow_43) rfl).trans ?_
            by_cases c4 : 131 ≤ h 2 (x0 + 8) x5
            · refine (if_pos c4).trans ?_
              refine Eq.trans (b := vrun mX3_placeRow 67 [(1, x0), (0, x1), (0, x2), (0, x3), (0, x4), (0, x5), (0, h 2 (x0 + 8) x5)] [] h) rfl ?_
              simp only [if_pos c4]
            · refine (if_neg c4).trans ?_
              refine (rn_aload_n (pc := 46) (dd bX3_placeRow dX3_placeRow_46) rfl).trans ?_
              refine (rg_gf (pc := 47) (dd bX3_placeRow dX3_placeRow_47) (ci := 4) (j := 5) rfl rfl (key := 505) rfl (kc := 24) rfl s1.1 s1.2.2.2.2.2.2.2.2.2.2.2.2.2.2.2.2.1).trans ?_
              refine (rn_iload (pc := 50) (dd bX3_placeRow dX3_placeRow_50) rfl).trans ?_
              refine (rn_iload (pc := 52) (dd bX3_placeRow dX3_placeRow_52) rfl).trans ?_
              refine (rg_iastore (pc := 54) (dd bX3_placeRow dX3_placeRow_54) s1.2.2.2.2.2.2.2.2.2.2.2.2.2.2.2.2.2.1 s1.2.2.2.2.2.2.2.2.2.2.2.2.2.2.2.2.2.2.1 (Int.not_lt.mp c3) (Int.not_le.mp c4)).trans ?_
              refine (rn_iload (pc := 55) (dd bX3_placeRow dX3_placeRow_55) rfl).trans ?_
              refine (rn_aload_n (pc := 57) (dd bX3_placeRow dX3_placeRow_57) rfl).trans ?_
              refine (rg_gf (pc := 58) (dd bX3_placeRow dX3_placeRow_58) (ci := 4) (j := 4) rfl rfl (key := 504) rfl (kc := 24) rfl ((vup_k (by decide)).trans s1.1) ((vup_k (by decide)).trans s1.2.2.2.2.2.2.2.2.2.2.2.2.2.1)).trans ?_
              refine (rn_iload (pc := 61) (dd bX3_placeRow dX3_placeRow_61) rfl).trans ?_
              refine (rg_iaload (pc := 63) (dd bX3_placeRow dX3_placeRow_63) ((vup_k (by decide)).trans s1.2.2.2.2.2.2.2.2.2.2.2.2.2.2.1) ((vup_k (by decide)).trans s1.2.2.2.2.2.2.2.2.2.2.2.2.2.2.2.1) (Int.not_lt.mp c3) (Int.not_le.mp c4) ((vup_r (by omega)).trans rfl)).trans ?_
              refine (rg_iadd (pc := 64) (dd bX3_placeRow dX3_placeRow_64) (p3 c1 c2 c3 c4) (p4 c1 c2 c3 c4)).trans ?_
              refine (rn_istore (pc := 65) (dd bX3_placeRow dX3_placeRow_65) (Nat.le_of_ble_eq_true rfl) rfl).trans ?_
              refine Eq.trans (b := vrun mX3_placeRow 67 [(1, x0), (0, x1), (0, x2), (0, x3), (0, x4 + h 2 (x0 + 5) (h 2 (x0 + 8) x5)), (0, x5), (0, h 2 (x0 + 8) x5)] [] (vup h 2 (x0 + 6) (h 2 (x0 + 8) x5) x4)) rfl ?_
              simp only [if_neg c4]
          refine e1.trans ?_
          refine Eq.trans (b := vrun mX3_placeRow 67 [(1, x0), (0, x1), (0, x2), (0, x3), (0, (if 131 ≤ h 2 (x0 + 8) x5 then x4 else x4 + h 2 (x0 + 5) (h 2 (x0 + 8) x5))), (0, x5), (0, h 2 (x0 + 8) x5)] [] (if 131 ≤ h 2 (x0 + 8) x5 then h else vup h 2 (x0 + 6) (h 2 (x0 + 8) x5) x4)) rfl ?_
          simp only [if_neg c3]
      refine e2.trans ?_
      refine (rg_iinc (pc := 67) (dd bX3_placeRow dX3_placeRow_67) rfl (Nat.le_of_ble_eq_true rfl) (by have z0 := p2 c1 c2; omega) (by have z0 := p2 c1 c2; omega) rfl).trans ?_
      refine (rn_goto (t := 10) (pc := 70) (dd bX3_placeRow dX3_placeRow_70) rfl).trans ?_
      rfl
theorem bX3_turnRows : vmB mX3_turnRows = cX3_turnRows := rfl
theorem rX3_turnRows_0 {x0 : Int} {h : vH} : vrun mX3_turnRows 0 [(1, x0), (9, 0), (9, 0), (9, 0)] [] h = vrun mX3_turnRows 2 [(1, x0), (0, 0), (9, 0), (9, 0)] [] h := by
  refine (rn_iconst (pc := 0) (dd bX3_turnRows dX3_turnRows_0) (by decide)).trans ?_
  refine (rn_istore_n (pc := 1) (dd bX3_turnRows dX3_turnRows_1) (Nat.le_of_ble_eq_true rfl) rfl).trans ?_
  rfl
theorem rX3_turnRows_2 {x0 : Int} {x1 : Int} {v2 : vv} {v3 : vv} {h : vH} (s1 : shLayout h x0) (p2 : ¬ (h 510 x0 0 ≤ x1) → (-2147483648) ≤ x1 + 1) (p3 : ¬ (h 510 x0 0 ≤ x1) → x1 + 1 < 2147483648) : vrun mX3_turnRows 2 [(1, x0), (0, x1), v2, v3] [] h = if h 510 x0 0 ≤ x1 then some (.inl none, h) else vret vrun mX3_turnRows 33 [(1, x0), (0, x1), (0, fX3_startOf h x0 x1), (0, min (fX3_startOf h x0 (x1 + 1)) 131)] [] (vcl mX3_levelEnd [(1, x0), (0, fX3_startOf h x0 x1), (0, min (fX3_startOf h x0 (x1 + 1)) 131)] h) := by
  refine (rn_iload_n (pc := 2) (dd bX3_turnRows dX3_turnRows_2) rfl).trans ?_
  refine (rn_aload_n (pc := 3) (dd bX3_turnRows dX3_turnRows_3) rfl).trans ?_
  refine (rg_gf (pc := 4) (dd bX3_turnRows dX3_turnRows_4) (ci := 4) (j := 10) rfl rfl (key := 510) rfl (kc := 24) rfl s1.1 rfl).trans ?_
  refine (rn_icmp_ge (t := 59) (pc := 7) (dd bX3_turnRows dX3_turnRows_7) rfl).trans (itec (fun c1 => ?_) (fun c1 => ?_))
  · exact rn_return (pc := 59) (dd bX3_turnRows dX3_turnRows_59) rfl
  · refine (rn_aload_n (pc := 10) (dd bX3_turnRows dX3_turnRows_10) rfl).trans ?_
    refine (rn_iload_n (pc := 11) (dd bX3_turnRows dX3_turnRows_11) rfl).trans ?_
    refine (rg_virtual (pc := 12) (dd bX3_turnRows dX3_turnRows_12) rfl rfl (by decide) (kc := 24) rfl s1.1 (as := [(1, x0), (0, x1)]) rfl ⟨Nat.le_of_ble_eq_true rfl, Nat.le_of_ble_eq_true rfl, Nat.le_of_ble_eq_true rfl, Nat.le_of_ble_eq_true rfl⟩).trans ?_
    refine (vret_v (spX3_startOf s1)).trans ?_
    refine (rn_istore_n (pc := 15) (dd bX3_turnRows dX3_turnRows_15) (Nat.le_of_ble_eq_true rfl) rfl).trans ?_
    refine (rn_aload_n (pc := 16) (dd bX3_turnRows dX3_turnRows_16) rfl).trans ?_
    refine (rn_iload_n (pc := 17) (dd bX3_turnRows dX3_turnRows_17) rfl).trans ?_
    refine (rn_iconst (pc := 18) (dd bX3_turnRows dX3_turnRows_18) (by decide)).trans ?_
    refine (rg_iadd (pc := 19) (dd bX3_turnRows dX3_turnRows_19) (p2 c1) (p3 c1)).trans ?_
    refine (rg_virtual (pc := 20) (dd bX3_turnRows dX3_turnRows_20) rfl rfl (by decide) (kc := 24) rfl s1.1 (as := [(1, x0), (0, x1 + 1)]) rfl ⟨Nat.le_of_ble_eq_true rfl, Nat.le_of_ble_eq_true rfl, Nat.le_of_ble_eq_true rfl, Nat.le_of_ble_eq_true rfl⟩).trans ?_
    refine (vret_v (spX3_startOf s1)).trans ?_
    refine (rn_sipush (pc := 23) (dd bX3_turnRows dX3_turnRows_23) (by decide)).trans ?_
    refine (rg_min (pc := 26) (dd bX3_turnRows dX3_turnRows_26) rfl ⟨Nat.le_of_ble_eq_true rfl, Nat.le_of_ble_eq_true rfl, Nat.le_of_ble_eq_true rfl⟩).trans ?_
    refine (rn_istore_n (pc := 29) (dd bX3_turnRows dX3_turnRows_29) (Nat.le_of_ble_eq_true rfl) rfl).trans ?_
    refine (rn_aload_n (pc := 30) (dd bX3_turnRows dX3_turnRows_30) rfl).trans ?_
    refine (rn_iload_n (pc := 31) (dd bX3_turnRows dX3_turnRows_31) rfl).trans ?_
    refine (rn_iload_n (pc := 32) (dd bX3_turnRows dX3_turnRows_32) rfl).trans ?_
    exact rg_virtual (pc := 33) (dd bX3_turnRows dX3_turnRows_33) rfl rfl (by decide) (kc := 24) rfl s1.1 (as := [(1, x0), (0, fX3_startOf h x0 x1), (0, min (fX3_startOf h x0 (x1 + 1)) 131)]) rfl ⟨Nat.le_of_ble_eq_true rfl, Nat.le_of_ble_eq_true rfl, Nat.le_of_ble_eq_true rfl, Nat.le_of_ble_eq_true rfl⟩
theorem rX3_turnRows_36 {x0 : Int} {x1 : Int} {x2 : Int} {x3 : Int} {h : vH} (s1 : shLayout h x0) : vrun mX3_turnRows 36 [(1, x0), (0, x1), (0, x2), (0, x3)] [] h = vret vrun mX3_turnRows 39 [(1, x0), (0, x1), (0, x2), (0, x3)] [] (vcl mX3_orderRow [(1, x0), (0, x2), (0, x3)] h) := by
  refine (rn_aload_n (pc := 36) (dd bX3_turnRows dX3_turnRows_36) rfl).trans ?_
  refine (rn_iload_n (pc := 37) (dd bX3_turnRows dX3_turnRows_37) rfl).trans ?_
  refine (rn_iload_n (pc := 38) (dd bX3_turnRows dX3_turnRows_38) rfl).trans ?_
  exact rg_virtual (pc := 39) (dd bX3_turnRows dX3_turnRows_39) rfl rfl (by decide) (kc := 24) rfl s1.1 (as := [(1, x0), (0, x2), (0, x3)]) rfl ⟨Nat.le_of_ble_eq_true rfl, Nat.le_of_ble_eq_true rfl, Nat.le_of_ble_eq_true rfl, Nat.le_of_ble_eq_true rfl⟩
theorem rX3_turnRows_42 {x0 : Int} {x1 : Int} {x2 : Int} {x3 : Int} {h : vH} (s1 : shLayout h x0) : vrun mX3_turnRows 42 [(1, x0), (0, x1), (0, x2), (0, x3)] [] h = vret vrun mX3_turnRows 50 [(1, x0), (0, x1), (0, x2), (0, x3)] [] (vcl mX3_placeRow [(1, x0), (0, x2), (0, x3), (0, (if x1 = 0 then 0 else h 513 x0 0))] h) := by
  refine (rn_aload_n (pc := 42) (dd bX3_turnRows dX3_turnRows_42) rfl).trans ?_
  refine (rn_iload_n (pc := 43) (dd bX3_turnRows dX3_turnRows_43) rfl).trans ?_
  refine (rn_iload_n (pc := 44) (dd bX3_turnRows dX3_turnRows_44) rfl).trans ?_
  refine (rn_aload_n (pc := 45) (dd bX3_turnRows dX3_turnRows_45) rfl).trans ?_
  refine (rn_iload_n (pc := 46) (dd bX3_turnRows dX3_turnRows_46) rfl).trans ?_
  refine (rg_virtual (pc := 47) (dd bX3_turnRows dX3_turnRows_47) rfl rfl (by decide) (kc := 24) rfl s1.1 (as := [(1, x0), (0, x1)]) rfl ⟨Nat.le_of_ble_eq_true rfl, Nat.le_of_ble_eq_true rfl, Nat.le_of_ble_eq_true rfl, Nat.le_of_ble_eq_true rfl⟩).trans ?_
  refine (vret_v (spX3_firstColumn s1)).trans ?_
  exact rg_virtual (pc := 50) (dd bX3_turnRows dX3_turnRows_50) rfl rfl (by decide) (kc := 24) rfl s1.1 (as := [(1, x0), (0, x2), (0, x3), (0, (if x1 = 0 then 0 else h 513 x0 0))]) rfl ⟨Nat.le_of_ble_eq_true rfl, Nat.le_of_ble_eq_true rfl, Nat.le_of_ble_eq_true rfl, Nat.le_of_ble_eq_true rfl⟩
theorem rX3_turnRows_53 {x0 : Int} {x1 : Int} {x2 : Int} {x3 : Int} {h : vH} (p1 : (-2147483648) ≤ x1 + 1) (p2 : x1 + 1 < 2147483648) : vrun mX3_turnRows 53 [(1, x0), (0, x1), (0, x2), (0, x3)] [] h = vrun mX3_turnRows 2 [(1, x0), (0, x1 + 1), (0, x2), (0, x3)] [] h := by
  refine (rg_iinc (pc := 53) (dd bX3_turnRows dX3_turnRows_53) rfl (Nat.le_of_ble_eq_true rfl) p1 p2 rfl).trans ?_
  refine (rn_goto (t := 2) (pc := 56) (dd bX3_turnRows dX3_turnRows_56) rfl).trans ?_
  rfl
theorem bX3_onScreen : vmB mX3_onScreen = cX3_onScreen := rfl
theorem rX3_onScreen_0 {x0 : Int} {x1 : Int} {x2 : Int} {h : vH} (s1 : shLayout h x0) (p2 : (-2147483648) ≤ fX3_startOf h x0 x1 + x2) (p3 : fX3_startOf h x0 x1 + x2 < 2147483648) (p4 : ¬ (x2 < 0) → (-2147483648) ≤ x1 + 1) (p5 : ¬ (x2 < 0) → x1 + 1 < 2147483648) (p6 : ¬ (x2 < 0) → (-2147483648) ≤ fX3_startOf h x0 (x1 + 1) - fX3_startOf h x0 x1) (p7 : ¬ (x2 < 0) → fX3_startOf h x0 (x1 + 1) - fX3_startOf h x0 x1 < 2147483648) : vrun mX3_onScreen 0 [(1, x0), (0, x1), (0, x2), (9, 0)] [] h = some (.inl (some (0, (if x2 < 0 then (-1) else (if fX3_cellsIn h x0 x1 ≤ x2 then (-1) else (if fX3_startOf h x0 x1 + x2 < 0 then (-1) else (if 131 ≤ fX3_startOf h x0 x1 + x2 then (-1) else h 2 (x0 + 8) (fX3_startOf h x0 x1 + x2))))))), h) := by
  refine (rn_aload_n (pc := 0) (dd bX3_onScreen dX3_onScreen_0) rfl).trans ?_
  refine (rn_iload_n (pc := 1) (dd bX3_onScreen dX3_onScreen_1) rfl).trans ?_
  refine (rg_virtual (pc := 2) (dd bX3_onScreen dX3_onScreen_2) rfl rfl (by decide) (kc := 24) rfl s1.1 (as := [(1, x0), (0, x1)]) rfl ⟨Nat.le_of_ble_eq_true rfl, Nat.le_of_ble_eq_true rfl, Nat.le_of_ble_eq_true rfl, Nat.le_of_ble_eq_true rfl⟩).trans ?_
  refine (vret_v (spX3_startOf s1)).trans ?_
  refine (rn_iload_n (pc := 5) (dd bX3_onScreen dX3_onScreen_5) rfl).trans ?_
  refine (rg_iadd (pc := 6) (dd bX3_onScreen dX3_onScreen_6) p2 p3).trans ?_
  refine (rn_istore_n (pc := 7) (dd bX3_onScreen dX3_onScreen_7) (Nat.le_of_ble_eq_true rfl) rfl).trans ?_
  refine (rn_iload_n (pc := 8) (dd bX3_onScreen dX3_onScreen_8) rfl).trans ?_
  have e4 : vrun mX3_onScreen 9 [(1, x0), (0, x1), (0, x2), (0, fX3_startOf h x0 x1 + x2)] [(0, x2)] h = vrun mX3_onScreen 42 [(1, x0), (0, x1), (0, x2), (0, fX3_startOf h x0 x1 + x2)] [(0, (if x2 < 0 then (-1) else (if fX3_cellsIn h x0 x1 ≤ x2 then (-1) else (if fX3_startOf h x0 x1 + x2 < 0 then (-1) else (if 131 ≤ fX3_startOf h x0 x1 + x2 then (-1) else h 2 (x0 + 8) (fX3_startOf h x0 x1 + x2))))))] h := by
    refine (rn_if_lt (t := 41) (pc := 9) (dd bX3_onScreen dX3_onScreen_9) rfl).trans ?_
    by_cases c1 : x2 < 0
    · refine (if_pos c1).trans ?_
      refine (rn_iconst (pc := 41) (dd bX3_onScreen dX3_onScreen_41) (by decide)).trans ?_
      refine Eq.trans (b := vrun mX3_onScreen 42 [(1, x0), (0, x1), (0, x2), (0, fX3_startOf h x0 x1 + x2)] [(0, (-1))] h) rfl ?_
      simp only [if_pos c1]
    · refine (if_neg c1).trans ?_
      refine (rn_iload_n (pc := 12) (dd bX3_onScreen dX3_onScreen_12) rfl).trans ?_
      refine (rn_aload_n (pc := 13) (dd bX3_onScreen dX3_onScreen_13) rfl).trans ?_
      refine (rn_iload_n (pc := 14) (dd bX3_onScreen dX3_onScreen_14) rfl).trans ?_
      refine (rg_virtual (pc := 15) (dd bX3_onScreen dX3_onScreen_15) rfl rfl (by decide) (kc := 24) rfl s1.1 (as := [(1, x0), (0, x1)]) rfl ⟨Nat.le_of_ble_eq_true rfl, Nat.le_of_ble_eq_true rfl, Nat.le_of_ble_eq_true rfl, Nat.le_of_ble_eq_true rfl⟩).trans ?_
      refine (vret_v (spX3_cellsIn (p4 c1) (p5 c1) s1 (p6 c1) (p7 c1))).trans ?_
      have e3 : vrun mX3_onScreen 18 [(1, x0), (0, x1), (0, x2), (0, fX3_startOf h x0 x1 + x2)] [(0, fX3_cellsIn h x0 x1), (0, x2)] h = vrun mX3_onScreen 42 [(1, x0), (0, x1), (0, x2), (0, fX3_startOf h x0 x1 + x2)] [(0, (if fX3_cellsIn h x0 x1 ≤ x2 then (-1) else (if fX3_startOf h x0 x1 + x2 < 0 then (-1) else (if 131 ≤ fX3_startOf h x0 x1 + x2 then (-1) else h 2 (x0 + 8) (fX3_startOf h x0 x1 + x2)))))] h := by
        refine (rn_icmp_ge (t := 41) (pc := 18) (dd bX3_onScreen dX3_onScreen_18) rfl).trans ?_
        by_cases c2 : fX3_cellsIn h x0 x1 ≤ x2
        · refine (if_pos c2).trans ?_
          refine (rn_iconst (pc := 41) (dd bX3_onScreen dX3_onScreen_41) (by decide)).trans ?_
          refine Eq.trans (b := vrun mX3_onScreen 42 [(1, x0), (0, x1), (0, x2), (0, fX3_startOf h x0 x1 + x2)] [(0, (-1))] h) rfl ?_
          simp only [if_pos c2]
        · refine (if_neg c2).trans ?_
          refine (rn_iload_n (pc := 21) (dd bX3_onScreen dX3_onScreen_21) rfl).trans ?_
          have e2 : vrun mX3_onScreen 22 [(1, x0), (0, x1), (0, x2), (0, fX3_startOf h x0 x1 + x2)] [(0, fX3_startOf h x0 x1 + x2)] h = vrun mX3_onScreen 42 [(1, x0), (0, x1), (0, x2), (0, fX3_startOf h x0 x1 + x2)] [(0, (if fX3_startOf h x0 x1 + x2 < 0 then (-1) else (if 131 ≤ fX3_startOf h x0 x1 + x2 then (-1) else h 2 (x0 + 8) (fX3_startOf h x0 x1 + x2))))] h := by
            refine (rn_if_lt (t := 41) (pc := 22) (dd bX3_onScreen dX3_onScreen_22) rfl).trans ?_
            by_cases c3 : fX3_startOf h x0 x1 + x2 < 0
            · refine (if_pos c3).trans ?_
              refine (rn_iconst (pc := 41) (dd bX3_onScreen dX3_onScreen_41) (by decide)).trans ?_
              refine Eq.trans (b := vrun mX3_onScreen 42 [(1, x0), (0, x1), (0, x2), (0, fX3_startOf h x0 x1 + x2)] [(0, (-1))] h) rfl ?_
              simp only [if_pos c3]
            · refine (if_neg c3).trans ?_
              refine (rn_iload_n (pc := 25) (dd bX3_onScreen dX3_onScreen_25) rfl).trans ?_
              refine (rn_sipush (pc := 26) (dd bX3_onScreen dX3_onScreen_26) (by decide)).trans ?_
              have e1 : vrun mX3_onScreen 29 [(1, x0), (0, x1), (0, x2), (0, fX3_startOf h x0 x1 + x2)] [(0, 131), (0, fX3_startOf h x0 x1 + x2)] h = vrun mX3_onScreen 42 [(1, x0), (0, x1), (0, x2), (0, fX3_startOf h x0 x1 + x2)] [(0, (if 131 ≤ fX3_startOf h x0 x1 + x2 then (-1) else h 2 (x0 + 8) (fX3_startOf h x0 x1 + x2)))] h := by
                refine (rn_icmp_ge (t := 41) (pc := 29) (dd bX3_onScreen dX3_onScreen_29) rfl).trans ?_
                by_cases c4 : 131 ≤ fX3_startOf h x0 x1 + x2
                · refine (if_pos c4).trans ?_
                  refine (rn_iconst (pc := 41) (dd bX3_onScreen dX3_onScreen_41) (by decide)).trans ?_
                  refine Eq.trans (b := vrun mX3_onScreen 42 [(1, x0), (0, x1), (0, x2), (0, fX3_startOf h x0 x1 + x2)] [(0, (-1))] h) rfl ?_
                  simp only [if_pos c4]
                · refine (if_neg c4).trans ?_
                  refine (rn_aload_n (pc := 32) (dd bX3_onScreen dX3_onScreen_32) rfl).trans ?_
                  refine (rg_gf (pc := 33) (dd bX3_onScreen dX3_onScreen_33) (ci := 4) (j := 7) rfl rfl (key := 507) rfl (kc := 24) rfl s1.1 s1.2.2.2.2.2.2.2.2.2.2.2.2.2.2.2.2.2.2.2.2.2.2.1).trans ?_
                  refine (rn_iload_n (pc := 36) (dd bX3_onScreen dX3_onScreen_36) rfl).trans ?_
                  refine (rg_iaload (pc := 37) (dd bX3_onScreen dX3_onScreen_37) s1.2.2.2.2.2.2.2.2.2.2.2.2.2.2.2.2.2.2.2.2.2.2.2.1 s1.2.2.2.2.2.2.2.2.2.2.2.2.2.2.2.2.2.2.2.2.2.2.2.2.1 (Int.not_lt.mp c3) (Int.not_le.mp c4) rfl).trans ?_
                  refine (rn_goto (t := 42) (pc := 38) (dd bX3_onScreen dX3_onScreen_38) rfl).trans ?_
                  refine Eq.trans (b := vrun mX3_onScreen 42 [(1, x0), (0, x1), (0, x2), (0, fX3_startOf h x0 x1 + x2)] [(0, h 2 (x0 + 8) (fX3_startOf h x0 x1 + x2))] h) rfl ?_
                  simp only [if_neg c4]
              refine e1.trans ?_
              refine Eq.trans (b := vrun mX3_onScreen 42 [(1, x0), (0, x1), (0, x2), (0, fX3_startOf h x0 x1 + x2)] [(0, (if 131 ≤ fX3_startOf h x0 x1 + x2 then (-1) else h 2 (x0 + 8) (fX3_startOf h x0 x1 + x2)))] h) rfl ?_
              simp only [if_neg c3]
          refine e2.trans ?_
          refine Eq.trans (b := vrun mX3_onScreen 42 [(1, x0), (0, x1), (0, x2), (0, fX3_startOf h x0 x1 + x2)] [(0, (if fX3_startOf h x0 x1 + x2 < 0 then (-1) else (if 131 ≤ fX3_startOf h x0 x1 + x2 then (-1) else h 2 (x0 + 8) (fX3_startOf h x0 x1 + x2))))] h) rfl ?_
          simp only [if_neg c2]
      refine e3.trans ?_
      refine Eq.trans (b := vrun mX3_onScreen 42 [(1, x0), (0, x1), (0, x2), (0, fX3_startOf h x0 x1 + x2)] [(0, (if fX3_cellsIn h x0 x1 ≤ x2 then (-1) else (if fX3_startOf h x0 x1 + x2 < 0 then (-1) else (if 131 ≤ fX3_startOf h x0 x1 + x2 then (-1) else h 2 (x0 + 8) (fX3_startOf h x0 x1 + x2)))))] h) rfl ?_
      simp only [if_neg c1]
  refine e4.trans ?_
  exact rn_ireturn (pc := 42) (dd bX3_onScreen dX3_onScreen_42) (Or.inl rfl)
def fX3_onScreen (h : vH) (x0 : Int) (x1 : Int) (x2 : Int) : Int := (if x2 < 0 then (-1) else (if fX3_cellsIn h x0 x1 ≤ x2 then (-1) else (if fX3_startOf h x0 x1 + x2 < 0 then (-1) else (if 131 ≤ fX3_startOf h x0 x1 + x2 then (-1) else h 2 (x0 + 8) (fX3_startOf h x0 x1 + x2)))))
theorem spX3_onScreen {x0 : Int} {x1 : Int} {x2 : Int} {h : vH} (s1 : shLayout h x0) (p2 : (-2147483648) ≤ fX3_startOf h x0 x1 + x2) (p3 : fX3_startOf h x0 x1 + x2 < 2147483648) (p4 : ¬ (x2 < 0) → (-2147483648) ≤ x1 + 1) (p5 : ¬ (x2 < 0) → x1 + 1 < 2147483648) (p6 : ¬ (x2 < 0) → (-2147483648) ≤ fX3_startOf h x0 (x1 + 1) - fX3_startOf h x0 x1) (p7 : ¬ (x2 < 0) → fX3_startOf h x0 (x1 + 1) - fX3_startOf h x0 x1 < 2147483648) : vcl mX3_onScreen [(1, x0), (0, x1), (0, x2)] h = some (.inl (some (0, fX3_onScreen h x0 x1 x2)), h) := by
  refine (show _ = _ from rX3_onScreen_0 s1 p2 p3 p4 p5 p6 p7).trans ?_
  rfl
theorem bX3_tell : vmB mX3_tell = cX3_tell := rfl
theorem rX3_tell_0 {x0 : Int} {x1 : Int} {x2 : Int} {h : vH} (s1 : shLayout h x0) : vrun mX3_tell 0 [(1, x0), (0, x1), (0, x2)] [] h = if x1 < 0 then some (.inl (some (0, (-1))), h) else if x1 < 131 then if x2 = 0 then some (.inl (some (0, h 2 (x0 + 1) x1)), h) else if x2 = 1 then some (.inl (some (0, h 2 (x0 + 2) x1)), h) else if x2 = 2 then some (.inl (some (0, h 2 (x0 + 6) x1)), h) else if x2 = 3 then some (.inl (some (0, h 2 (x0 + 5) x1)), h) else if x2 = 4 then some (.inl (some (0, h 2 (x0 + 7) x1)), h) else some (.inl (some (0, h 2 (x0 + 3) x1)), h) else some (.inl (some (0, (-1))), h) := by
  refine (rn_iload_n (pc := 0) (dd bX3_tell dX3_tell_0) rfl).trans ?_
  refine (rn_if_lt (t := 11) (pc := 1) (dd bX3_tell dX3_tell_1) rfl).trans (itec (fun c1 => ?_) (fun c1 => ?_))
  · refine (rn_iconst (pc := 11) (dd bX3_tell dX3_tell_11) (by decide)).trans ?_
    exact rn_ireturn (pc := 12) (dd bX3_tell dX3_tell_12) (Or.inl rfl)
  · refine (rn_iload_n (pc := 4) (dd bX3_tell dX3_tell_4) rfl).trans ?_
    refine (rn_sipush (pc := 5) (dd bX3_tell dX3_tell_5) (by decide)).trans ?_
    refine (rn_icmp_lt (t := 13) (pc := 8) (dd bX3_tell dX3_tell_8) rfl).trans (itec (fun c2 => ?_) (fun c2 => ?_))
    · refine (rn_iload_n (pc := 13) (dd bX3_tell dX3_tell_13) rfl).trans ?_
      refine itex (c := x2 = 0) (fun c3 => ?_) (fun c3 => ?_)
      · refine (rn_table (off := 34) (t := 48) (pc := 14) (dd bX3_tell dX3_tell_14) (by omega) (by rw [c3]; rfl) rfl).trans ?_
        refine (rn_aload_n (pc := 48) (dd bX3_tell dX3_tell_48) rfl).trans ?_
        refine (rg_gf (pc := 49) (dd bX3_tell dX3_tell_49) (ci := 4) (j := 0) rfl rfl (key := 500) rfl (kc := 24) rfl s1.1 s1.2.1).trans ?_
        refine (rn_iload_n (pc := 52) (dd bX3_tell dX3_tell_52) rfl).trans ?_
        refine (rg_iaload (pc := 53) (dd bX3_tell dX3_tell_53) s1.2.2.1 s1.2.2.2.1 (Int.not_lt.mp c1) c2 rfl).trans ?_
        exact rn_ireturn (pc := 54) (dd bX3_tell dX3_tell_54) (Or.inl rfl)
      · refine itex (c := x2 = 1) (fun c4 => ?_) (fun c4 => ?_)
        · refine (rn_table (off := 41) (t := 55) (pc := 14) (dd bX3_tell dX3_tell_14) (by omega) (by rw [c4]; rfl) rfl).trans ?_
          refine (rn_aload_n (pc := 55) (dd bX3_tell dX3_tell_55) rfl).trans ?_
          refine (rg_gf (pc := 56) (dd bX3_tell dX3_tell_56) (ci := 4) (j := 1) rfl rfl (key := 501) rfl (kc := 24) rfl s1.1 s1.2.2.2.2.1).trans ?_
          refine (rn_iload_n (pc := 59) (dd bX3_tell dX3_tell_59) rfl).trans ?_
          refine (rg_iaload (pc := 60) (dd bX3_tell dX3_tell_60) s1.2.2.2.2.2.1 s1.2.2.2.2.2.2.1 (Int.not_lt.mp c1) c2 rfl).trans ?_
          exact rn_ireturn (pc := 61) (dd bX3_tell dX3_tell_61) (Or.inl rfl)
        · refine itex (c := x2 = 2) (fun c5 => ?_) (fun c5 => ?_)
          · refine (rn_table (off := 48) (t := 62) (pc := 14) (dd bX3_tell dX3_tell_14) (by omega) (by rw [c5]; rfl) rfl).trans ?_
            refine (rn_aload_n (pc := 62) (dd bX3_tell dX3_tell_62) rfl).trans ?_
            refine (rg_gf (pc := 63) (dd bX3_tell dX3_tell_63) (ci := 4) (j := 5) rfl rfl (key := 505) rfl (kc := 24) rfl s1.1 s1.2.2.2.2.2.2.2.2.2.2.2.2.2.2.2.2.1).trans ?_
            refine (rn_iload_n (pc := 66) (dd bX3_tell dX3_tell_66) rfl).trans ?_
            refine (rg_iaload (pc := 67) (dd bX3_tell dX3_tell_67) s1.2.2.2.2.2.2.2.2.2.2.2.2.2.2.2.2.2.1 s1.2.2.2.2.2.2.2.2.2.2.2.2.2.2.2.2.2.2.1 (Int.not_lt.mp c1) c2 rfl).trans ?_
            exact rn_ireturn (pc := 68) (dd bX3_tell dX3_tell_68) (Or.inl rfl)
          · refine itex (c := x2 = 3) (fun c6 => ?_) (fun c6 => ?_)
            · refine (rn_table (off := 55) (t := 69) (pc := 14) (dd bX3_tell dX3_tell_14) (by omega) (by rw [c6]; rfl) rfl).trans ?_
              refine (rn_aload_n (pc := 69) (dd bX3_tell dX3_tell_69) rfl).trans ?_
              refine (rg_gf (pc := 70) (dd bX3_tell dX3_tell_70) (ci := 4) (j := 4) rfl rfl (key := 504) rfl (kc := 24) rfl s1.1 s1.2.2.2.2.2.2.2.2.2.2.2.2.2.1).trans ?_
              refine (rn_iload_n (pc := 73) (dd bX3_tell dX3_tell_73) rfl).trans ?_
              refine (rg_iaload (pc := 74) (dd bX3_tell dX3_tell_74) s1.2.2.2.2.2.2.2.2.2.2.2.2.2.2.1 s1.2.2.2.2.2.2.2.2.2.2.2.2.2.2.2.1 (Int.not_lt.mp c1) c2 rfl).trans ?_
              exact rn_ireturn (pc := 75) (dd bX3_tell dX3_tell_75) (Or.inl rfl)
            · refine itex (c := x2 = 4) (fun c7 => ?_) (fun c7 => ?_)
              · refine (rn_table (off := 62) (t := 76) (pc := 14) (dd bX3_tell dX3_tell_14) (by omega) (by rw [c7]; rfl) rfl).trans ?_
                refine (rn_aload_n (pc := 76) (dd bX3_tell dX3_tell_76) rfl).trans ?_
                refine (rg_gf (pc := 77) (dd bX3_tell dX3_tell_77) (ci := 4) (j := 6) rfl rfl (key := 506) rfl (kc := 24) rfl s1.1 s1.2.2.2.2.2.2.2.2.2.2.2.2.2.2.2.2.2.2.2.1).trans ?_
                refine (rn_iload_n (pc := 80) (dd bX3_tell dX3_tell_80) rfl).trans ?_
                refine (rg_iaload (pc := 81) (dd bX3_tell dX3_tell_81) s1.2.2.2.2.2.2.2.2.2.2.2.2.2.2.2.2.2.2.2.2.1 s1.2.2.2.2.2.2.2.2.2.2.2.2.2.2.2.2.2.2.2.2.2.1 (Int.not_lt.mp c1) c2 rfl).trans ?_
                exact rn_ireturn (pc := 82) (dd bX3_tell dX3_tell_82) (Or.inl rfl)
              · refine (rn_tableD (t := 83) (pc := 14) (dd bX3_tell dX3_tell_14) (by omega) rfl).trans ?_
                refine (rn_aload_n (pc := 83) (dd bX3_tell dX3_tell_83) rfl).trans ?_
                refine (rg_gf (pc := 84) (dd bX3_tell dX3_tell_84) (ci := 4) (j := 2) rfl rfl (key := 502) rfl (kc := 24) rfl s1.1 s1.2.2.2.2.2.2.2.1).trans ?_
                refine (rn_iload_n (pc := 87) (dd bX3_tell dX3_tell_87) rfl).trans ?_
                refine (rg_iaload (pc := 88) (dd bX3_tell dX3_tell_88) s1.2.2.2.2.2.2.2.2.1 s1.2.2.2.2.2.2.2.2.2.1 (Int.not_lt.mp c1) c2 rfl).trans ?_
                exact rn_ireturn (pc := 89) (dd bX3_tell dX3_tell_89) (Or.inl rfl)
    · refine (rn_iconst (pc := 11) (dd bX3_tell dX3_tell_11) (by decide)).trans ?_
      exact rn_ireturn (pc := 12) (dd bX3_tell dX3_tell_12) (Or.inl rfl)
def fX3_tell (h : vH) (x0 : Int) (x1 : Int) (x2 : Int) : Int := (if x1 < 0 then (-1) else (if x1 < 131 then (if x2 = 0 then h 2 (x0 + 1) x1 else (if x2 = 1 then h 2 (x0 + 2) x1 else (if x2 = 2 then h 2 (x0 + 6) x1 else (if x2 = 3 then h 2 (x0 + 5) x1 else (if x2 = 4 then h 2 (x0 + 7) x1 else h 2 (x0 + 3) x1))))) else (-1)))
theorem spX3_tell {x0 : Int} {x1 : Int} {x2 : Int} {h : vH} (s1 : shLayout h x0) : vcl mX3_tell [(1, x0), (0, x1), (0, x2)] h = some (.inl (some (0, fX3_tell h x0 x1 x2)), h) := by
  refine (show _ = _ from rX3_tell_0 s1).trans ?_
  simp only [ret_ite]
  rfl
theorem bX3_edgeAt : vmB mX3_edgeAt = cX3_edgeAt := rfl
theorem rX3_edgeAt_0 {x0 : Int} {x1 : Int} {x2 : Int} {h : vH} : vrun mX3_edgeAt 0 [(1, x0), (0, x1), (0, x2), (9, 0), (9, 0), (9, 0), (9, 0), (9, 0), (9, 0)] [] h = vrun mX3_edgeAt 11 [(1, x0), (0, x1), (0, x2), (0, (-1)), (0, (-1)), (0, (-1)), (0, 0), (9, 0), (9, 0)] [] h := by
  refine (rn_iconst (pc := 0) (dd bX3_edgeAt dX3_edgeAt_0) (by decide)).trans ?_
  refine (rn_istore_n (pc := 1) (dd bX3_edgeAt dX3_edgeAt_1) (Nat.le_of_ble_eq_true rfl) rfl).trans ?_
  refine (rn_iconst (pc := 2) (dd bX3_edgeAt dX3_edgeAt_2) (by decide)).trans ?_
  refine (rn_istore (pc := 3) (dd bX3_edgeAt dX3_edgeAt_3) (Nat.le_of_ble_eq_true rfl) rfl).trans ?_
  refine (rn_iconst (pc := 5) (dd bX3_edgeAt dX3_edgeAt_5) (by decide)).trans ?_
  refine (rn_istore (pc := 6) (dd bX3_edgeAt dX3_edgeAt_6) (Nat.le_of_ble_eq_true rfl) rfl).trans ?_
  refine (rn_iconst (pc := 8) (dd bX3_edgeAt dX3_edgeAt_8) (by decide)).trans ?_
  refine (rn_istore (pc := 9) (dd bX3_edgeAt dX3_edgeAt_9) (Nat.le_of_ble_eq_true rfl) rfl).trans ?_
  rfl
theorem rX3_edgeAt_11 {x0 : Int} {x1 : Int} {x2 : Int} {x3 : Int} {x4 : Int} {x5 : Int} {x6 : Int} {v7 : vv} {v8 : vv} {h : vH} (s1 : shLayout h x0) (p2 : h 509 x0 0 ≤ x6 → ¬ (x3 = (-1)) → x2 = 0 → x5 = (-1) → (-2147483648) ≤ 2 * x4) (p3 : h 509 x0 0 ≤ x6 → ¬ (x3 = (-1)) → x2 = 0 → x5 = (-1) → 2 * x4 < 2147483648) (p4 : h 509 x0 0 ≤ x6 → ¬ (x3 = (-1)) → x2 = 0 → x5 = (-1) → 2 * x4 + 1 < 2147483648) (p5 : h 509 x0 0 ≤ x6 → ¬ (x3 = (-1)) → x2 = 0 → ¬ (x5 = (-1)) → (-2147483648) ≤ 2 * x5) (p6 : h 509 x0 0 ≤ x6 → ¬ (x3 = (-1)) → x2 = 0 → ¬ (x5 = (-1)) → 2 * x5 < 2147483648) (p7 : h 509 x0 0 ≤ x6 → ¬ (x3 = (-1)) → ¬ (x2 = 0) → x5 = (-1) → (-2147483648) ≤ 2 * x3) (p8 : h 509 x0 0 ≤ x6 → ¬ (x3 = (-1)) → ¬ (x2 = 0) → x5 = (-1) → 2 * x3 < 2147483648) (p9 : h 509 x0 0 ≤ x6 → ¬ (x3 = (-1)) → ¬ (x2 = 0) → ¬ (x5 = (-1)) → (-2147483648) ≤ 2 * x5) (p10 : h 509 x0 0 ≤ x6 → ¬ (x3 = (-1)) → ¬ (x2 = 0) → ¬ (x5 = (-1)) → 2 * x5 < 2147483648) (p11 : h 509 x0 0 ≤ x6 → ¬ (x3 = (-1)) → ¬ (x2 = 0) → ¬ (x5 = (-1)) → 2 * x5 + 1 < 2147483648) (p12 : ¬ (h 509 x0 0 ≤ x6) → 131 ≤ x6 → ¬ (x3 = (-1)) → x2 = 0 → x5 = (-1) → (-2147483648) ≤ 2 * x4) (p13 : ¬ (h 509 x0 0 ≤ x6) → 131 ≤ x6 → ¬ (x3 = (-1)) → x2 = 0 → x5 = (-1) → 2 * x4 < 2147483648) (p14 : ¬ (h 509 x0 0 ≤ x6) → 131 ≤ x6 → ¬ (x3 = (-1)) → x2 = 0 → x5 = (-1) → 2 * x4 + 1 < 2147483648) (p15 : ¬ (h 509 x0 0 ≤ x6) → 131 ≤ x6 → ¬ (x3 = (-1)) → x2 = 0 → ¬ (x5 = (-1)) → (-2147483648) ≤ 2 * x5) (p16 : ¬ (h 509 x0 0 ≤ x6) → 131 ≤ x6 → ¬ (x3 = (-1)) → x2 = 0 → ¬ (x5 = (-1)) → 2 * x5 < 2147483648) (p17 : ¬ (h 509 x0 0 ≤ x6) → 131 ≤ x6 → ¬ (x3 = (-1)) → ¬ (x2 = 0) → x5 = (-1) → (-2147483648) ≤ 2 * x3) (p18 : ¬ (h 509 x0 0 ≤ x6) → 131 ≤ x6 → ¬ (x3 = (-1)) → ¬ (x2 = 0) → x5 = (-1) → 2 * x3 < 2147483648) (p19 : ¬ (h 509 x0 0 ≤ x6) → 131 ≤ x6 → ¬ (x3 = (-1)) → ¬ (x2 = 0) → ¬ (x5 = (-1)) → (-2147483648) ≤ 2 * x5) (p20 : ¬ (h 509 x0 0 ≤ x6) → 131 ≤ x6 → ¬ (x3 = (-1)) → ¬ (x2 = 0) → ¬ (x5 = (-1)) → 2 * x5 < 2147483648) (p21 : ¬ (h 509 x0 0 ≤ x6) → 131 ≤ x6 → ¬ (x3 = (-1)) → ¬ (x2 = 0) → ¬ (x5 = (-1)) → 2 * x5 + 1 < 2147483648) (p22 : ¬ (h 509 x0 0 ≤ x6) → ¬ (131 ≤ x6) → 0 ≤ x6) (p23 : ¬ (h 509 x0 0 ≤ x6) → ¬ (131 ≤ x6) → ¬ (h 2 (x0 + 3) x6 = (-1)) → x2 = 1 → (-2147483648) ≤ h 2 (x0 + 3) x6 + h 2 (x0 + 2) x6) (p24 : ¬ (h 509 x0 0 ≤ x6) → ¬ (131 ≤ x6) → ¬ (h 2 (x0 + 3) x6 = (-1)) → x2 = 1 → h 2 (x0 + 3) x6 + h 2 (x0 + 2) x6 < 2147483648) : vrun mX3_edgeAt 11 [(1, x0), (0, x1), (0, x2), (0, x3), (0, x4), (0, x5), (0, x6), v7, v8] [] h = if h 509 x0 0 ≤ x6 then if x3 = (-1) then some (.inl (some (0, (-1))), h) else if x2 = 0 then some (.inl (some (0, (if x5 = (-1) then 2 * x4 + 1 else 2 * x5))), h) else some (.inl (some (0, (if x5 = (-1) then 2 * x3 else 2 * x5 + 1))), h) else if 131 ≤ x6 then if x3 = (-1) then some (.inl (some (0, (-1))), h) else if x2 = 0 then some (.inl (some (0, (if x5 = (-1) then 2 * x4 + 1 else 2 * x5))), h) else some (.inl (some (0, (if x5 = (-1) then 2 * x3 else 2 * x5 + 1))), h) else vrun mX3_edgeAt 11 [(1, x0), (0, x1), (0, x2), (0, (if h 2 (x0 + 3) x6 = (-1) then x3 else (if x3 = (-1) then x6 else x3))), (0, (if h 2 (x0 + 3) x6 = (-1) then x4 else x6)), (0, (if h 2 (x0 + 3) x6 = (-1) then x5 else (if x2 = 0 ∧ x5 = (-1) ∧ ¬ (h 2 (x0 + 3) x6 < x1) then x6 else (if x2 = 1 ∧ ¬ (x1 < h 2 (x0 + 3) x6 + h 2 (x0 + 2) x6) then x6 else x5)))), (0, x6 + 1), (if h 2 (x0 + 3) x6 = (-1) then v7 else (0, (if x2 = 0 ∧ x5 = (-1) ∧ ¬ (h 2 (x0 + 3) x6 < x1) then 1 else 0))), (if h 2 (x0 + 3) x6 = (-1) then v8 else (0, (if x2 = 1 ∧ ¬ (x1 < h 2 (x0 + 3) x6 + h 2 (x0 + 2) x6) then 1 else 0)))] [] h := by
  refine (rn_iload (pc := 11) (dd bX3_edgeAt dX3_edgeAt_11) rfl).trans ?_
  refine (rn_aload_n (pc := 13) (dd bX3_edgeAt dX3_edgeAt_13) rfl).trans ?_
  refine (rg_gf (pc := 14) (dd bX3_edgeAt dX3_edgeAt_14) (ci := 4) (j := 9) rfl rfl (key := 509) rfl (kc := 24) rfl s1.1 rfl).trans ?_
  refine (rn_icmp_ge (t := 139) (pc := 17) (dd bX3_edgeAt dX3_edgeAt_17) rfl).trans (itec (fun c1 => ?_) (fun c1 => ?_))
  · refine (rn_iload_n (pc := 139) (dd bX3_edgeAt dX3_edgeAt_139) rfl).trans ?_
    refine (rn_iconst (pc := 140) (dd bX3_edgeAt dX3_edgeAt_140) (by decide)).trans ?_
    refine (rg_icmp_ne (t := 146) (pc := 141) (dd bX3_edgeAt dX3_edgeAt_141) rfl).trans (itec (fun c2 => ?_) (fun c2 => ?_))
    · refine (rn_iconst (pc := 144) (dd bX3_edgeAt dX3_edgeAt_144) (by decide)).trans ?_
      exact rn_ireturn (pc := 145) (dd bX3_edgeAt dX3_edgeAt_145) (Or.inl rfl)
    · refine (rn_iload_n (pc := 146) (dd bX3_edgeAt dX3_edgeAt_146) rfl).trans ?_
      refine (rg_if_ne (t := 170) (pc := 147) (dd bX3_edgeAt dX3_edgeAt_147) rfl).trans (itec (fun c3 => ?_) (fun c3 => ?_))
      · refine (rn_iload (pc := 150) (dd bX3_edgeAt dX3_edgeAt_150) rfl).trans ?_
        refine (rn_iconst (pc := 152) (dd bX3_edgeAt dX3_edgeAt_152) (by decide)).trans ?_
        have e1 : vrun mX3_edgeAt 153 [(1, x0), (0, x1), (0, x2), (0, x3), (0, x4), (0, x5), (0, x6), v7, v8] [(0, (-1)), (0, x5)] h = vrun mX3_edgeAt 169 [(1, x0), (0, x1), (0, x2), (0, x3), (0, x4), (0, x5), (0, x6), v7, v8] [(0, (if x5 = (-1) then 2 * x4 + 1 else 2 * x5))] h := by
          refine (rg_icmp_ne (t := 165) (pc := 153) (dd bX3_edgeAt dX3_edgeAt_153) rfl).trans ?_
          by_cases c4 : x5 = (-1)
          · refine (if_pos c4).trans ?_
            refine (rn_iconst (pc := 156) (dd bX3_edgeAt dX3_edgeAt_156) (by decide)).trans ?_
            refine (rn_iload (pc := 157) (dd bX3_edgeAt dX3_edgeAt_157) rfl).trans ?_
            refine (rg_imul (pc := 159) (dd bX3_edgeAt dX3_edgeAt_159) (p2 c1 c2 c3 c4) (p3 c1 c2 c3 c4)).trans ?_
            refine (rn_iconst (pc := 160) (dd bX3_edgeAt dX3_edgeAt_160) (by decide)).trans ?_
            refine (rg_iadd (pc := 161) (dd bX3_edgeAt dX3_edgeAt_161) (by have z0 := p2 c1 c2 c3 c4; have z1 := p3 c1 c2 c3 c4; omega) (p4 c1 c2 c3 c4)).trans ?_
            refine (rn_goto (t := 169) (pc := 162) (dd bX3_edgeAt dX3_edgeAt_162) rfl).trans ?_
            refine Eq.trans (b := vrun mX3_edgeAt 169 [(1, x0), (0, x1), (0, x2), (0, x3), (0, x4), (0, x5), (0, x6), v7, v8] [(0, 2 * x4 + 1)] h) rfl ?_
            simp only [if_pos c4]
          · refine (if_neg c4).trans ?_
            refine (rn_iconst (pc := 165) (dd bX3_edgeAt dX3_edgeAt_165) (by decide)).trans ?_
            refine (rn_iload (pc := 166) (dd bX3_edgeAt dX3_edgeAt_166) rfl).trans ?_
            refine (rg_imul (pc := 168) (dd bX3_edgeAt dX3_edgeAt_168) (p5 c1 c2 c3 c4) (p6 c1 c2 c3 c4)).trans ?_
            refine Eq.trans (b := vrun mX3_edgeAt 169 [(1, x0), (0, x1), (0, x2), (0, x3), (0, x4), (0, x5), (0, x6), v7, v8] [(0, 2 * x5)] h) rfl ?_
            simp only [if_neg c4]
        refine e1.trans ?_
        exact rn_ireturn (pc := 169) (dd bX3_edgeAt dX3_edgeAt_169) (Or.inl rfl)
      · refine (rn_iload (pc := 170) (dd bX3_edgeAt dX3_edgeAt_170) rfl).trans ?_
        refine (rn_iconst (pc := 172) (dd bX3_edgeAt dX3_edgeAt_172) (by decide)).trans ?_
        have e2 : vrun mX3_edgeAt 173 [(1, x0), (0, x1), (0, x2), (0, x3), (0, x4), (0, x5), (0, x6), v7, v8] [(0, (-1)), (0, x5)] h = vrun mX3_edgeAt 188 [(1, x0), (0, x1), (0, x2), (0, x3), (0, x4), (0, x5), (0, x6), v7, v8] [(0, (if x5 = (-1) then 2 * x3 else 2 * x5 + 1))] h := by
          refine (rg_icmp_ne (t := 182) (pc := 173) (dd bX3_edgeAt dX3_edgeAt_173) rfl).trans ?_
          by_cases c5 : x5 = (-1)
          · refine (if_pos c5).trans ?_
            refine (rn_iconst (pc := 176) (dd bX3_edgeAt dX3_edgeAt_176) (by decide)).trans ?_
            refine (rn_iload_n (pc := 177) (dd bX3_edgeAt dX3_edgeAt_177) rfl).trans ?_
            refine (rg_imul (pc := 178) (dd bX3_edgeAt dX3_edgeAt_178) (p7 c1 c2 c3 c5) (p8 c1 c2 c3 c5)).trans ?_
            refine (rn_goto (t := 188) (pc := 179) (dd bX3_edgeAt dX3_edgeAt_179) rfl).trans ?_
            refine Eq.trans (b := vrun mX3_edgeAt 188 [(1, x0), (0, x1), (0, x2), (0, x3), (0, x4), (0, x5), (0, x6), v7, v8] [(0, 2 * x3)] h) rfl ?_
            simp only [if_pos c5]
          · refine (if_neg c5).trans ?_
            refine (rn_iconst (pc := 182) (dd bX3_edgeAt dX3_edgeAt_182) (by decide)).trans ?_
            refine (rn_iload (pc := 183) (dd bX3_edgeAt dX3_edgeAt_183) rfl).trans ?_
            refine (rg_imul (pc := 185) (dd bX3_edgeAt dX3_edgeAt_185) (p9 c1 c2 c3 c5) (p10 c1 c2 c3 c5)).trans ?_
            refine (rn_iconst (pc := 186) (dd bX3_edgeAt dX3_edgeAt_186) (by decide)).trans ?_
            refine (rg_iadd (pc := 187) (dd bX3_edgeAt dX3_edgeAt_187) (by have z0 := p9 c1 c2 c3 c5; have z1 := p10 c1 c2 c3 c5; omega) (p11 c1 c2 c3 c5)).trans ?_
            refine Eq.trans (b := vrun mX3_edgeAt 188 [(1, x0), (0, x1), (0, x2), (0, x3), (0, x4), (0, x5), (0, x6), v7, v8] [(0, 2 * x5 + 1)] h) rfl ?_
            simp only [if_neg c5]
        refine e2.trans ?_
        exact rn_ireturn (pc := 188) (dd bX3_edgeAt dX3_edgeAt_188) (Or.inl rfl)
  · refine (rn_iload (pc := 20) (dd bX3_edgeAt dX3_edgeAt_20) rfl).trans ?_
    refine (rn_sipush (pc := 22) (dd bX3_edgeAt dX3_edgeAt_22) (by decide)).trans ?_
    refine (rn_icmp_ge (t := 139) (pc := 25) (dd bX3_edgeAt dX3_edgeAt_25) rfl).trans (itec (fun c6 => ?_) (fun c6 => ?_))
    · refine (rn_iload_n (pc := 139) (dd bX3_edgeAt dX3_edgeAt_139) rfl).trans ?_
      refine (rn_iconst (pc := 140) (dd bX3_edgeAt dX3_edgeAt_140) (by decide)).trans ?_
      refine (rg_icmp_ne (t := 146) (pc := 141) (dd bX3_edgeAt dX3_edgeAt_141) rfl).trans (itec (fun c7 => ?_) (fun c7 => ?_))
      · refine (rn_iconst (pc := 144) (dd bX3_edgeAt dX3_edgeAt_144) (by decide)).trans ?_
        exact rn_ireturn (pc := 145) (dd bX3_edgeAt dX3_edgeAt_145) (Or.inl rfl)
      · refine (rn_iload_n (pc := 146) (dd bX3_edgeAt dX3_edgeAt_146) rfl).trans ?_
        refine (rg_if_ne (t := 170) (pc := 147) (dd bX3_edgeAt dX3_edgeAt_147) rfl).trans (itec (fun c8 => ?_) (fun c8 => ?_))
        · refine (rn_iload (pc := 150) (dd bX3_edgeAt dX3_edgeAt_150) rfl).trans ?_
          refine (rn_iconst (pc := 152) (dd bX3_edgeAt dX3_edgeAt_152) (by decide)).trans ?_
          have e3 : vrun mX3_edgeAt 153 [(1, x0), (0, x1), (0, x2), (0, x3), (0, x4), (0, x5), (0, x6), v7, v8] [(0, (-1)), (0, x5)] h = vrun mX3_edgeAt 169 [(1, x0), (0, x1), (0, x2), (0, x3), (0, x4), (0, x5), (0, x6), v7, v8] [(0, (if x5 = (-1) then 2 * x4 + 1 else 2 * x5))] h := by
            refine (rg_icmp_ne (t := 165) (pc := 153) (dd bX3_edgeAt dX3_edgeAt_153) rfl).trans ?_
            by_cases c9 : x5 = (-1)
            · refine (if_pos c9).trans ?_
              refine (rn_iconst (pc := 156) (dd bX3_edgeAt dX3_edgeAt_156) (by decide)).trans ?_
              refine (rn_iload (pc := 157) (dd bX3_edgeAt dX3_edgeAt_157) rfl).trans ?_
              refine (rg_imul (pc := 159) (dd bX3_edgeAt dX3_edgeAt_159) (p12 c1 c6 c7 c8 c9) (p13 c1 c6 c7 c8 c9)).trans ?_
              refine (rn_iconst (pc := 160) (dd bX3_edgeAt dX3_edgeAt_160) (by decide)).trans ?_
              refine (rg_iadd (pc := 161) (dd bX3_edgeAt dX3_edgeAt_161) (by have z0 := p12 c1 c6 c7 c8 c9; have z1 := p13 c1 c6 c7 c8 c9; omega) (p14 c1 c6 c7 c8 c9)).trans ?_
              refine (rn_goto (t := 169) (pc := 162) (dd bX3_edgeAt dX3_edgeAt_162) rfl).trans ?_
              refine Eq.trans (b := vrun mX3_edgeAt 169 [(1, x0), (0, x1), (0, x2), (0, x3), (0, x4), (0, x5), (0, x6), v7, v8] [(0, 2 * x4 + 1)] h) rfl ?_
              simp only [if_pos c9]
            · refine (if_neg c9).trans ?_
              refine (rn_iconst (pc := 165) (dd bX3_edgeAt dX3_edgeAt_165) (by decide)).trans ?_
              refine (rn_iload (pc := 166) (dd bX3_edgeAt dX3_edgeAt_166) rfl).trans ?_
              refine (rg_imul (pc := 168) (dd bX3_edgeAt dX3_edgeAt_168) (p15 c1 c6 c7 c8 c9) (p16 c1 c6 c7 c8 c9)).trans ?_
              refine Eq.trans (b := vrun mX3_edgeAt 169 [(1, x0), (0, x1), (0, x2), (0, x3), (0, x4), (0, x5), (0, x6), v7, v8] [(0, 2 * x5)] h) rfl ?_
              simp only [if_neg c9]
          refine e3.trans ?_
          exact rn_ireturn (pc := 169) (dd bX3_edgeAt dX3_edgeAt_169) (Or.inl rfl)
        · refine (rn_iload (pc := 170) (dd bX3_edgeAt dX3_edgeAt_170) rfl).trans ?_
          refine (rn_iconst (pc := 172) (dd bX3_edgeAt dX3_edgeAt_172) (by decide)).trans ?_
          have e4 : vrun mX3_edgeAt 173 [(1, x0), (0, x1), (0, x2), (0, x3), (0, x4), (0, x5), (0, x6), v7, v8] [(0, (-1)), (0, x5)] h = vrun mX3_edgeAt 188 [(1, x0), (0, x1), (0, x2), (0, x3), (0, x4), (0, x5), (0, x6), v7, v8] [(0, (if x5 = (-1) then 2 * x3 else 2 * x5 + 1))] h := by
            refine (rg_icmp_ne (t := 182) (pc := 173) (dd bX3_edgeAt dX3_edgeAt_173) rfl).trans ?_
            by_cases c10 : x5 = (-1)
            · refine (if_pos c10).trans ?_
              refine (rn_iconst (pc := 176) (dd bX3_edgeAt dX3_edgeAt_176) (by decide)).trans ?_
              refine (rn_iload_n (pc := 177) (dd bX3_edgeAt dX3_edgeAt_177) rfl).trans ?_
              refine (rg_imul (pc := 178) (dd bX3_edgeAt dX3_edgeAt_178) (p17 c1 c6 c7 c8 c10) (p18 c1 c6 c7 c8 c10)).trans ?_
              refine (rn_goto (t := 188) (pc := 179) (dd bX3_edgeAt dX3_edgeAt_179) rfl).trans ?_
              refine Eq.trans (b := vrun mX3_edgeAt 188 [(1, x0), (0, x1), (0, x2), (0, x3), (0, x4), (0, x5), (0, x6), v7, v8] [(0, 2 * x3)] h) rfl ?_
              simp only [if_pos c10]
            · refine (if_neg c10).trans ?_
              refine (rn_iconst (pc := 182) (dd bX3_edgeAt dX3_edgeAt_182) (by decide)).trans ?_
              refine (rn_iload (pc := 183) (dd bX3_edgeAt dX3_edgeAt_183) rfl).trans ?_
              refine (rg_imul (pc := 185) (dd bX3_edgeAt dX3_edgeAt_185) (p19 c1 c6 c7 c8 c10) (p20 c1 c6 c7 c8 c10)).trans ?_
              refine (rn_iconst (pc := 186) (dd bX3_edgeAt dX3_edgeAt_186) (by decide)).trans ?_
              refine (rg_iadd (pc := 187) (dd bX3_edgeAt dX3_edgeAt_187) (by have z0 := p19 c1 c6 c7 c8 c10; have z1 := p20 c1 c6 c7 c8 c10; omega) (p21 c1 c6 c7 c8 c10)).trans ?_
              refine Eq.trans (b := vrun mX3_edgeAt 188 [(1, x0), (0, x1), (0, x2), (0, x3), (0, x4), (0, x5), (0, x6), v7, v8] [(0, 2 * x5 + 1)] h) rfl ?_
              simp only [if_neg c10]
          refine e4.trans ?_
          exact rn_ireturn (pc := 188) (dd bX3_edgeAt dX3_edgeAt_188) (Or.inl rfl)
    · refine (rn_aload_n (pc := 28) (dd bX3_edgeAt dX3_edgeAt_28) rfl).trans ?_
      refine (rg_gf (pc := 29) (dd bX3_edgeAt dX3_edgeAt_29) (ci := 4) (j := 2) rfl rfl (key := 502) rfl (kc := 24) rfl s1.1 s1.2.2.2.2.2.2.2.1).trans ?_
      refine (rn_iload (pc := 32) (dd bX3_edgeAt dX3_edgeAt_32) rfl).trans ?_
      refine (rg_iaload (pc := 34) (dd bX3_edgeAt dX3_edgeAt_34) s1.2.2.2.2.2.2.2.2.1 s1.2.2.2.2.2.2.2.2.2.1 (p22 c1 c6) (Int.not_le.mp c6) rfl).trans ?_
      refine (rn_iconst (pc := 35) (dd bX3_edgeAt dX3_edgeAt_35) (by decide)).trans ?_
      have e13 : vrun mX3_edgeAt 36 [(1, x0), (0, x1), (0, x2), (0, x3), (0, x4), (0, x5), (0, x6), v7, v8] [(0, (-1)), (0, h 2 (x0 + 3) x6)] h = vrun mX3_edgeAt 133 [(1, x0), (0, x1), (0, x2), (0, (if h 2 (x0 + 3) x6 = (-1) then x3 else (if x3 = (-1) then x6 else x3))), (0, (if h 2 (x0 + 3) x6 = (-1) then x4 else x6)), (0, (if h 2 (x0 + 3) x6 = (-1) then x5 else (if x2 = 0 ∧ x5 = (-1) ∧ ¬ (h 2 (x0 + 3) x6 < x1) then x6 else (if x2 = 1 ∧ ¬ (x1 < h 2 (x0 + 3) x6 + h 2 (x0 + 2) x6) then x6 else x5)))), (0, x6), (if h 2 (x0 + 3) x6 = (-1) then v7 else (0, (if x2 = 0 ∧ x5 = (-1) ∧ ¬ (h 2 (x0 + 3) x6 < x1) then 1 else 0))), (if h 2 (x0 + 3) x6 = (-1) then v8 else (0, (if x2 = 1 ∧ ¬ (x1 < h 2 (x0 + 3) x6 + h 2 (x0 + 2) x6) then 1 else 0)))] [] h := by
        refine (rn_icmp_eq (t := 133) (pc := 36) (dd bX3_edgeAt dX3_edgeAt_36) rfl).trans ?_
        by_cases c11 : h 2 (x0 + 3) x6 = (-1)
        · refine (if_pos c11).trans ?_
          refine Eq.trans (b := vrun mX3_edgeAt 133 [(1, x0), (0, x1), (0, x2), (0, x3), (0, x4), (0, x5), (0, x6), v7, v8] [] h) rfl ?_
          simp only [if_pos c11]
        · refine (if_neg c11).trans ?_
          refine (rn_iload_n (pc := 39) (dd bX3_edgeAt dX3_edgeAt_39) rfl).trans ?_
          refine (rn_iconst (pc := 40) (dd bX3_edgeAt dX3_edgeAt_40) (by decide)).trans ?_
          have e5 : vrun mX3_edgeAt 41 [(1, x0), (0, x1), (0, x2), (0, x3), (0, x4), (0, x5), (0, x6), v7, v8] [(0, (-1)), (0, x3)] h = vrun mX3_edgeAt 50 [(1, x0), (0, x1), (0, x2), (0, x3), (0, x4), (0, x5), (0, x6), v7, v8] [(0, (if x3 = (-1) then x6 else x3))] h := by
            refine (rg_icmp_ne (t := 49) (pc := 41) (dd bX3_edgeAt dX3_edgeAt_41) rfl).trans ?_
            by_cases c12 : x3 = (-1)
            · refine (if_pos c12).trans ?_
              refine (rn_iload (pc := 44) (dd bX3_edgeAt dX3_edgeAt_44) rfl).trans ?_
              refine (rn_goto (t := 50) (pc := 46) (dd bX3_edgeAt dX3_edgeAt_46) rfl).trans ?_
              refine Eq.trans (b := vrun mX3_edgeAt 50 [(1, x0), (0, x1), (0, x2), (0, x3), (0, x4), (0, x5), (0, x6), v7, v8] [(0, x6)] h) rfl ?_
              simp only [if_pos c12]
            · refine (if_neg c12).trans ?_
              refine (rn_iload_n (pc := 49) (dd bX3_edgeAt dX3_edgeAt_49) rfl).trans ?_
              refine Eq.trans (b := vrun mX3_edgeAt 50 [(1, x0), (0, x1), (0, x2), (0, x3), (0, x4), (0, x5), (0, x6), v7, v8] [(0, x3)] h) rfl ?_
              simp only [if_neg c12]
          refine e5.trans ?_
          refine (rn_istore_n (pc := 50) (dd bX3_edgeAt dX3_edgeAt_50) (Nat.le_of_ble_eq_true rfl) rfl).trans ?_
          refine (rn_iload (pc := 51) (dd bX3_edgeAt dX3_edgeAt_51) rfl).trans ?_
          refine (rn_istore (pc := 53) (dd bX3_edgeAt dX3_edgeAt_53) (Nat.le_of_ble_eq_true rfl) rfl).trans ?_
          refine (rn_iload_n (pc := 55) (dd bX3_edgeAt dX3_edgeAt_55) rfl).trans ?_
          have e8 : vrun mX3_edgeAt 56 [(1, x0), (0, x1), (0, x2), (0, (if x3 = (-1) then x6 else x3)), (0, x6), (0, x5), (0, x6), v7, v8] [(0, x2)] h = vrun mX3_edgeAt 81 [(1, x0), (0, x1), (0, x2), (0, (if x3 = (-1) then x6 else x3)), (0, x6), (0, x5), (0, x6), v7, v8] [(0, (if x2 = 0 ∧ x5 = (-1) ∧ ¬ (h 2 (x0 + 3) x6 < x1) then 1 else 0))] h := by
            refine (rg_if_ne (t := 80) (pc := 56) (dd bX3_edgeAt dX3_edgeAt_56) rfl).trans ?_
            by_cases c13 : x2 = 0
            · refine (if_pos c13).trans ?_
              refine (rn_iload (pc := 59) (dd bX3_edgeAt dX3_edgeAt_59) rfl).trans ?_
              refine (rn_iconst (pc := 61) (dd bX3_edgeAt dX3_edgeAt_61) (by decide)).trans ?_
              have e7 : vrun mX3_edgeAt 62 [(1, x0), (0, x1), (0, x2), (0, (if x3 = (-1) then x6 else x3)), (0, x6), (0, x5), (0, x6), v7, v8] [(0, (-1)), (0, x5)] h = vrun mX3_edgeAt 81 [(1, x0), (0, x1), (0, x2), (0, (if x3 = (-1) then x6 else x3)), (0, x6), (0, x5), (0, x6), v7, v8] [(0, (if x5 = (-1) ∧ ¬ (h 2 (x0 + 3) x6 < x1) then 1 else 0))] h := by
                refine (rg_icmp_ne (t := 80) (pc := 62) (dd bX3_edgeAt dX3_edgeAt_62) rfl).trans ?_
                by_cases c14 : x5 = (-1)
                · refine (if_pos c14).trans ?_
                  refine (rn_aload_n (pc := 65) (dd bX3_edgeAt dX3_edgeAt_65) rfl).trans ?_
                  refine (rg_gf (pc := 66) (dd bX3_edgeAt dX3_edgeAt_66) (ci := 4) (j := 2) rfl rfl (key := 502) rfl (kc := 24) rfl s1.1 s1.2.2.2.2.2.2.2.1).trans ?_
                  refine (rn_iload (pc := 69) (dd bX3_edgeAt dX3_edgeAt_69) rfl).trans ?_
                  refine (rg_iaload (pc := 71) (dd bX3_edgeAt dX3_edgeAt_71) s1.2.2.2.2.2.2.2.2.1 s1.2.2.2.2.2.2.2.2.2.1 (by have z0 := p22 c1 c6; omega) (Int.not_le.mp c6) rfl).trans ?_
                  refine (rn_iload_n (pc := 72) (dd bX3_edgeAt dX3_edgeAt_72) rfl).trans ?_
                  have e6 : vrun mX3_edgeAt 73 [(1, x0), (0, x1), (0, x2), (0, (if x3 = (-1) then x6 else x3)), (0, x6), (0, x5), (0, x6), v7, v8] [(0, x1), (0, h 2 (x0 + 3) x6)] h = vrun mX3_edgeAt 81 [(1, x0), (0, x1), (0, x2), (0, (if x3 = (-1) then x6 else x3)), (0, x6), (0, x5), (0, x6), v7, v8] [(0, (if ¬ (h 2 (x0 + 3) x6 < x1) then 1 else 0))] h := by
                    refine (rn_icmp_lt (t := 80) (pc := 73) (dd bX3_edgeAt dX3_edgeAt_73) rfl).trans ?_
                    by_cases c15 : h 2 (x0 + 3) x6 < x1
                    · refine (if_pos c15).trans ?_
                      refine (rn_iconst (pc := 80) (dd bX3_edgeAt dX3_edgeAt_80) (by decide)).trans ?_
                      refine Eq.trans (b := vrun mX3_edgeAt 81 [(1, x0), (0, x1), (0, x2), (0, (if x3 = (-1) then x6 else x3)), (0, x6), (0, x5), (0, x6), v7, v8] [(0, 0)] h) rfl ?_
                      simp only [c15, true_or, false_or, or_true, or_false, true_and, false_and, and_true, and_false, not_true_eq_false, not_false_eq_true, ne_eq, if_true, if_false, ↓reduceIte]
                    · refine (if_neg c15).trans ?_
                      refine (rn_iconst (pc := 76) (dd bX3_edgeAt dX3_edgeAt_76) (by decide)).trans ?_
                      refine (rn_goto (t := 81) (pc := 77) (dd bX3_edgeAt dX3_edgeAt_77) rfl).trans ?_
                      refine Eq.trans (b := vrun mX3_edgeAt 81 [(1, x0), (0, x1), (0, x2), (0, (if x3 = (-1) then x6 else x3)), (0, x6), (0, x5), (0, x6), v7, v8] [(0, 1)] h) rfl ?_
                      simp only [c15, true_or, false_or, or_true, or_false, true_and, false_and, and_true, and_false, not_true_eq_false, not_false_eq_true, ne_eq, if_true, if_false, ↓reduceIte]
                  refine e6.trans ?_
                  refine Eq.trans (b := vrun mX3_edgeAt 81 [(1, x0), (0, x1), (0, x2), (0, (if x3 = (-1) then x6 else x3)), (0, x6), (0, x5), (0, x6), v7, v8] [(0, (if ¬ (h 2 (x0 + 3) x6 < x1) then 1 else 0))] h) rfl ?_
                  simp only [c14, true_or, false_or, or_true, or_false, true_and, false_and, and_true, and_false, not_true_eq_false, not_false_eq_true, ne_eq, if_true, if_false, ↓reduceIte]
                · refine (if_neg c14).trans ?_
                  refine (rn_iconst (pc := 80) (dd bX3_edgeAt dX3_edgeAt_80) (by decide)).trans ?_
                  refine Eq.trans (b := vrun mX3_edgeAt 81 [(1, x0), (0, x1), (0, x2), (0, (if x3 = (-1) then x6 else x3)), (0, x6), (0, x5), (0, x6), v7, v8] [(0, 0)] h) rfl ?_
                  simp only [c14, true_or, false_or, or_true, or_false, true_and, false_and, and_true, and_false, not_true_eq_false, not_false_eq_true, ne_eq, if_true, if_false, ↓reduceIte]
              refine e7.trans ?_
              refine Eq.trans (b := vrun mX3_edgeAt 81 [(1, x0), (0, x1), (0, x2), (0, (if x3 = (-1) then x6 else x3)), (0, x6), (0, x5), (0, x6), v7, v8] [(0, (if x5 = (-1) ∧ ¬ (h 2 (x0 + 3) x6 < x1) then 1 else 0))] h) rfl ?_
              simp only [c13, true_or, false_or, or_true, or_false, true_and, false_and, and_true, and_false, not_true_eq_false, not_false_eq_true, ne_eq, if_true, if_false, ↓reduceIte]
            · refine (if_neg c13).trans ?_
              refine (rn_iconst (pc := 80) (dd bX3_edgeAt dX3_edgeAt_80) (by decide)).trans ?_
              refine Eq.trans (b := vrun mX3_edgeAt 81 [(1, x0), (0, x1), (0, x2), (0, (if x3 = (-1) then x6 else x3)), (0, x6), (0, x5), (0, x6), v7, v8] [(0, 0)] h) rfl ?_
              simp only [c13, true_or, false_or, or_true, or_false, true_and, false_and, and_true, and_false, not_true_eq_false, not_false_eq_true, ne_eq, if_true, if_false, ↓reduceIte]
          refine e8.trans ?_
          refine (rn_istore (pc := 81) (dd bX3_edgeAt dX3_edgeAt_81) (Nat.le_of_ble_eq_true rfl) rfl).trans ?_
          refine (rn_iload_n (pc := 83) (dd bX3_edgeAt dX3_edgeAt_83) rfl).trans ?_
          refine (rn_iconst (pc := 84) (dd bX3_edgeAt dX3_edgeAt_84) (by decide)).trans ?_
          have e10 : vrun mX3_edgeAt 85 [(1, x0), (0, x1), (0, x2), (0, (if x3 = (-1) then x6 else x3)), (0, x6), (0, x5), (0, x6), (0, (if x2 = 0 ∧ x5 = (-1) ∧ ¬ (h 2 (x0 + 3) x6 < x1) then 1 else 0)), v8] [(0, 1), (0, x2)] h = vrun mX3_edgeAt 112 [(1, x0), (0, x1), (0, x2), (0, (if x3 = (-1) then x6 else x3)), (0, x6), (0, x5), (0, x6), (0, (if x2 = 0 ∧ x5 = (-1) ∧ ¬ (h 2 (x0 + 3) x6 < x1) then 1 else 0)), v8] [(0, (if x2 = 1 ∧ ¬ (x1 < h 2 (x0 + 3) x6 + h 2 (x0 + 2) x6) then 1 else 0))] h := by
            refine (rg_icmp_ne (t := 111) (pc := 85) (dd bX3_edgeAt dX3_edgeAt_85) rfl).trans ?_
            by_cases c16 : x2 = 1
            · refine (if_pos c16).trans ?_
              refine (rn_aload_n (pc := 88) (dd bX3_edgeAt dX3_edgeAt_88) rfl).trans ?_
              refine (rg_gf (pc := 89) (dd bX3_edgeAt dX3_edgeAt_89) (ci := 4) (j := 2) rfl rfl (key := 502) rfl (kc := 24) rfl s1.1 s1.2.2.2.2.2.2.2.1).trans ?_
              refine (rn_iload (pc := 92) (dd bX3_edgeAt dX3_edgeAt_92) rfl).trans ?_
              refine (rg_iaload (pc := 94) (dd bX3_edgeAt dX3_edgeAt_94) s1.2.2.2.2.2.2.2.2.1 s1.2.2.2.2.2.2.2.2.2.1 (by have z0 := p22 c1 c6; omega) (Int.not_le.mp c6) rfl).trans ?_
              refine (rn_aload_n (pc := 95) (dd bX3_edgeAt dX3_edgeAt_95) rfl).trans ?_
              refine (rg_gf (pc := 96) (dd bX3_edgeAt dX3_edgeAt_96) (ci := 4) (j := 1) rfl rfl (key := 501) rfl (kc := 24) rfl s1.1 s1.2.2.2.2.1).trans ?_
              refine (rn_iload (pc := 99) (dd bX3_edgeAt dX3_edgeAt_99) rfl).trans ?_
              refine (rg_iaload (pc := 101) (dd bX3_edgeAt dX3_edgeAt_101) s1.2.2.2.2.2.1 s1.2.2.2.2.2.2.1 (by have z0 := p22 c1 c6; omega) (Int.not_le.mp c6) rfl).trans ?_
              refine (rg_iadd (pc := 102) (dd bX3_edgeAt dX3_edgeAt_102) (p23 c1 c6 c11 c16) (p24 c1 c6 c11 c16)).trans ?_
              refine (rn_iload_n (pc := 103) (dd bX3_edgeAt dX3_edgeAt_103) rfl).trans ?_
              have e9 : vrun mX3_edgeAt 104 [(1, x0), (0, x1), (0, x2), (0, (if x3 = (-1) then x6 else x3)), (0, x6), (0, x5), (0, x6), (0, (if x2 = 0 ∧ x5 = (-1) ∧ ¬ (h 2 (x0 + 3) x6 < x1) then 1 else 0)), v8] [(0, x1), (0, h 2 (x0 + 3) x6 + h 2 (x0 + 2) x6)] h = vrun mX3_edgeAt 112 [(1, x0), (0, x1), (0, x2), (0, (if x3 = (-1) then x6 else x3)), (0, x6), (0, x5), (0, x6), (0, (if x2 = 0 ∧ x5 = (-1) ∧ ¬ (h 2 (x0 + 3) x6 < x1) then 1 else 0)), v8] [(0, (if ¬ (x1 < h 2 (x0 + 3) x6 + h 2 (x0 + 2) x6) then 1 else 0))] h := by
                refine (rn_icmp_gt (t := 111) (pc := 104) (dd bX3_edgeAt dX3_edgeAt_104) rfl).trans ?_
                by_cases c17 : x1 < h 2 (x0 + 3) x6 + h 2 (x0 + 2) x6
                · refine (if_pos c17).trans ?_
                  refine (rn_iconst (pc := 111) (dd bX3_edgeAt dX3_edgeAt_111) (by decide)).trans ?_
                  refine Eq.trans (b := vrun mX3_edgeAt 112 [(1, x0), (0, x1), (0, x2), (0, (if x3 = (-1) then x6 else x3)), (0, x6), (0, x5), (0, x6), (0, (if x2 = 0 ∧ x5 = (-1) ∧ ¬ (h 2 (x0 + 3) x6 < x1) then 1 else 0)), v8] [(0, 0)] h) rfl ?_
                  simp only [c17, true_or, false_or, or_true, or_false, true_and, false_and, and_true, and_false, not_true_eq_false, not_false_eq_true, ne_eq, if_true, if_false, ↓reduceIte]
                · refine (if_neg c17).trans ?_
                  refine (rn_iconst (pc := 107) (dd bX3_edgeAt dX3_edgeAt_107) (by decide)).trans ?_
                  refine (rn_goto (t := 112) (pc := 108) (dd bX3_edgeAt dX3_edgeAt_108) rfl).trans ?_
                  refine Eq.trans (b := vrun mX3_edgeAt 112 [(1, x0), (0, x1), (0, x2), (0, (if x3 = (-1) then x6 else x3)), (0, x6), (0, x5), (0, x6), (0, (if x2 = 0 ∧ x5 = (-1) ∧ ¬ (h 2 (x0 + 3) x6 < x1) then 1 else 0)), v8] [(0, 1)] h) rfl ?_
                  simp only [c17, true_or, false_or, or_true, or_false, true_and, false_and, and_true, and_false, not_true_eq_false, not_false_eq_true, ne_eq, if_true, if_false, ↓reduceIte]
              refine e9.trans ?_
              refine Eq.trans (b := vrun mX3_edgeAt 112 [(1, x0), (0, x1), (0, x2), (0, (if x3 = (-1) then x6 else x3)), (0, x6), (0, x5), (0, x6), (0, (if x2 = 0 ∧ x5 = (-1) ∧ ¬ (h 2 (x0 + 3) x6 < x1) then 1 else 0)), v8] [(0, (if ¬ (x1 < h 2 (x0 + 3) x6 + h 2 (x0 + 2) x6) then 1 else 0))] h) rfl ?_
              simp only [c16, true_or, false_or, or_true, or_false, true_and, false_and, and_true, and_false, not_true_eq_false, not_false_eq_true, ne_eq, if_true, if_false, ↓reduceIte]
            · refine (if_neg c16).trans ?_
              refine (rn_iconst (pc := 111) (dd bX3_edgeAt dX3_edgeAt_111) (by decide)).trans ?_
              refine Eq.trans (b := vrun mX3_edgeAt 112 [(1, x0), (0, x1), (0, x2), (0, (if x3 = (-1) then x6 else x3)), (0, x6), (0, x5), (0, x6), (0, (if x2 = 0 ∧ x5 = (-1) ∧ ¬ (h 2 (x0 + 3) x6 < x1) then 1 else 0)), v8] [(0, 0)] h) rfl ?_
              simp only [c16, true_or, false_or, or_true, or_false, true_and, false_and, and_true, and_false, not_true_eq_false, not_false_eq_true, ne_eq, if_true, if_false, ↓reduceIte]
          refine e10.trans ?_
          refine (rn_istore (pc := 112) (dd bX3_edgeAt dX3_edgeAt_112) (Nat.le_of_ble_eq_true rfl) rfl).trans ?_
          refine (rn_iload (pc := 114) (dd bX3_edgeAt dX3_edgeAt_114) rfl).trans ?_
          have e12 : vrun mX3_edgeAt 116 [(1, x0), (0, x1), (0, x2), (0, (if x3 = (-1) then x6 else x3)), (0, x6), (0, x5), (0, x6), (0, (if x2 = 0 ∧ x5 = (-1) ∧ ¬ (h 2 (x0 + 3) x6 < x1) then 1 else 0)), (0, (if x2 = 1 ∧ ¬ (x1 < h 2 (x0 + 3) x6 + h 2 (x0 + 2) x6) then 1 else 0))] [(0, (if x2 = 0 ∧ x5 = (-1) ∧ ¬ (h 2 (x0 + 3) x6 < x1) then 1 else 0))] h = vrun mX3_edgeAt 131 [(1, x0), (0, x1), (0, x2), (0, (if x3 = (-1) then x6 else x3)), (0, x6), (0, x5), (0, x6), (0, (if x2 = 0 ∧ x5 = (-1) ∧ ¬ (h 2 (x0 + 3) x6 < x1) then 1 else 0)), (0, (if x2 = 1 ∧ ¬ (x1 < h 2 (x0 + 3) x6 + h 2 (x0 + 2) x6) then 1 else 0))] [(0, (if x2 = 0 ∧ x5 = (-1) ∧ ¬ (h 2 (x0 + 3) x6 < x1) then x6 else (if x2 = 1 ∧ ¬ (x1 < h 2 (x0 + 3) x6 + h 2 (x0 + 2) x6) then x6 else x5)))] h := by
            refine (rg_bne (t := 124) (pc := 116) (dd bX3_edgeAt dX3_edgeAt_116) rfl).trans ?_
            by_cases c18 : x2 = 0 ∧ x5 = (-1) ∧ ¬ (h 2 (x0 + 3) x6 < x1)
            · refine (if_pos c18).trans ?_
              refine (rn_iload (pc := 124) (dd bX3_edgeAt dX3_edgeAt_124) rfl).trans ?_
              refine (rn_goto (t := 131) (pc := 126) (dd bX3_edgeAt dX3_edgeAt_126) rfl).trans ?_
              refine Eq.trans (b := vrun mX3_edgeAt 131 [(1, x0), (0, x1), (0, x2), (0, (if x3 = (-1) then x6 else x3)), (0, x6), (0, x5), (0, x6), (0, (if x2 = 0 ∧ x5 = (-1) ∧ ¬ (h 2 (x0 + 3) x6 < x1) then 1 else 0)), (0, (if x2 = 1 ∧ ¬ (x1 < h 2 (x0 + 3) x6 + h 2 (x0 + 2) x6) then 1 else 0))] [(0, x6)] h) rfl ?_
              simp only [if_pos c18]
            · refine (if_neg c18).trans ?_
              refine (rn_iload (pc := 119) (dd bX3_edgeAt dX3_edgeAt_119) rfl).trans ?_
              have e11 : vrun mX3_edgeAt 121 [(1, x0), (0, x1), (0, x2), (0, (if x3 = (-1) then x6 else x3)), (0, x6), (0, x5), (0, x6), (0, (if x2 = 0 ∧ x5 = (-1) ∧ ¬ (h 2 (x0 + 3) x6 < x1) then 1 else 0)), (0, (if x2 = 1 ∧ ¬ (x1 < h 2 (x0 + 3) x6 + h 2 (x0 + 2) x6) then 1 else 0))] [(0, (if x2 = 1 ∧ ¬ (x1 < h 2 (x0 + 3) x6 + h 2 (x0 + 2) x6) then 1 else 0))] h = vrun mX3_edgeAt 131 [(1, x0), (0, x1), (0, x2), (0, (if x3 = (-1) then x6 else x3)), (0, x6), (0, x5), (0, x6), (0, (if x2 = 0 ∧ x5 = (-1) ∧ ¬ (h 2 (x0 + 3) x6 < x1) then 1 else 0)), (0, (if x2 = 1 ∧ ¬ (x1 < h 2 (x0 + 3) x6 + h 2 (x0 + 2) x6) then 1 else 0))] [(0, (if x2 = 1 ∧ ¬ (x1 < h 2 (x0 + 3) x6 + h 2 (x0 + 2) x6) then x6 else x5))] h := by
                refine (rg_beq (t := 129) (pc := 121) (dd bX3_edgeAt dX3_edgeAt_121) rfl).trans ?_
                by_cases c19 : x2 = 1 ∧ ¬ (x1 < h 2 (x0 + 3) x6 + h 2 (x0 + 2) x6)
                · refine (if_pos c19).trans ?_
                  refine (rn_iload (pc := 124) (dd bX3_edgeAt dX3_edgeAt_124) rfl).trans ?_
                  refine (rn_goto (t := 131) (pc := 126) (dd bX3_edgeAt dX3_edgeAt_126) rfl).trans ?_
                  refine Eq.trans (b := vrun mX3_edgeAt 131 [(1, x0), (0, x1), (0, x2), (0, (if x3 = (-1) then x6 else x3)), (0, x6), (0, x5), (0, x6), (0, (if x2 = 0 ∧ x5 = (-1) ∧ ¬ (h 2 (x0 + 3) x6 < x1) then 1 else 0)), (0, (if x2 = 1 ∧ ¬ (x1 < h 2 (x0 + 3) x6 + h 2 (x0 + 2) x6) then 1 else 0))] [(0, x6)] h) rfl ?_
                  simp only [if_pos c19]
                · refine (if_neg c19).trans ?_
                  refine (rn_iload (pc := 129) (dd bX3_edgeAt dX3_edgeAt_129) rfl).trans ?_
                  refine Eq.trans (b := vrun mX3_edgeAt 131 [(1, x0), (0, x1), (0, x2), (0, (if x3 = (-1) then x6 else x3)), (0, x6), (0, x5), (0, x6), (0, (if x2 = 0 ∧ x5 = (-1) ∧ ¬ (h 2 (x0 + 3) x6 < x1) then 1 else 0)), (0, (if x2 = 1 ∧ ¬ (x1 < h 2 (x0 + 3) x6 + h 2 (x0 + 2) x6) then 1 else 0))] [(0, x5)] h) rfl ?_
                  simp only [if_neg c19]
              refine e11.trans ?_
              refine Eq.trans (b := vrun mX3_edgeAt 131 [(1, x0), (0, x1), (0, x2), (0, (if x3 = (-1) then x6 else x3)), (0, x6), (0, x5), (0, x6), (0, (if x2 = 0 ∧ x5 = (-1) ∧ ¬ (h 2 (x0 + 3) x6 < x1) then 1 else 0)), (0, (if x2 = 1 ∧ ¬ (x1 < h 2 (x0 + 3) x6 + h 2 (x0 + 2) x6) then 1 else 0))] [(0, (if x2 = 1 ∧ ¬ (x1 < h 2 (x0 + 3) x6 + h 2 (x0 + 2) x6) then x6 else x5))] h) rfl ?_
              simp only [if_neg c18]
          refine e12.trans ?_
          refine (rn_istore (pc := 131) (dd bX3_edgeAt dX3_edgeAt_131) (Nat.le_of_ble_eq_true rfl) rfl).trans ?_
          refine Eq.trans (b := vrun mX3_edgeAt 133 [(1, x0), (0, x1), (0, x2), (0, (if x3 = (-1) then x6 else x3)), (0, x6), (0, (if x2 = 0 ∧ x5 = (-1) ∧ ¬ (h 2 (x0 + 3) x6 < x1) then x6 else (if x2 = 1 ∧ ¬ (x1 < h 2 (x0 + 3) x6 + h 2 (x0 + 2) x6) then x6 else x5))), (0, x6), (0, (if x2 = 0 ∧ x5 = (-1) ∧ ¬ (h 2 (x0 + 3) x6 < x1) then 1 else 0)), (0, (if x2 = 1 ∧ ¬ (x1 < h 2 (x0 + 3) x6 + h 2 (x0 + 2) x6) then 1 else 0))] [] h) rfl ?_
          simp only [if_neg c11]
      refine e13.trans ?_
      refine (rg_iinc (pc := 133) (dd bX3_edgeAt dX3_edgeAt_133) rfl (Nat.le_of_ble_eq_true rfl) (by have z0 := p22 c1 c6; omega) (by have z0 := p22 c1 c6; omega) rfl).trans ?_
      refine (rn_goto (t := 11) (pc := 136) (dd bX3_edgeAt dX3_edgeAt_136) rfl).trans ?_
      rfl
theorem bX3_rowOfEdge : vmB mX3_rowOfEdge = cX3_rowOfEdge := rfl
theorem rX3_rowOfEdge_0 {x0 : Int} {x1 : Int} {h : vH} : vrun mX3_rowOfEdge 0 [(1, x0), (0, x1), (9, 0)] [] h = vrun mX3_rowOfEdge 2 [(1, x0), (0, x1), (0, 0)] [] h := by
  refine (rn_iconst (pc := 0) (dd bX3_rowOfEdge dX3_rowOfEdge_0) (by decide)).trans ?_
  refine (rn_istore_n (pc := 1) (dd bX3_rowOfEdge dX3_rowOfEdge_1) (Nat.le_of_ble_eq_true rfl) rfl).trans ?_
  rfl
theorem rX3_rowOfEdge_2 {x0 : Int} {x1 : Int} {x2 : Int} {h : vH} (p1 : ¬ (x1 = (-1)) → (-2147483648) ≤ x2 + 1) (p2 : ¬ (x1 = (-1)) → x2 + 1 < 2147483648) (s3 : shLayout h x0) (p4 : ¬ (x1 = (-1)) → ¬ (h 510 x0 0 ≤ x2 + 1) → 0 ≤ x1) (p5 : ¬ (x1 = (-1)) → ¬ (h 510 x0 0 ≤ x2 + 1) → x1 < 2147483648) : vrun mX3_rowOfEdge 2 [(1, x0), (0, x1), (0, x2)] [] h = if x1 = (-1) then some (.inl (some (0, x2)), h) else if h 510 x0 0 ≤ x2 + 1 then some (.inl (some (0, x2)), h) else if x1 / 2 < fX3_startOf h x0 (x2 + 1) then some (.inl (some (0, x2)), h) else vrun mX3_rowOfEdge 2 [(1, x0), (0, x1), (0, x2 + 1)] [] h := by
  refine (rn_iload_n (pc := 2) (dd bX3_rowOfEdge dX3_rowOfEdge_2) rfl).trans ?_
  refine (rn_iconst (pc := 3) (dd bX3_rowOfEdge dX3_rowOfEdge_3) (by decide)).trans ?_
  refine (rn_icmp_eq (t := 36) (pc := 4) (dd bX3_rowOfEdge dX3_rowOfEdge_4) rfl).trans (itec (fun c1 => ?_) (fun c1 => ?_))
  · refine (rn_iload_n (pc := 36) (dd bX3_rowOfEdge dX3_rowOfEdge_36) rfl).trans ?_
    exact rn_ireturn (pc := 37) (dd bX3_rowOfEdge dX3_rowOfEdge_37) (Or.inl rfl)
  · refine (rn_iload_n (pc := 7) (dd bX3_rowOfEdge dX3_rowOfEdge_7) rfl).trans ?_
    refine (rn_iconst (pc := 8) (dd bX3_rowOfEdge dX3_rowOfEdge_8) (by decide)).trans ?_
    refine (rg_iadd (pc := 9) (dd bX3_rowOfEdge dX3_rowOfEdge_9) (p1 c1) (p2 c1)).trans ?_
    refine (rn_aload_n (pc := 10) (dd bX3_rowOfEdge dX3_rowOfEdge_10) rfl).trans ?_
    refine (rg_gf (pc := 11) (dd bX3_rowOfEdge dX3_rowOfEdge_11) (ci := 4) (j := 10) rfl rfl (key := 510) rfl (kc := 24) rfl s3.1 rfl).trans ?_
    refine (rn_icmp_ge (t := 36) (pc := 14) (dd bX3_rowOfEdge dX3_rowOfEdge_14) rfl).trans (itec (fun c2 => ?_) (fun c2 => ?_))
    · refine (rn_iload_n (pc := 36) (dd bX3_rowOfEdge dX3_rowOfEdge_36) rfl).trans ?_
      exact rn_ireturn (pc := 37) (dd bX3_rowOfEdge dX3_rowOfEdge_37) (Or.inl rfl)
    · refine (rn_aload_n (pc := 17) (dd bX3_rowOfEdge dX3_rowOfEdge_17) rfl).trans ?_
      refine (rn_iload_n (pc := 18) (dd bX3_rowOfEdge dX3_rowOfEdge_18) rfl).trans ?_
      refine (rn_iconst (pc := 19) (dd bX3_rowOfEdge dX3_rowOfEdge_19) (by decide)).trans ?_
      refine (rg_iadd (pc := 20) (dd bX3_rowOfEdge dX3_rowOfEdge_20) (by have z0 := p1 c1; have z1 := p2 c1; omega) (by have z0 := p1 c1; have z1 := p2 c1; omega)).trans ?_
      refine (rg_virtual (pc := 21) (dd bX3_rowOfEdge dX3_rowOfEdge_21) rfl rfl (by decide) (kc := 24) rfl s3.1 (as := [(1, x0), (0, x2 + 1)]) rfl ⟨Nat.le_of_ble_eq_true rfl, Nat.le_of_ble_eq_true rfl, Nat.le_of_ble_eq_true rfl, Nat.le_of_ble_eq_true rfl⟩).trans ?_
      refine (vret_v (spX3_startOf s3)).trans ?_
      refine (rn_iload_n (pc := 24) (dd bX3_rowOfEdge dX3_rowOfEdge_24) rfl).trans ?_
      refine (rn_iconst (pc := 25) (dd bX3_rowOfEdge dX3_rowOfEdge_25) (by decide)).trans ?_
      refine (rg_idiv (pc := 26) (dd bX3_rowOfEdge dX3_rowOfEdge_26) (by decide) (p4 c1 c2) (p5 c1 c2)).trans ?_
      refine (rn_icmp_gt (t := 36) (pc := 27) (dd bX3_rowOfEdge dX3_rowOfEdge_27) rfl).trans (itec (fun c3 => ?_) (fun c3 => ?_))
      · refine (rn_iload_n (pc := 36) (dd bX3_rowOfEdge dX3_rowOfEdge_36) rfl).trans ?_
        exact rn_ireturn (pc := 37) (dd bX3_rowOfEdge dX3_rowOfEdge_37) (Or.inl rfl)
      · refine (rg_iinc (pc := 30) (dd bX3_rowOfEdge dX3_rowOfEdge_30) rfl (Nat.le_of_ble_eq_true rfl) (by have z0 := p1 c1; have z1 := p2 c1; omega) (by have z0 := p1 c1; have z1 := p2 c1; omega) rfl).trans ?_
        refine (rn_goto (t := 2) (pc := 33) (dd bX3_rowOfEdge dX3_rowOfEdge_33) rfl).trans ?_
        rfl
theorem bX3_columnOfEdge : vmB mX3_columnOfEdge = cX3_columnOfEdge := rfl
theorem rX3_columnOfEdge_0 {x0 : Int} {x1 : Int} {h : vH} (p1 : 0 ≤ x1) (p2 : x1 < 2147483648) (s3 : shLayout h x0) (p4 : ¬ (x1 < 0) → x1 / 2 < 131 → 0 ≤ x1 / 2) (p5 : ¬ (x1 < 0) → x1 / 2 < 131 → (-2147483648) ≤ h 2 (x0 + 7) (x1 / 2) + x1) (p6 : ¬ (x1 < 0) → x1 / 2 < 131 → h 2 (x0 + 7) (x1 / 2) + x1 < 2147483648) (p7 : ¬ (x1 < 0) → x1 / 2 < 131 → 0 ≤ h 2 (x0 + 7) (x1 / 2) + x1) (p8 : ¬ (x1 < 0) → x1 / 2 < 131 → ¬ ((h 2 (x0 + 7) (x1 / 2) + x1) % 2 = 0) → (-2147483648) ≤ h 2 (x0 + 6) (x1 / 2) + h 2 (x0 + 5) (x1 / 2)) (p9 : ¬ (x1 < 0) → x1 / 2 < 131 → ¬ ((h 2 (x0 + 7) (x1 / 2) + x1) % 2 = 0) → h 2 (x0 + 6) (x1 / 2) + h 2 (x0 + 5) (x1 / 2) < 2147483648) : vrun mX3_columnOfEdge 0 [(1, x0), (0, x1), (9, 0)] [] h = if x1 < 0 then some (.inl (some (0, 0)), h) else if x1 / 2 < 131 then some (.inl (some (0, (if (h 2 (x0 + 7) (x1 / 2) + x1) % 2 = 0 then h 2 (x0 + 6) (x1 / 2) else h 2 (x0 + 6) (x1 / 2) + h 2 (x0 + 5) (x1 / 2)))), h) else some (.inl (some (0, 0)), h) := by
  refine (rn_iload_n (pc := 0) (dd bX3_columnOfEdge dX3_columnOfEdge_0) rfl).trans ?_
  refine (rn_iconst (pc := 1) (dd bX3_columnOfEdge dX3_columnOfEdge_1) (by decide)).trans ?_
  refine (rg_idiv (pc := 2) (dd bX3_columnOfEdge dX3_columnOfEdge_2) (by decide) p1 p2).trans ?_
  refine (rn_istore_n (pc := 3) (dd bX3_columnOfEdge dX3_columnOfEdge_3) (Nat.le_of_ble_eq_true rfl) rfl).trans ?_
  refine (rn_iload_n (pc := 4) (dd bX3_columnOfEdge dX3_columnOfEdge_4) rfl).trans ?_
  refine (rn_if_lt (t := 15) (pc := 5) (dd bX3_columnOfEdge dX3_columnOfEdge_5) rfl).trans (itec (fun c1 => ?_) (fun c1 => ?_))
  · refine (rn_iconst (pc := 15) (dd bX3_columnOfEdge dX3_columnOfEdge_15) (by decide)).trans ?_
    exact rn_ireturn (pc := 16) (dd bX3_columnOfEdge dX3_columnOfEdge_16) (Or.inl rfl)
  · refine (rn_iload_n (pc := 8) (dd bX3_columnOfEdge dX3_columnOfEdge_8) rfl).trans ?_
    refine (rn_sipush (pc := 9) (dd bX3_columnOfEdge dX3_columnOfEdge_9) (by decide)).trans ?_
    refine (rn_icmp_lt (t := 17) (pc := 12) (dd bX3_columnOfEdge dX3_columnOfEdge_12) rfl).trans (itec (fun c2 => ?_) (fun c2 => ?_))
    · refine (rn_aload_n (pc := 17) (dd bX3_columnOfEdge dX3_columnOfEdge_17) rfl).trans ?_
      refine (rg_gf (pc := 18) (dd bX3_columnOfEdge dX3_columnOfEdge_18) (ci := 4) (j := 6) rfl rfl (key := 506) rfl (kc := 24) rfl s3.1 s3.2.2.2.2.2.2.2.2.2.2.2.2.2.2.2.2.2.2.2.1).trans ?_
      refine (rn_iload_n (pc := 21) (dd bX3_columnOfEdge dX3_columnOfEdge_21) rfl).trans ?_
      refine (rg_iaload (pc := 22) (dd bX3_columnOfEdge dX3_columnOfEdge_22) s3.2.2.2.2.2.2.2.2.2.2.2.2.2.2.2.2.2.2.2.2.1 s3.2.2.2.2.2.2.2.2.2.2.2.2.2.2.2.2.2.2.2.2.2.1 (p4 c1 c2) c2 rfl).trans ?_
      refine (rn_iload_n (pc := 23) (dd bX3_columnOfEdge dX3_columnOfEdge_23) rfl).trans ?_
      refine (rg_iadd (pc := 24) (dd bX3_columnOfEdge dX3_columnOfEdge_24) (p5 c1 c2) (p6 c1 c2)).trans ?_
      refine (rn_iconst (pc := 25) (dd bX3_columnOfEdge dX3_columnOfEdge_25) (by decide)).trans ?_
      refine (rg_irem (pc := 26) (dd bX3_columnOfEdge dX3_columnOfEdge_26) (by decide) (p7 c1 c2)).trans ?_
      have e1 : vrun mX3_columnOfEdge 27 [(1, x0), (0, x1), (0, x1 / 2)] [(0, (h 2 (x0 + 7) (x1 / 2) + x1) % 2)] h = vrun mX3_columnOfEdge 52 [(1, x0), (0, x1), (0, x1 / 2)] [(0, (if (h 2 (x0 + 7) (x1 / 2) + x1) % 2 = 0 then h 2 (x0 + 6) (x1 / 2) else h 2 (x0 + 6) (x1 / 2) + h 2 (x0 + 5) (x1 / 2)))] h := by
        refine (rg_if_ne (t := 39) (pc := 27) (dd bX3_columnOfEdge dX3_columnOfEdge_27) rfl).trans ?_
        by_cases c3 : (h 2 (x0 + 7) (x1 / 2) + x1) % 2 = 0
        · refine (if_pos c3).trans ?_
          refine (rn_aload_n (pc := 30) (dd bX3_columnOfEdge dX3_columnOfEdge_30) rfl).trans ?_
          refine (rg_gf (pc := 31) (dd bX3_columnOfEdge dX3_columnOfEdge_31) (ci := 4) (j := 5) rfl rfl (key := 505) rfl (kc := 24) rfl s3.1 s3.2.2.2.2.2.2.2.2.2.2.2.2.2.2.2.2.1).trans ?_
          refine (rn_iload_n (pc := 34) (dd bX3_columnOfEdge dX3_columnOfEdge_34) rfl).trans ?_
          refine (rg_iaload (pc := 35) (dd bX3_columnOfEdge dX3_columnOfEdge_35) s3.2.2.2.2.2.2.2.2.2.2.2.2.2.2.2.2.2.1 s3.2.2.2.2.2.2.2.2.2.2.2.2.2.2.2.2.2.2.1 (by have z0 := p4 c1 c2; omega) c2 rfl).trans ?_
          refine (rn_goto (t := 52) (pc := 36) (dd bX3_columnOfEdge dX3_columnOfEdge_36) rfl).trans ?_
          refine Eq.trans (b := vrun mX3_columnOfEdge 52 [(1, x0), (0, x1), (0, x1 / 2)] [(0, h 2 (x0 + 6) (x1 / 2))] h) rfl ?_
          simp only [if_pos c3]
        · refine (if_neg c3).trans ?_
          refine (rn_aload_n (pc := 39) (dd bX3_columnOfEdge dX3_columnOfEdge_39) rfl).trans ?_
          refine (rg_gf (pc := 40) (dd bX3_columnOfEdge dX3_columnOfEdge_40) (ci := 4) (j := 5) rfl rfl (key := 505) rfl (kc := 24) rfl s3.1 s3.2.2.2.2.2.2.2.2.2.2.2.2.2.2.2.2.1).trans ?_
          refine (rn_iload_n (pc := 43) (dd bX3_columnOfEdge dX3_columnOfEdge_43) rfl).trans ?_
          refine (rg_iaload (pc := 44) (dd bX3_columnOfEdge dX3_columnOfEdge_44) s3.2.2.2.2.2.2.2.2.2.2.2.2.2.2.2.2.2.1 s3.2.2.2.2.2.2.2.2.2.2.2.2.2.2.2.2.2.2.1 (by have z0 := p4 c1 c2; omega) c2 rfl).trans ?_
          refine (rn_aload_n (pc := 45) (dd bX3_columnOfEdge dX3_columnOfEdge_45) rfl).trans ?_
          refine (rg_gf (pc := 46) (dd bX3_columnOfEdge dX3_columnOfEdge_46) (ci := 4) (j := 4) rfl rfl (key := 504) rfl (kc := 24) rfl s3.1 s3.2.2.2.2.2.2.2.2.2.2.2.2.2.1).trans ?_
          refine (rn_iload_n (pc := 49) (dd bX3_columnOfEdge dX3_columnOfEdge_49) rfl).trans ?_
          refine (rg_iaload (pc := 50) (dd bX3_columnOfEdge dX3_columnOfEdge_50) s3.2.2.2.2.2.2.2.2.2.2.2.2.2.2.1 s3.2.2.2.2.2.2.2.2.2.2.2.2.2.2.2.1 (by have z0 := p4 c1 c2; omega) c2 rfl).trans ?_
          refine (rg_iadd (pc := 51) (dd bX3_columnOfEdge dX3_columnOfEdge_51) (p8 c1 c2 c3) (p9 c1 c2 c3)).trans ?_
          refine Eq.trans (b := vrun mX3_columnOfEdge 52 [(1, x0), (0, x1), (0, x1 / 2)] [(0, h 2 (x0 + 6) (x1 / 2) + h 2 (x0 + 5) (x1 / 2))] h) rfl ?_
          simp only [if_neg c3]
      refine e1.trans ?_
      exact rn_ireturn (pc := 52) (dd bX3_columnOfEdge dX3_columnOfEdge_52) (Or.inl rfl)
    · refine (rn_iconst (pc := 15) (dd bX3_columnOfEdge dX3_columnOfEdge_15) (by decide)).trans ?_
      exact rn_ireturn (pc := 16) (dd bX3_columnOfEdge dX3_columnOfEdge_16) (Or.inl rfl)
def fX3_columnOfEdge (h : vH) (x0 : Int) (x1 : Int) : Int := (if x1 < 0 then 0 else (if x1 / 2 < 131 then (if (h 2 (x0 + 7) (x1 / 2) + x1) % 2 = 0 then h 2 (x0 + 6) (x1 / 2) else h 2 (x0 + 6) (x1 / 2) + h 2 (x0 + 5) (x1 / 2)) else 0))
theorem spX3_columnOfEdge {x0 : Int} {x1 : Int} {h : vH} (p1 : 0 ≤ x1) (p2 : x1 < 2147483648) (s3 : shLayout h x0) (p4 : ¬ (x1 < 0) → x1 / 2 < 131 → 0 ≤ x1 / 2) (p5 : ¬ (x1 < 0) → x1 / 2 < 131 → (-2147483648) ≤ h 2 (x0 + 7) (x1 / 2) + x1) (p6 : ¬ (x1 < 0) → x1 / 2 < 131 → h 2 (x0 + 7) (x1 / 2) + x1 < 2147483648) (p7 : ¬ (x1 < 0) → x1 / 2 < 131 → 0 ≤ h 2 (x0 + 7) (x1 / 2) + x1) (p8 : ¬ (x1 < 0) → x1 / 2 < 131 → ¬ ((h 2 (x0 + 7) (x1 / 2) + x1) % 2 = 0) → (-2147483648) ≤ h 2 (x0 + 6) (x1 / 2) + h 2 (x0 + 5) (x1 / 2)) (p9 : ¬ (x1 < 0) → x1 / 2 < 131 → ¬ ((h 2 (x0 + 7) (x1 / 2) + x1) % 2 = 0) → h 2 (x0 + 6) (x1 / 2) + h 2 (x0 + 5) (x1 / 2) < 2147483648) : vcl mX3_columnOfEdge [(1, x0), (0, x1)] h = some (.inl (some (0, fX3_columnOfEdge h x0 x1)), h) := by
  refine (show _ = _ from rX3_columnOfEdge_0 p1 p2 s3 p4 p5 p6 p7 p8 p9).trans ?_
  simp only [ret_ite]
  rfl
theorem bX3_placeUp : vmB mX3_placeUp = cX3_placeUp := rfl
theorem rX3_placeUp_0 {x0 : Int} {x1 : Int} {x2 : Int} {h : vH} (s1 : shLayout h x0) (p2 : (-2147483648) ≤ x1 + 1) (p3 : x1 + 1 < 2147483648) (p4 : (-2147483648) ≤ fX3_startOf h x0 (x1 + 1) - fX3_startOf h x0 x1) (p5 : fX3_startOf h x0 (x1 + 1) - fX3_startOf h x0 x1 < 2147483648) (p6 : (-2147483648) ≤ fX3_startOf h x0 x1 + 0) (p7 : fX3_startOf h x0 x1 + 0 < 2147483648) (p8 : ¬ ((0 : Int) < 0) → (-2147483648) ≤ x1 + 1) (p9 : ¬ ((0 : Int) < 0) → x1 + 1 < 2147483648) (p10 : ¬ ((0 : Int) < 0) → (-2147483648) ≤ fX3_startOf h x0 (x1 + 1) - fX3_startOf h x0 x1) (p11 : ¬ ((0 : Int) < 0) → fX3_startOf h x0 (x1 + 1) - fX3_startOf h x0 x1 < 2147483648) : vrun mX3_placeUp 0 [(1, x0), (0, x1), (0, x2), (9, 0), (9, 0), (9, 0), (9, 0)] [] h = vrun mX3_placeUp 17 [(1, x0), (0, x1), (0, x2), (0, fX3_cellsIn h x0 x1), (0, fX3_onScreen h x0 x1 0), (0, 0), (9, 0)] [] h := by
  refine (rn_aload_n (pc := 0) (dd bX3_placeUp dX3_placeUp_0) rfl).trans ?_
  refine (rn_iload_n (pc := 1) (dd bX3_placeUp dX3_placeUp_1) rfl).trans ?_
  refine (rg_virtual (pc := 2) (dd bX3_placeUp dX3_placeUp_2) rfl rfl (by decide) (kc := 24) rfl s1.1 (as := [(1, x0), (0, x1)]) rfl ⟨Nat.le_of_ble_eq_true rfl, Nat.le_of_ble_eq_true rfl, Nat.le_of_ble_eq_true rfl, Nat.le_of_ble_eq_true rfl⟩).trans ?_
  refine (vret_v (spX3_cellsIn p2 p3 s1 p4 p5)).trans ?_
  refine (rn_istore_n (pc := 5) (dd bX3_placeUp dX3_placeUp_5) (Nat.le_of_ble_eq_true rfl) rfl).trans ?_
  refine (rn_aload_n (pc := 6) (dd bX3_placeUp dX3_placeUp_6) rfl).trans ?_
  refine (rn_iload_n (pc := 7) (dd bX3_placeUp dX3_placeUp_7) rfl).trans ?_
  refine (rn_iconst (pc := 8) (dd bX3_placeUp dX3_placeUp_8) (by decide)).trans ?_
  refine (rg_virtual (pc := 9) (dd bX3_placeUp dX3_placeUp_9) rfl rfl (by decide) (kc := 24) rfl s1.1 (as := [(1, x0), (0, x1), (0, 0)]) rfl ⟨Nat.le_of_ble_eq_true rfl, Nat.le_of_ble_eq_true rfl, Nat.le_of_ble_eq_true rfl, Nat.le_of_ble_eq_true rfl⟩).trans ?_
  refine (vret_v (spX3_onScreen s1 p6 p7 p8 p9 p10 p11)).trans ?_
  refine (rn_istore (pc := 12) (dd bX3_placeUp dX3_placeUp_12) (Nat.le_of_ble_eq_true rfl) rfl).trans ?_
  refine (rn_iconst (pc := 14) (dd bX3_placeUp dX3_placeUp_14) (by decide)).trans ?_
  refine (rn_istore (pc := 15) (dd bX3_placeUp dX3_placeUp_15) (Nat.le_of_ble_eq_true rfl) rfl).trans ?_
  rfl
theorem rX3_placeUp_17 {x0 : Int} {x1 : Int} {x2 : Int} {x3 : Int} {x4 : Int} {x5 : Int} {v6 : vv} {h : vH} (s1 : shLayout h x0) (p2 : ¬ (x3 ≤ x5) → (-2147483648) ≤ fX3_startOf h x0 x1 + x5) (p3 : ¬ (x3 ≤ x5) → fX3_startOf h x0 x1 + x5 < 2147483648) (p4 : ¬ (x3 ≤ x5) → ¬ (x5 < 0) → (-2147483648) ≤ x1 + 1) (p5 : ¬ (x3 ≤ x5) → ¬ (x5 < 0) → x1 + 1 < 2147483648) (p6 : ¬ (x3 ≤ x5) → ¬ (x5 < 0) → (-2147483648) ≤ fX3_startOf h x0 (x1 + 1) - fX3_startOf h x0 x1) (p7 : ¬ (x3 ≤ x5) → ¬ (x5 < 0) → fX3_startOf h x0 (x1 + 1) - fX3_startOf h x0 x1 < 2147483648) (p8 : ¬ (x3 ≤ x5) → (-2147483648) ≤ x5 + 1) (p9 : ¬ (x3 ≤ x5) → x5 + 1 < 2147483648) : vrun mX3_placeUp 17 [(1, x0), (0, x1), (0, x2), (0, x3), (0, x4), (0, x5), v6] [] h = if x3 ≤ x5 then some (.inl (some (0, (if x4 < 0 then h 512 x0 0 else (if 131 ≤ x4 then h 512 x0 0 else h 2 (x0 + 4) x4)))), h) else vrun mX3_placeUp 17 [(1, x0), (0, x1), (0, x2), (0, x3), (0, (if fX3_onScreen h x0 x1 x5 < 0 then x4 else (if 131 ≤ fX3_onScreen h x0 x1 x5 then x4 else (if h 2 (x0 + 5) (fX3_onScreen h x0 x1 x5) ≤ 0 then x4 else (if x2 < h 2 (x0 + 6) (fX3_onScreen h x0 x1 x5) then x4 else fX3_onScreen h x0 x1 x5))))), (0, x5 + 1), (0, fX3_onScreen h x0 x1 x5)] [] h := by
  refine (rn_iload (pc := 17) (dd bX3_placeUp dX3_placeUp_17) rfl).trans ?_
  refine (rn_iload_n (pc := 19) (dd bX3_placeUp dX3_placeUp_19) rfl).trans ?_
  refine (rn_icmp_ge (t := 76) (pc := 20) (dd bX3_placeUp dX3_placeUp_20) rfl).trans (itec (fun c1 => ?_) (fun c1 => ?_))
  · refine (rn_iload (pc := 76) (dd bX3_placeUp dX3_placeUp_76) rfl).trans ?_
    have e2 : vrun mX3_placeUp 78 [(1, x0), (0, x1), (0, x2), (0, x3), (0, x4), (0, x5), v6] [(0, x4)] h = vrun mX3_placeUp 103 [(1, x0), (0, x1), (0, x2), (0, x3), (0, x4), (0, x5), v6] [(0, (if x4 < 0 then h 512 x0 0 else (if 131 ≤ x4 then h 512 x0 0 else h 2 (x0 + 4) x4)))] h := by
      refine (rn_if_lt (t := 99) (pc := 78) (dd bX3_placeUp dX3_placeUp_78) rfl).trans ?_
      by_cases c2 : x4 < 0
      · refine (if_pos c2).trans ?_
        refine (rn_aload_n (pc := 99) (dd bX3_placeUp dX3_placeUp_99) rfl).trans ?_
        refine (rg_gf (pc := 100) (dd bX3_placeUp dX3_placeUp_100) (ci := 4) (j := 12) rfl rfl (key := 512) rfl (kc := 24) rfl s1.1 rfl).trans ?_
        refine Eq.trans (b := vrun mX3_placeUp 103 [(1, x0), (0, x1), (0, x2), (0, x3), (0, x4), (0, x5), v6] [(0, h 512 x0 0)] h) rfl ?_
        simp only [if_pos c2]
      · refine (if_neg c2).trans ?_
        refine (rn_iload (pc := 81) (dd bX3_placeUp dX3_placeUp_81) rfl).trans ?_
        refine (rn_sipush (pc := 83) (dd bX3_placeUp dX3_placeUp_83) (by decide)).trans ?_
        have e1 : vrun mX3_placeUp 86 [(1, x0), (0, x1), (0, x2), (0, x3), (0, x4), (0, x5), v6] [(0, 131), (0, x4)] h = vrun mX3_placeUp 103 [(1, x0), (0, x1), (0, x2), (0, x3), (0, x4), (0, x5), v6] [(0, (if 131 ≤ x4 then h 512 x0 0 else h 2 (x0 + 4) x4))] h := by
          refine (rn_icmp_ge (t := 99) (pc := 86) (dd bX3_placeUp dX3_placeUp_86) rfl).trans ?_
          by_cases c3 : 131 ≤ x4
          · refine (if_pos c3).trans ?_
            refine (rn_aload_n (pc := 99) (dd bX3_placeUp dX3_placeUp_99) rfl).trans ?_
            refine (rg_gf (pc := 100) (dd bX3_placeUp dX3_placeUp_100) (ci := 4) (j := 12) rfl rfl (key := 512) rfl (kc := 24) rfl s1.1 rfl).trans ?_
            refine Eq.trans (b := vrun mX3_placeUp 103 [(1, x0), (0, x1), (0, x2), (0, x3), (0, x4), (0, x5), v6] [(0, h 512 x0 0)] h) rfl ?_
            simp only [if_pos c3]
          · refine (if_neg c3).trans ?_
            refine (rn_aload_n (pc := 89) (dd bX3_placeUp dX3_placeUp_89) rfl).trans ?_
            refine (rg_gf (pc := 90) (dd bX3_placeUp dX3_placeUp_90) (ci := 4) (j := 3) rfl rfl (key := 503) rfl (kc := 24) rfl s1.1 s1.2.2.2.2.2.2.2.2.2.2.1).trans ?_
            refine (rn_iload (pc := 93) (dd bX3_placeUp dX3_placeUp_93) rfl).trans ?_
            refine (rg_iaload (pc := 95) (dd bX3_placeUp dX3_placeUp_95) s1.2.2.2.2.2.2.2.2.2.2.2.1 s1.2.2.2.2.2.2.2.2.2.2.2.2.1 (Int.not_lt.mp c2) (Int.not_le.mp c3) rfl).trans ?_
            refine (rn_goto (t := 103) (pc := 96) (dd bX3_placeUp dX3_placeUp_96) rfl).trans ?_
            refine Eq.trans (b := vrun mX3_placeUp 103 [(1, x0), (0, x1), (0, x2), (0, x3), (0, x4), (0, x5), v6] [(0, h 2 (x0 + 4) x4)] h) rfl ?_
            simp only [if_neg c3]
        refine e1.trans ?_
        refine Eq.trans (b := vrun mX3_placeUp 103 [(1, x0), (0, x1), (0, x2), (0, x3), (0, x4), (0, x5), v6] [(0, (if 131 ≤ x4 then h 512 x0 0 else h 2 (x0 + 4) x4))] h) rfl ?_
        simp only [if_neg c2]
    refine e2.trans ?_
    exact rn_ireturn (pc := 103) (dd bX3_placeUp dX3_placeUp_103) (Or.inl rfl)
  · refine (rn_aload_n (pc := 23) (dd bX3_placeUp dX3_placeUp_23) rfl).trans ?_
    refine (rn_iload_n (pc := 24) (dd bX3_placeUp dX3_placeUp_24) rfl).trans ?_
    refine (rn_iload (pc := 25) (dd bX3_placeUp dX3_placeUp_25) rfl).trans ?_
    refine (rg_virtual (pc := 27) (dd bX3_placeUp dX3_placeUp_27) rfl rfl (by decide) (kc := 24) rfl s1.1 (as := [(1, x0), (0, x1), (0, x5)]) rfl ⟨Nat.le_of_ble_eq_true rfl, Nat.le_of_ble_eq_true rfl, Nat.le_of_ble_eq_true rfl, Nat.le_of_ble_eq_true rfl⟩).trans ?_
    refine (vret_v (spX3_onScreen s1 (p2 c1) (p3 c1) (p4 c1) (p5 c1) (p6 c1) (p7 c1))).trans ?_
    refine (rn_istore (pc := 30) (dd bX3_placeUp dX3_placeUp_30) (Nat.le_of_ble_eq_true rfl) rfl).trans ?_
    refine (rn_iload (pc := 32) (dd bX3_placeUp dX3_placeUp_32) rfl).trans ?_
    have e6 : vrun mX3_placeUp 34 [(1, x0), (0, x1), (0, x2), (0, x3), (0, x4), (0, x5), (0, fX3_onScreen h x0 x1 x5)] [(0, fX3_onScreen h x0 x1 x5)] h = vrun mX3_placeUp 70 [(1, x0), (0, x1), (0, x2), (0, x3), (0, (if fX3_onScreen h x0 x1 x5 < 0 then x4 else (if 131 ≤ fX3_onScreen h x0 x1 x5 then x4 else (if h 2 (x0 + 5) (fX3_onScreen h x0 x1 x5) ≤ 0 then x4 else (if x2 < h 2 (x0 + 6) (fX3_onScreen h x0 x1 x5) then x4 else fX3_onScreen h x0 x1 x5))))), (0, x5), (0, fX3_onScreen h x0 x1 x5)] [] h := by
      refine (rn_if_lt (t := 70) (pc := 34) (dd bX3_placeUp dX3_placeUp_34) rfl).trans ?_
      by_cases c4 : fX3_onScreen h x0 x1 x5 < 0
      · refine (if_pos c4).trans ?_
        refine Eq.trans (b := vrun mX3_placeUp 70 [(1, x0), (0, x1), (0, x2), (0, x3), (0, x4), (0, x5), (0, fX3_onScreen h x0 x1 x5)] [] h) rfl ?_
        simp only [if_pos c4]
      · refine (if_neg c4).trans ?_
        refine (rn_iload (pc := 37) (dd bX3_placeUp dX3_placeUp_37) rfl).trans ?_
        refine (rn_sipush (pc := 39) (dd bX3_placeUp dX3_placeUp_39) (by decide)).trans ?_
        have e5 : vrun mX3_placeUp 42 [(1, x0), (0, x1), (0, x2), (0, x3), (0, x4), (0, x5), (0, fX3_onScreen h x0 x1 x5)] [(0, 131), (0, fX3_onScreen h x0 x1 x5)] h = vrun mX3_placeUp 70 [(1, x0), (0, x1), (0, x2), (0, x3), (0, (if 131 ≤ fX3_onScreen h x0 x1 x5 then x4 else (if h 2 (x0 + 5) (fX3_onScreen h x0 x1 x5) ≤ 0 then x4 else (if x2 < h 2 (x0 + 6) (fX3_onScreen h x0 x1 x5) then x4 else fX3_onScreen h x0 x1 x5)))), (0, x5), (0, fX3_onScreen h x0 x1 x5)] [] h := by
          refine (rn_icmp_ge (t := 70) (pc := 42) (dd bX3_placeUp dX3_placeUp_42) rfl).trans ?_
          by_cases c5 : 131 ≤ fX3_onScreen h x0 x1 x5
          · refine (if_pos c5).trans ?_
            refine Eq.trans (b := vrun mX3_placeUp 70 [(1, x0), (0, x1), (0, x2), (0, x3), (0, x4), (0, x5), (0, fX3_onScreen h x0 x1 x5)] [] h) rfl ?_
            simp only [if_pos c5]
          · refine (if_neg c5).trans ?_
            refine (rn_aload_n (pc := 45) (dd bX3_placeUp dX3_placeUp_45) rfl).trans ?_
            refine (rg_gf (pc := 46) (dd bX3_placeUp dX3_placeUp_46) (ci := 4) (j := 4) rfl rfl (key := 504) rfl (kc := 24) rfl s1.1 s1.2.2.2.2.2.2.2.2.2.2.2.2.2.1).trans ?_
            refine (rn_iload (pc := 49) (dd bX3_placeUp dX3_placeUp_49) rfl).trans ?_
            refine (rg_iaload (pc := 51) (dd bX3_placeUp dX3_placeUp_51) s1.2.2.2.2.2.2.2.2.2.2.2.2.2.2.1 s1.2.2.2.2.2.2.2.2.2.2.2.2.2.2.2.1 (Int.not_lt.mp c4) (Int.not_le.mp c5) rfl).trans ?_
            have e4 : vrun mX3_placeUp 52 [(1, x0), (0, x1), (0, x2), (0, x3), (0, x4), (0, x5), (0, fX3_onScreen h x0 x1 x5)] [(0, h 2 (x0 + 5) (fX3_onScreen h x0 x1 x5))] h = vrun mX3_placeUp 70 [(1, x0), (0, x1), (0, x2), (0, x3), (0, (if h 2 (x0 + 5) (fX3_onScreen h x0 x1 x5) ≤ 0 then x4 else (if x2 < h 2 (x0 + 6) (fX3_onScreen h x0 x1 x5) then x4 else fX3_onScreen h x0 x1 x5))), (0, x5), (0, fX3_onScreen h x0 x1 x5)] [] h := by
              refine (rn_if_le (t := 70) (pc := 52) (dd bX3_placeUp dX3_placeUp_52) rfl).trans ?_
              by_cases c6 : h 2 (x0 + 5) (fX3_onScreen h x0 x1 x5) ≤ 0
              · refine (if_pos c6).trans ?_
                refine Eq.trans (b := vrun mX3_placeUp 70 [(1, x0), (0, x1), (0, x2), (0, x3), (0, x4), (0, x5), (0, fX3_onScreen h x0 x1 x5)] [] h) rfl ?_
                simp only [if_pos c6]
              · refine (if_neg c6).trans ?_
                refine (rn_aload_n (pc := 55) (dd bX3_placeUp dX3_placeUp_55) rfl).trans ?_
                refine (rg_gf (pc := 56) (dd bX3_placeUp dX3_placeUp_56) (ci := 4) (j := 5) rfl rfl (key := 505) rfl (kc := 24) rfl s1.1 s1.2.2.2.2.2.2.2.2.2.2.2.2.2.2.2.2.1).trans ?_
                refine (rn_iload (pc := 59) (dd bX3_placeUp dX3_placeUp_59) rfl).trans ?_
                refine (rg_iaload (pc := 61) (dd bX3_placeUp dX3_placeUp_61) s1.2.2.2.2.2.2.2.2.2.2.2.2.2.2.2.2.2.1 s1.2.2.2.2.2.2.2.2.2.2.2.2.2.2.2.2.2.2.1 (Int.not_lt.mp c4) (Int.not_le.mp c5) rfl).trans ?_
                refine (rn_iload_n (pc := 62) (dd bX3_placeUp dX3_placeUp_62) rfl).trans ?_
                have e3 : vrun mX3_placeUp 63 [(1, x0), (0, x1), (0, x2), (0, x3), (0, x4), (0, x5), (0, fX3_onScreen h x0 x1 x5)] [(0, x2), (0, h 2 (x0 + 6) (fX3_onScreen h x0 x1 x5))] h = vrun mX3_placeUp 70 [(1, x0), (0, x1), (0, x2), (0, x3), (0, (if x2 < h 2 (x0 + 6) (fX3_onScreen h x0 x1 x5) then x4 else fX3_onScreen h x0 x1 x5)), (0, x5), (0, fX3_onScreen h x0 x1 x5)] [] h := by
                  refine (rn_icmp_gt (t := 70) (pc := 63) (dd bX3_placeUp dX3_placeUp_63) rfl).trans ?_
                  by_cases c7 : x2 < h 2 (x0 + 6) (fX3_onScreen h x0 x1 x5)
                  · refine (if_pos c7).trans ?_
                    refine Eq.trans (b := vrun mX3_placeUp 70 [(1, x0), (0, x1), (0, x2), (0, x3), (0, x4), (0, x5), (0, fX3_onScreen h x0 x1 x5)] [] h) rfl ?_
                    simp only [if_pos c7]
                  · refine (if_neg c7).trans ?_
                    refine (rn_iload (pc := 66) (dd bX3_placeUp dX3_placeUp_66) rfl).trans ?_
                    refine (rn_istore (pc := 68) (dd bX3_placeUp dX3_placeUp_68) (Nat.le_of_ble_eq_true rfl) rfl).trans ?_
                    refine Eq.trans (b := vrun mX3_placeUp 70 [(1, x0), (0, x1), (0, x2), (0, x3), (0, fX3_onScreen h x0 x1 x5), (0, x5), (0, fX3_onScreen h x0 x1 x5)] [] h) rfl ?_
                    simp only [if_neg c7]
                refine e3.trans ?_
                refine Eq.trans (b := vrun mX3_placeUp 70 [(1, x0), (0, x1), (0, x2), (0, x3), (0, (if x2 < h 2 (x0 + 6) (fX3_onScreen h x0 x1 x5) then x4 else fX3_onScreen h x0 x1 x5)), (0, x5), (0, fX3_onScreen h x0 x1 x5)] [] h) rfl ?_
                simp only [if_neg c6]
            refine e4.trans ?_
            refine Eq.trans (b := vrun mX3_placeUp 70 [(1, x0), (0, x1), (0, x2), (0, x3), (0, (if h 2 (x0 + 5) (fX3_onScreen h x0 x1 x5) ≤ 0 then x4 else (if x2 < h 2 (x0 + 6) (fX3_onScreen h x0 x1 x5) then x4 else fX3_onScreen h x0 x1 x5))), (0, x5), (0, fX3_onScreen h x0 x1 x5)] [] h) rfl ?_
            simp only [if_neg c5]
        refine e5.trans ?_
        refine Eq.trans (b := vrun mX3_placeUp 70 [(1, x0), (0, x1), (0, x2), (0, x3), (0, (if 131 ≤ fX3_onScreen h x0 x1 x5 then x4 else (if h 2 (x0 + 5) (fX3_onScreen h x0 x1 x5) ≤ 0 then x4 else (if x2 < h 2 (x0 + 6) (fX3_onScreen h x0 x1 x5) then x4 else fX3_onScreen h x0 x1 x5)))), (0, x5), (0, fX3_onScreen h x0 x1 x5)] [] h) rfl ?_
        simp only [if_neg c4]
    refine e6.trans ?_
    refine (rg_iinc (pc := 70) (dd bX3_placeUp dX3_placeUp_70) rfl (Nat.le_of_ble_eq_true rfl) (p8 c1) (p9 c1) rfl).trans ?_
    refine (rn_goto (t := 17) (pc := 73) (dd bX3_placeUp dX3_placeUp_73) rfl).trans ?_
    rfl
theorem bX3_firstPlace : vmB mX3_firstPlace = cX3_firstPlace := rfl
theorem rX3_firstPlace_0 {x0 : Int} {x1 : Int} {h : vH} (s1 : shLayout h x0) : vrun mX3_firstPlace 0 [(1, x0), (0, x1), (9, 0)] [] h = vrun mX3_firstPlace 10 [(1, x0), (0, x1), (0, max (fX3_startOf h x0 x1) 0)] [] h := by
  refine (rn_aload_n (pc := 0) (dd bX3_firstPlace dX3_firstPlace_0) rfl).trans ?_
  refine (rn_iload_n (pc := 1) (dd bX3_firstPlace dX3_firstPlace_1) rfl).trans ?_
  refine (rg_virtual (pc := 2) (dd bX3_firstPlace dX3_firstPlace_2) rfl rfl (by decide) (kc := 24) rfl s1.1 (as := [(1, x0), (0, x1)]) rfl ⟨Nat.le_of_ble_eq_true rfl, Nat.le_of_ble_eq_true rfl, Nat.le_of_ble_eq_true rfl, Nat.le_of_ble_eq_true rfl⟩).trans ?_
  refine (vret_v (spX3_startOf s1)).trans ?_
  refine (rn_iconst (pc := 5) (dd bX3_firstPlace dX3_firstPlace_5) (by decide)).trans ?_
  refine (rg_max (pc := 6) (dd bX3_firstPlace dX3_firstPlace_6) rfl ⟨Nat.le_of_ble_eq_true rfl, Nat.le_of_ble_eq_true rfl, Nat.le_of_ble_eq_true rfl⟩).trans ?_
  refine (rn_istore_n (pc := 9) (dd bX3_firstPlace dX3_firstPlace_9) (Nat.le_of_ble_eq_true rfl) rfl).trans ?_
  rfl
theorem rX3_firstPlace_10 {x0 : Int} {x1 : Int} {x2 : Int} {h : vH} (p1 : (-2147483648) ≤ x1 + 1) (p2 : x1 + 1 < 2147483648) (s3 : shLayout h x0) (p4 : fX3_startOf h x0 (x1 + 1) ≤ x2 → (-2147483648) ≤ h 510 x0 0 - 1) (p5 : fX3_startOf h x0 (x1 + 1) ≤ x2 → h 510 x0 0 - 1 < 2147483648) (p6 : ¬ (fX3_startOf h x0 (x1 + 1) ≤ x2) → 131 ≤ x2 → (-2147483648) ≤ h 510 x0 0 - 1) (p7 : ¬ (fX3_startOf h x0 (x1 + 1) ≤ x2) → 131 ≤ x2 → h 510 x0 0 - 1 < 2147483648) (p8 : ¬ (fX3_startOf h x0 (x1 + 1) ≤ x2) → ¬ (131 ≤ x2) → 0 ≤ x2) : vrun mX3_firstPlace 10 [(1, x0), (0, x1), (0, x2)] [] h = if fX3_startOf h x0 (x1 + 1) ≤ x2 then some (.inl (some (0, (if x1 = h 510 x0 0 - 1 then h 512 x0 0 else 0))), h) else if 131 ≤ x2 then some (.inl (some (0, (if x1 = h 510 x0 0 - 1 then h 512 x0 0 else 0))), h) else if h 2 (x0 + 3) x2 = (-1) then vrun mX3_firstPlace 10 [(1, x0), (0, x1), (0, x2 + 1)] [] h else some (.inl (some (0, h 2 (x0 + 3) x2)), h) := by
  refine (rn_iload_n (pc := 10) (dd bX3_firstPlace dX3_firstPlace_10) rfl).trans ?_
  refine (rn_aload_n (pc := 11) (dd bX3_firstPlace dX3_firstPlace_11) rfl).trans ?_
  refine (rn_iload_n (pc := 12) (dd bX3_firstPlace dX3_firstPlace_12) rfl).trans ?_
  refine (rn_iconst (pc := 13) (dd bX3_firstPlace dX3_firstPlace_13) (by decide)).trans ?_
  refine (rg_iadd (pc := 14) (dd bX3_firstPlace dX3_firstPlace_14) p1 p2).trans ?_
  refine (rg_virtual (pc := 15) (dd bX3_firstPlace dX3_firstPlace_15) rfl rfl (by decide) (kc := 24) rfl s3.1 (as := [(1, x0), (0, x1 + 1)]) rfl ⟨Nat.le_of_ble_eq_true rfl, Nat.le_of_ble_eq_true rfl, Nat.le_of_ble_eq_true rfl, Nat.le_of_ble_eq_true rfl⟩).trans ?_
  refine (vret_v (spX3_startOf s3)).trans ?_
  refine (rn_icmp_ge (t := 51) (pc := 18) (dd bX3_firstPlace dX3_firstPlace_18) rfl).trans (itec (fun c1 => ?_) (fun c1 => ?_))
  · refine (rn_iload_n (pc := 51) (dd bX3_firstPlace dX3_firstPlace_51) rfl).trans ?_
    refine (rn_aload_n (pc := 52) (dd bX3_firstPlace dX3_firstPlace_52) rfl).trans ?_
    refine (rg_gf (pc := 53) (dd bX3_firstPlace dX3_firstPlace_53) (ci := 4) (j := 10) rfl rfl (key := 510) rfl (kc := 24) rfl s3.1 rfl).trans ?_
    refine (rn_iconst (pc := 56) (dd bX3_firstPlace dX3_firstPlace_56) (by decide)).trans ?_
    refine (rg_isub (pc := 57) (dd bX3_firstPlace dX3_firstPlace_57) (p4 c1) (p5 c1)).trans ?_
    have e1 : vrun mX3_firstPlace 58 [(1, x0), (0, x1), (0, x2)] [(0, h 510 x0 0 - 1), (0, x1)] h = vrun mX3_firstPlace 69 [(1, x0), (0, x1), (0, x2)] [(0, (if x1 = h 510 x0 0 - 1 then h 512 x0 0 else 0))] h := by
      refine (rg_icmp_ne (t := 68) (pc := 58) (dd bX3_firstPlace dX3_firstPlace_58) rfl).trans ?_
      by_cases c2 : x1 = h 510 x0 0 - 1
      · refine (if_pos c2).trans ?_
        refine (rn_aload_n (pc := 61) (dd bX3_firstPlace dX3_firstPlace_61) rfl).trans ?_
        refine (rg_gf (pc := 62) (dd bX3_firstPlace dX3_firstPlace_62) (ci := 4) (j := 12) rfl rfl (key := 512) rfl (kc := 24) rfl s3.1 rfl).trans ?_
        refine (rn_goto (t := 69) (pc := 65) (dd bX3_firstPlace dX3_firstPlace_65) rfl).trans ?_
        refine Eq.trans (b := vrun mX3_firstPlace 69 [(1, x0), (0, x1), (0, x2)] [(0, h 512 x0 0)] h) rfl ?_
        simp only [if_pos c2]
      · refine (if_neg c2).trans ?_
        refine (rn_iconst (pc := 68) (dd bX3_firstPlace dX3_firstPlace_68) (by decide)).trans ?_
        refine Eq.trans (b := vrun mX3_firstPlace 69 [(1, x0), (0, x1), (0, x2)] [(0, 0)] h) rfl ?_
        simp only [if_neg c2]
    refine e1.trans ?_
    exact rn_ireturn (pc := 69) (dd bX3_firstPlace dX3_firstPlace_69) (Or.inl rfl)
  · refine (rn_iload_n (pc := 21) (dd bX3_firstPlace dX3_firstPlace_21) rfl).trans ?_
    refine (rn_sipush (pc := 22) (dd bX3_firstPlace dX3_firstPlace_22) (by decide)).trans ?_
    refine (rn_icmp_ge (t := 51) (pc := 25) (dd bX3_firstPlace dX3_firstPlace_25) rfl).trans (itec (fun c3 => ?_) (fun c3 => ?_))
    · refine (rn_iload_n (pc := 51) (dd bX3_firstPlace dX3_firstPlace_51) rfl).trans ?_
      refine (rn_aload_n (pc := 52) (dd bX3_firstPlace dX3_firstPlace_52) rfl).trans ?_
      refine (rg_gf (pc := 53) (dd bX3_firstPlace dX3_firstPlace_53) (ci := 4) (j := 10) rfl rfl (key := 510) rfl (kc := 24) rfl s3.1 rfl).trans ?_
      refine (rn_iconst (pc := 56) (dd bX3_firstPlace dX3_firstPlace_56) (by decide)).trans ?_
      refine (rg_isub (pc := 57) (dd bX3_firstPlace dX3_firstPlace_57) (p6 c1 c3) (p7 c1 c3)).trans ?_
      have e2 : vrun mX3_firstPlace 58 [(1, x0), (0, x1), (0, x2)] [(0, h 510 x0 0 - 1), (0, x1)] h = vrun mX3_firstPlace 69 [(1, x0), (0, x1), (0, x2)] [(0, (if x1 = h 510 x0 0 - 1 then h 512 x0 0 else 0))] h := by
        refine (rg_icmp_ne (t := 68) (pc := 58) (dd bX3_firstPlace dX3_firstPlace_58) rfl).trans ?_
        by_cases c4 : x1 = h 510 x0 0 - 1
        · refine (if_pos c4).trans ?_
          refine (rn_aload_n (pc := 61) (dd bX3_firstPlace dX3_firstPlace_61) rfl).trans ?_
          refine (rg_gf (pc := 62) (dd bX3_firstPlace dX3_firstPlace_62) (ci := 4) (j := 12) rfl rfl (key := 512) rfl (kc := 24) rfl s3.1 rfl).trans ?_
          refine (rn_goto (t := 69) (pc := 65) (dd bX3_firstPlace dX3_firstPlace_65) rfl).trans ?_
          refine Eq.trans (b := vrun mX3_firstPlace 69 [(1, x0), (0, x1), (0, x2)] [(0, h 512 x0 0)] h) rfl ?_
          simp only [if_pos c4]
        · refine (if_neg c4).trans ?_
          refine (rn_iconst (pc := 68) (dd bX3_firstPlace dX3_firstPlace_68) (by decide)).trans ?_
          refine Eq.trans (b := vrun mX3_firstPlace 69 [(1, x0), (0, x1), (0, x2)] [(0, 0)] h) rfl ?_
          simp only [if_neg c4]
      refine e2.trans ?_
      exact rn_ireturn (pc := 69) (dd bX3_firstPlace dX3_firstPlace_69) (Or.inl rfl)
    · refine (rn_aload_n (pc := 28) (dd bX3_firstPlace dX3_firstPlace_28) rfl).trans ?_
      refine (rg_gf (pc := 29) (dd bX3_firstPlace dX3_firstPlace_29) (ci := 4) (j := 2) rfl rfl (key := 502) rfl (kc := 24) rfl s3.1 s3.2.2.2.2.2.2.2.1).trans ?_
      refine (rn_iload_n (pc := 32) (dd bX3_firstPlace dX3_firstPlace_32) rfl).trans ?_
      refine (rg_iaload (pc := 33) (dd bX3_firstPlace dX3_firstPlace_33) s3.2.2.2.2.2.2.2.2.1 s3.2.2.2.2.2.2.2.2.2.1 (p8 c1 c3) (Int.not_le.mp c3) rfl).trans ?_
      refine (rn_iconst (pc := 34) (dd bX3_firstPlace dX3_firstPlace_34) (by decide)).trans ?_
      refine (rn_icmp_eq (t := 45) (pc := 35) (dd bX3_firstPlace dX3_firstPlace_35) rfl).trans (itec (fun c5 => ?_) (fun c5 => ?_))
      · refine (rg_iinc (pc := 45) (dd bX3_firstPlace dX3_firstPlace_45) rfl (Nat.le_of_ble_eq_true rfl) (by have z0 := p8 c1 c3; omega) (by have z0 := p8 c1 c3; omega) rfl).trans ?_
        refine (rn_goto (t := 10) (pc := 48) (dd bX3_firstPlace dX3_firstPlace_48) rfl).trans ?_
        rfl
      · refine (rn_aload_n (pc := 38) (dd bX3_firstPlace dX3_firstPlace_38) rfl).trans ?_
        refine (rg_gf (pc := 39) (dd bX3_firstPlace dX3_firstPlace_39) (ci := 4) (j := 2) rfl rfl (key := 502) rfl (kc := 24) rfl s3.1 s3.2.2.2.2.2.2.2.1).trans ?_
        refine (rn_iload_n (pc := 42) (dd bX3_firstPlace dX3_firstPlace_42) rfl).trans ?_
        refine (rg_iaload (pc := 43) (dd bX3_firstPlace dX3_firstPlace_43) s3.2.2.2.2.2.2.2.2.1 s3.2.2.2.2.2.2.2.2.2.1 (by have z0 := p8 c1 c3; omega) (Int.not_le.mp c3) rfl).trans ?_
        exact rn_ireturn (pc := 44) (dd bX3_firstPlace dX3_firstPlace_44) (Or.inl rfl)
theorem bX3_shownAhead : vmB mX3_shownAhead = cX3_shownAhead := rfl
theorem rX3_shownAhead_0 {x0 : Int} {x1 : Int} {h : vH} : vrun mX3_shownAhead 0 [(1, x0), (0, x1), (9, 0), (9, 0)] [] h = vrun mX3_shownAhead 4 [(1, x0), (0, x1), (0, (-1)), (0, 0)] [] h := by
  refine (rn_iconst (pc := 0) (dd bX3_shownAhead dX3_shownAhead_0) (by decide)).trans ?_
  refine (rn_istore_n (pc := 1) (dd bX3_shownAhead dX3_shownAhead_1) (Nat.le_of_ble_eq_true rfl) rfl).trans ?_
  refine (rn_iconst (pc := 2) (dd bX3_shownAhead dX3_shownAhead_2) (by decide)).trans ?_
  refine (rn_istore_n (pc := 3) (dd bX3_shownAhead dX3_shownAhead_3) (Nat.le_of_ble_eq_true rfl) rfl).trans ?_
  rfl
theorem rX3_shownAhead_4 {x0 : Int} {x1 : Int} {x2 : Int} {x3 : Int} {h : vH} (s1 : shLayout h x0) (p2 : ¬ (h 509 x0 0 ≤ x3) → ¬ (131 ≤ x3) → 0 ≤ x3) : vrun mX3_shownAhead 4 [(1, x0), (0, x1), (0, x2), (0, x3)] [] h = if h 509 x0 0 ≤ x3 then some (.inl (some (0, x2)), h) else if 131 ≤ x3 then some (.inl (some (0, x2)), h) else vrun mX3_shownAhead 4 [(1, x0), (0, x1), (0, (if x1 ≤ h 2 (x0 + 3) x3 then x2 else max x2 (h 2 (x0 + 3) x3))), (0, x3 + 1)] [] h := by
  refine (rn_iload_n (pc := 4) (dd bX3_shownAhead dX3_shownAhead_4) rfl).trans ?_
  refine (rn_aload_n (pc := 5) (dd bX3_shownAhead dX3_shownAhead_5) rfl).trans ?_
  refine (rg_gf (pc := 6) (dd bX3_shownAhead dX3_shownAhead_6) (ci := 4) (j := 9) rfl rfl (key := 509) rfl (kc := 24) rfl s1.1 rfl).trans ?_
  refine (rn_icmp_ge (t := 46) (pc := 9) (dd bX3_shownAhead dX3_shownAhead_9) rfl).trans (itec (fun c1 => ?_) (fun c1 => ?_))
  · refine (rn_iload_n (pc := 46) (dd bX3_shownAhead dX3_shownAhead_46) rfl).trans ?_
    exact rn_ireturn (pc := 47) (dd bX3_shownAhead dX3_shownAhead_47) (Or.inl rfl)
  · refine (rn_iload_n (pc := 12) (dd bX3_shownAhead dX3_shownAhead_12) rfl).trans ?_
    refine (rn_sipush (pc := 13) (dd bX3_shownAhead dX3_shownAhead_13) (by decide)).trans ?_
    refine (rn_icmp_ge (t := 46) (pc := 16) (dd bX3_shownAhead dX3_shownAhead_16) rfl).trans (itec (fun c2 => ?_) (fun c2 => ?_))
    · refine (rn_iload_n (pc := 46) (dd bX3_shownAhead dX3_shownAhead_46) rfl).trans ?_
      exact rn_ireturn (pc := 47) (dd bX3_shownAhead dX3_shownAhead_47) (Or.inl rfl)
    · refine (rn_aload_n (pc := 19) (dd bX3_shownAhead dX3_shownAhead_19) rfl).trans ?_
      refine (rg_gf (pc := 20) (dd bX3_shownAhead dX3_shownAhead_20) (ci := 4) (j := 2) rfl rfl (key := 502) rfl (kc := 24) rfl s1.1 s1.2.2.2.2.2.2.2.1).trans ?_
      refine (rn_iload_n (pc := 23) (dd bX3_shownAhead dX3_shownAhead_23) rfl).trans ?_
      refine (rg_iaload (pc := 24) (dd bX3_shownAhead dX3_shownAhead_24) s1.2.2.2.2.2.2.2.2.1 s1.2.2.2.2.2.2.2.2.2.1 (p2 c1 c2) (Int.not_le.mp c2) rfl).trans ?_
      refine (rn_iload_n (pc := 25) (dd bX3_shownAhead dX3_shownAhead_25) rfl).trans ?_
      have e1 : vrun mX3_shownAhead 26 [(1, x0), (0, x1), (0, x2), (0, x3)] [(0, x1), (0, h 2 (x0 + 3) x3)] h = vrun mX3_shownAhead 40 [(1, x0), (0, x1), (0, (if x1 ≤ h 2 (x0 + 3) x3 then x2 else max x2 (h 2 (x0 + 3) x3))), (0, x3)] [] h := by
        refine (rn_icmp_ge (t := 40) (pc := 26) (dd bX3_shownAhead dX3_shownAhead_26) rfl).trans ?_
        by_cases c3 : x1 ≤ h 2 (x0 + 3) x3
        · refine (if_pos c3).trans ?_
          refine Eq.trans (b := vrun mX3_shownAhead 40 [(1, x0), (0, x1), (0, x2), (0, x3)] [] h) rfl ?_
          simp only [if_pos c3]
        · refine (if_neg c3).trans ?_
          refine (rn_iload_n (pc := 29) (dd bX3_shownAhead dX3_shownAhead_29) rfl).trans ?_
          refine (rn_aload_n (pc := 30) (dd bX3_shownAhead dX3_shownAhead_30) rfl).trans ?_
          refine (rg_gf (pc := 31) (dd bX3_shownAhead dX3_shownAhead_31) (ci := 4) (j := 2) rfl rfl (key := 502) rfl (kc := 24) rfl s1.1 s1.2.2.2.2.2.2.2.1).trans ?_
          refine (rn_iload_n (pc := 34) (dd bX3_shownAhead dX3_shownAhead_34) rfl).trans ?_
          refine (rg_iaload (pc := 35) (dd bX3_shownAhead dX3_shownAhead_35) s1.2.2.2.2.2.2.2.2.1 s1.2.2.2.2.2.2.2.2.2.1 (by have z0 := p2 c1 c2; omega) (Int.not_le.mp c2) rfl).trans ?_
          refine (rg_max (pc := 36) (dd bX3_shownAhead dX3_shownAhead_36) rfl ⟨Nat.le_of_ble_eq_true rfl, Nat.le_of_ble_eq_true rfl, Nat.le_of_ble_eq_true rfl⟩).trans ?_
          refine (rn_istore_n (pc := 39) (dd bX3_shownAhead dX3_shownAhead_39) (Nat.le_of_ble_eq_true rfl) rfl).trans ?_
          refine Eq.trans (b := vrun mX3_shownAhead 40 [(1, x0), (0, x1), (0, max x2 (h 2 (x0 + 3) x3)), (0, x3)] [] h) rfl ?_
          simp only [if_neg c3]
      refine e1.trans ?_
      refine (rg_iinc (pc := 40) (dd bX3_shownAhead dX3_shownAhead_40) rfl (Nat.le_of_ble_eq_true rfl) (by have z0 := p2 c1 c2; omega) (by have z0 := p2 c1 c2; omega) rfl).trans ?_
      refine (rn_goto (t := 4) (pc := 43) (dd bX3_shownAhead dX3_shownAhead_43) rfl).trans ?_
      rfl
theorem bX3_shownBehind : vmB mX3_shownBehind = cX3_shownBehind := rfl
theorem rX3_shownBehind_0 {x0 : Int} {x1 : Int} {h : vH} : vrun mX3_shownBehind 0 [(1, x0), (0, x1), (9, 0)] [] h = vrun mX3_shownBehind 2 [(1, x0), (0, x1), (0, 0)] [] h := by
  refine (rn_iconst (pc := 0) (dd bX3_shownBehind dX3_shownBehind_0) (by decide)).trans ?_
  refine (rn_istore_n (pc := 1) (dd bX3_shownBehind dX3_shownBehind_1) (Nat.le_of_ble_eq_true rfl) rfl).trans ?_
  rfl
theorem rX3_shownBehind_2 {x0 : Int} {x1 : Int} {x2 : Int} {h : vH} (s1 : shLayout h x0) (p2 : ¬ (h 509 x0 0 ≤ x2) → ¬ (131 ≤ x2) → 0 ≤ x2) : vrun mX3_shownBehind 2 [(1, x0), (0, x1), (0, x2)] [] h = if h 509 x0 0 ≤ x2 then some (.inl (some (0, (if h 512 x0 0 ≤ x1 then (-1) else h 512 x0 0))), h) else if 131 ≤ x2 then some (.inl (some (0, (if h 512 x0 0 ≤ x1 then (-1) else h 512 x0 0))), h) else if h 2 (x0 + 3) x2 ≤ x1 then vrun mX3_shownBehind 2 [(1, x0), (0, x1), (0, x2 + 1)] [] h else some (.inl (some (0, h 2 (x0 + 3) x2)), h) := by
  refine (rn_iload_n (pc := 2) (dd bX3_shownBehind dX3_shownBehind_2) rfl).trans ?_
  refine (rn_aload_n (pc := 3) (dd bX3_shownBehind dX3_shownBehind_3) rfl).trans ?_
  refine (rg_gf (pc := 4) (dd bX3_shownBehind dX3_shownBehind_4) (ci := 4) (j := 9) rfl rfl (key := 509) rfl (kc := 24) rfl s1.1 rfl).trans ?_
  refine (rn_icmp_ge (t := 40) (pc := 7) (dd bX3_shownBehind dX3_shownBehind_7) rfl).trans (itec (fun c1 => ?_) (fun c1 => ?_))
  · refine (rn_aload_n (pc := 40) (dd bX3_shownBehind dX3_shownBehind_40) rfl).trans ?_
    refine (rg_gf (pc := 41) (dd bX3_shownBehind dX3_shownBehind_41) (ci := 4) (j := 12) rfl rfl (key := 512) rfl (kc := 24) rfl s1.1 rfl).trans ?_
    refine (rn_iload_n (pc := 44) (dd bX3_shownBehind dX3_shownBehind_44) rfl).trans ?_
    have e1 : vrun mX3_shownBehind 45 [(1, x0), (0, x1), (0, x2)] [(0, x1), (0, h 512 x0 0)] h = vrun mX3_shownBehind 56 [(1, x0), (0, x1), (0, x2)] [(0, (if h 512 x0 0 ≤ x1 then (-1) else h 512 x0 0))] h := by
      refine (rn_icmp_le (t := 55) (pc := 45) (dd bX3_shownBehind dX3_shownBehind_45) rfl).trans ?_
      by_cases c2 : h 512 x0 0 ≤ x1
      · refine (if_pos c2).trans ?_
        refine (rn_iconst (pc := 55) (dd bX3_shownBehind dX3_shownBehind_55) (by decide)).trans ?_
        refine Eq.trans (b := vrun mX3_shownBehind 56 [(1, x0), (0, x1), (0, x2)] [(0, (-1))] h) rfl ?_
        simp only [if_pos c2]
      · refine (if_neg c2).trans ?_
        refine (rn_aload_n (pc := 48) (dd bX3_shownBehind dX3_shownBehind_48) rfl).trans ?_
        refine (rg_gf (pc := 49) (dd bX3_shownBehind dX3_shownBehind_49) (ci := 4) (j := 12) rfl rfl (key := 512) rfl (kc := 24) rfl s1.1 rfl).trans ?_
        refine (rn_goto (t := 56) (pc := 52) (dd bX3_shownBehind dX3_shownBehind_52) rfl).trans ?_
        refine Eq.trans (b := vrun mX3_shownBehind 56 [(1, x0), (0, x1), (0, x2)] [(0, h 512 x0 0)] h) rfl ?_
        simp only [if_neg c2]
    refine e1.trans ?_
    exact rn_ireturn (pc := 56) (dd bX3_shownBehind dX3_shownBehind_56) (Or.inl rfl)
  · refine (rn_iload_n (pc := 10) (dd bX3_shownBehind dX3_shownBehind_10) rfl).trans ?_
    refine (rn_sipush (pc := 11) (dd bX3_shownBehind dX3_shownBehind_11) (by decide)).trans ?_
    refine (rn_icmp_ge (t := 40) (pc := 14) (dd bX3_shownBehind dX3_shownBehind_14) rfl).trans (itec (fun c3 => ?_) (fun c3 => ?_))
    · refine (rn_aload_n (pc := 40) (dd bX3_shownBehind dX3_shownBehind_40) rfl).trans ?_
      refine (rg_gf (pc := 41) (dd bX3_shownBehind dX3_shownBehind_41) (ci := 4) (j := 12) rfl rfl (key := 512) rfl (kc := 24) rfl s1.1 rfl).trans ?_
      refine (rn_iload_n (pc := 44) (dd bX3_shownBehind dX3_shownBehind_44) rfl).trans ?_
      have e2 : vrun mX3_shownBehind 45 [(1, x0), (0, x1), (0, x2)] [(0, x1), (0, h 512 x0 0)] h = vrun mX3_shownBehind 56 [(1, x0), (0, x1), (0, x2)] [(0, (if h 512 x0 0 ≤ x1 then (-1) else h 512 x0 0))] h := by
        refine (rn_icmp_le (t := 55) (pc := 45) (dd bX3_shownBehind dX3_shownBehind_45) rfl).trans ?_
        by_cases c4 : h 512 x0 0 ≤ x1
        · refine (if_pos c4).trans ?_
          refine (rn_iconst (pc := 55) (dd bX3_shownBehind dX3_shownBehind_55) (by decide)).trans ?_
          refine Eq.trans (b := vrun mX3_shownBehind 56 [(1, x0), (0, x1), (0, x2)] [(0, (-1))] h) rfl ?_
          simp only [if_pos c4]
        · refine (if_neg c4).trans ?_
          refine (rn_aload_n (pc := 48) (dd bX3_shownBehind dX3_shownBehind_48) rfl).trans ?_
          refine (rg_gf (pc := 49) (dd bX3_shownBehind dX3_shownBehind_49) (ci := 4) (j := 12) rfl rfl (key := 512) rfl (kc := 24) rfl s1.1 rfl).trans ?_
          refine (rn_goto (t := 56) (pc := 52) (dd bX3_shownBehind dX3_shownBehind_52) rfl).trans ?_
          refine Eq.trans (b := vrun mX3_shownBehind 56 [(1, x0), (0, x1), (0, x2)] [(0, h 512 x0 0)] h) rfl ?_
          simp only [if_neg c4]
      refine e2.trans ?_
      exact rn_ireturn (pc := 56) (dd bX3_shownBehind dX3_shownBehind_56) (Or.inl rfl)
    · refine (rn_aload_n (pc := 17) (dd bX3_shownBehind dX3_shownBehind_17) rfl).trans ?_
      refine (rg_gf (pc := 18) (dd bX3_shownBehind dX3_shownBehind_18) (ci := 4) (j := 2) rfl rfl (key := 502) rfl (kc := 24) rfl s1.1 s1.2.2.2.2.2.2.2.1).trans ?_
      refine (rn_iload_n (pc := 21) (dd bX3_shownBehind dX3_shownBehind_21) rfl).trans ?_
      refine (rg_iaload (pc := 22) (dd bX3_shownBehind dX3_shownBehind_22) s1.2.2.2.2.2.2.2.2.1 s1.2.2.2.2.2.2.2.2.2.1 (p2 c1 c3) (Int.not_le.mp c3) rfl).trans ?_
      refine (rn_iload_n (pc := 23) (dd bX3_shownBehind dX3_shownBehind_23) rfl).trans ?_
      refine (rn_icmp_le (t := 34) (pc := 24) (dd bX3_shownBehind dX3_shownBehind_24) rfl).trans (itec (fun c5 => ?_) (fun c5 => ?_))
      · refine (rg_iinc (pc := 34) (dd bX3_shownBehind dX3_shownBehind_34) rfl (Nat.le_of_ble_eq_true rfl) (by have z0 := p2 c1 c3; omega) (by have z0 := p2 c1 c3; omega) rfl).trans ?_
        refine (rn_goto (t := 2) (pc := 37) (dd bX3_shownBehind dX3_shownBehind_37) rfl).trans ?_
        rfl
      · refine (rn_aload_n (pc := 27) (dd bX3_shownBehind dX3_shownBehind_27) rfl).trans ?_
        refine (rg_gf (pc := 28) (dd bX3_shownBehind dX3_shownBehind_28) (ci := 4) (j := 2) rfl rfl (key := 502) rfl (kc := 24) rfl s1.1 s1.2.2.2.2.2.2.2.1).trans ?_
        refine (rn_iload_n (pc := 31) (dd bX3_shownBehind dX3_shownBehind_31) rfl).trans ?_
        refine (rg_iaload (pc := 32) (dd bX3_shownBehind dX3_shownBehind_32) s1.2.2.2.2.2.2.2.2.1 s1.2.2.2.2.2.2.2.2.2.1 (by have z0 := p2 c1 c3; omega) (Int.not_le.mp c3) rfl).trans ?_
        exact rn_ireturn (pc := 33) (dd bX3_shownBehind dX3_shownBehind_33) (Or.inl rfl)
theorem bX3_lastPlace : vmB mX3_lastPlace = cX3_lastPlace := rfl
theorem rX3_lastPlace_0 {x0 : Int} {x1 : Int} {h : vH} (s1 : shLayout h x0) (p2 : (-2147483648) ≤ h 510 x0 0 - 1) (p3 : h 510 x0 0 - 1 < 2147483648) : vrun mX3_lastPlace 0 [(1, x0), (0, x1), (9, 0), (9, 0)] [] h = if x1 = h 510 x0 0 - 1 then some (.inl (some (0, h 512 x0 0)), h) else vrun mX3_lastPlace 27 [(1, x0), (0, x1), (0, (-1)), (0, max (fX3_startOf h x0 x1) 0)] [] h := by
  refine (rn_iload_n (pc := 0) (dd bX3_lastPlace dX3_lastPlace_0) rfl).trans ?_
  refine (rn_aload_n (pc := 1) (dd bX3_lastPlace dX3_lastPlace_1) rfl).trans ?_
  refine (rg_gf (pc := 2) (dd bX3_lastPlace dX3_lastPlace_2) (ci := 4) (j := 10) rfl rfl (key := 510) rfl (kc := 24) rfl s1.1 rfl).trans ?_
  refine (rn_iconst (pc := 5) (dd bX3_lastPlace dX3_lastPlace_5) (by decide)).trans ?_
  refine (rg_isub (pc := 6) (dd bX3_lastPlace dX3_lastPlace_6) p2 p3).trans ?_
  refine (rg_icmp_ne (t := 15) (pc := 7) (dd bX3_lastPlace dX3_lastPlace_7) rfl).trans (itec (fun c1 => ?_) (fun c1 => ?_))
  · refine (rn_aload_n (pc := 10) (dd bX3_lastPlace dX3_lastPlace_10) rfl).trans ?_
    refine (rg_gf (pc := 11) (dd bX3_lastPlace dX3_lastPlace_11) (ci := 4) (j := 12) rfl rfl (key := 512) rfl (kc := 24) rfl s1.1 rfl).trans ?_
    exact rn_ireturn (pc := 14) (dd bX3_lastPlace dX3_lastPlace_14) (Or.inl rfl)
  · refine (rn_iconst (pc := 15) (dd bX3_lastPlace dX3_lastPlace_15) (by decide)).trans ?_
    refine (rn_istore_n (pc := 16) (dd bX3_lastPlace dX3_lastPlace_16) (Nat.le_of_ble_eq_true rfl) rfl).trans ?_
    refine (rn_aload_n (pc := 17) (dd bX3_lastPlace dX3_lastPlace_17) rfl).trans ?_
    refine (rn_iload_n (pc := 18) (dd bX3_lastPlace dX3_lastPlace_18) rfl).trans ?_
    refine (rg_virtual (pc := 19) (dd bX3_lastPlace dX3_lastPlace_19) rfl rfl (by decide) (kc := 24) rfl s1.1 (as := [(1, x0), (0, x1)]) rfl ⟨Nat.le_of_ble_eq_true rfl, Nat.le_of_ble_eq_true rfl, Nat.le_of_ble_eq_true rfl, Nat.le_of_ble_eq_true rfl⟩).trans ?_
    refine (vret_v (spX3_startOf s1)).trans ?_
    refine (rn_iconst (pc := 22) (dd bX3_lastPlace dX3_lastPlace_22) (by decide)).trans ?_
    refine (rg_max (pc := 23) (dd bX3_lastPlace dX3_lastPlace_23) rfl ⟨Nat.le_of_ble_eq_true rfl, Nat.le_of_ble_eq_true rfl, Nat.le_of_ble_eq_true rfl⟩).trans ?_
    refine (rn_istore_n (pc := 26) (dd bX3_lastPlace dX3_lastPlace_26) (Nat.le_of_ble_eq_true rfl) rfl).trans ?_
    rfl
theorem rX3_lastPlace_27 {x0 : Int} {x1 : Int} {x2 : Int} {x3 : Int} {h : vH} (p1 : (-2147483648) ≤ x1 + 1) (p2 : x1 + 1 < 2147483648) (s3 : shLayout h x0) (p4 : ¬ (fX3_startOf h x0 (x1 + 1) ≤ x3) → ¬ (131 ≤ x3) → 0 ≤ x3) : vrun mX3_lastPlace 27 [(1, x0), (0, x1), (0, x2), (0, x3)] [] h = if fX3_startOf h x0 (x1 + 1) ≤ x3 then some (.inl (some (0, x2)), h) else if 131 ≤ x3 then some (.inl (some (0, x2)), h) else vrun mX3_lastPlace 27 [(1, x0), (0, x1), (0, max x2 (h 2 (x0 + 3) x3)), (0, x3 + 1)] [] h := by
  refine (rn_iload_n (pc := 27) (dd bX3_lastPlace dX3_lastPlace_27) rfl).trans ?_
  refine (rn_aload_n (pc := 28) (dd bX3_lastPlace dX3_lastPlace_28) rfl).trans ?_
  refine (rn_iload_n (pc := 29) (dd bX3_lastPlace dX3_lastPlace_29) rfl).trans ?_
  refine (rn_iconst (pc := 30) (dd bX3_lastPlace dX3_lastPlace_30) (by decide)).trans ?_
  refine (rg_iadd (pc := 31) (dd bX3_lastPlace dX3_lastPlace_31) p1 p2).trans ?_
  refine (rg_virtual (pc := 32) (dd bX3_lastPlace dX3_lastPlace_32) rfl rfl (by decide) (kc := 24) rfl s3.1 (as := [(1, x0), (0, x1 + 1)]) rfl ⟨Nat.le_of_ble_eq_true rfl, Nat.le_of_ble_eq_true rfl, Nat.le_of_ble_eq_true rfl, Nat.le_of_ble_eq_true rfl⟩).trans ?_
  refine (vret_v (spX3_startOf s3)).trans ?_
  refine (rn_icmp_ge (t := 62) (pc := 35) (dd bX3_lastPlace dX3_lastPlace_35) rfl).trans (itec (fun c1 => ?_) (fun c1 => ?_))
  · refine (rn_iload_n (pc := 62) (dd bX3_lastPlace dX3_lastPlace_62) rfl).trans ?_
    exact rn_ireturn (pc := 63) (dd bX3_lastPlace dX3_lastPlace_63) (Or.inl rfl)
  · refine (rn_iload_n (pc := 38) (dd bX3_lastPlace dX3_lastPlace_38) rfl).trans ?_
    refine (rn_sipush (pc := 39) (dd bX3_lastPlace dX3_lastPlace_39) (by decide)).trans ?_
    refine (rn_icmp_ge (t := 62) (pc := 42) (dd bX3_lastPlace dX3_lastPlace_42) rfl).trans (itec (fun c2 => ?_) (fun c2 => ?_))
    · refine (rn_iload_n (pc := 62) (dd bX3_lastPlace dX3_lastPlace_62) rfl).trans ?_
      exact rn_ireturn (pc := 63) (dd bX3_lastPlace dX3_lastPlace_63) (Or.inl rfl)
    · refine (rn_iload_n (pc := 45) (dd bX3_lastPlace dX3_lastPlace_45) rfl).trans ?_
      refine (rn_aload_n (pc := 46) (dd bX3_lastPlace dX3_lastPlace_46) rfl).trans ?_
      refine (rg_gf (pc := 47) (dd bX3_lastPlace dX3_lastPlace_47) (ci := 4) (j := 2) rfl rfl (key := 502) rfl (kc := 24) rfl s3.1 s3.2.2.2.2.2.2.2.1).trans ?_
      refine (rn_iload_n (pc := 50) (dd bX3_lastPlace dX3_lastPlace_50) rfl).trans ?_
      refine (rg_iaload (pc := 51) (dd bX3_lastPlace dX3_lastPlace_51) s3.2.2.2.2.2.2.2.2.1 s3.2.2.2.2.2.2.2.2.2.1 (p4 c1 c2) (Int.not_le.mp c2) rfl).trans ?_
      refine (rg_max (pc := 52) (dd bX3_lastPlace dX3_lastPlace_52) rfl ⟨Nat.le_of_ble_eq_true rfl, Nat.le_of_ble_eq_true rfl, Nat.le_of_ble_eq_true rfl⟩).trans ?_
      refine (rn_istore_n (pc := 55) (dd bX3_lastPlace dX3_lastPlace_55) (Nat.le_of_ble_eq_true rfl) rfl).trans ?_
      refine (rg_iinc (pc := 56) (dd bX3_lastPlace dX3_lastPlace_56) rfl (Nat.le_of_ble_eq_true rfl) (by have z0 := p4 c1 c2; omega) (by have z0 := p4 c1 c2; omega) rfl).trans ?_
      refine (rn_goto (t := 27) (pc := 59) (dd bX3_lastPlace dX3_lastPlace_59) rfl).trans ?_
      rfl

