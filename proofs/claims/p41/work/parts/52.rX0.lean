theorem bX0_setPartner : vmB mX0_setPartner = cX0_setPartner := rfl
theorem rX0_setPartner_0 {x0 : Int} {x1 : Int} {x2 : Int} {h : vH} (s1 : shDirections h x0) : vrun mX0_setPartner 0 [(1, x0), (0, x1), (0, x2)] [] h = some (.inl none, (if x1 < 0 then h else (if 131 ≤ x1 then h else vup h 2 (x0 + 1) x1 x2))) := by
  refine (rn_iload_n (pc := 0) (dd bX0_setPartner dX0_setPartner_0) rfl).trans ?_
  have e2 : vrun mX0_setPartner 1 [(1, x0), (0, x1), (0, x2)] [(0, x1)] h = vrun mX0_setPartner 18 [(1, x0), (0, x1), (0, x2)] [] (if x1 < 0 then h else (if 131 ≤ x1 then h else vup h 2 (x0 + 1) x1 x2)) := by
    refine (rn_if_lt (t := 18) (pc := 1) (dd bX0_setPartner dX0_setPartner_1) rfl).trans ?_
    by_cases c1 : x1 < 0
    · refine (if_pos c1).trans ?_
      refine Eq.trans (b := vrun mX0_setPartner 18 [(1, x0), (0, x1), (0, x2)] [] h) rfl ?_
      simp only [if_pos c1]
    · refine (if_neg c1).trans ?_
      refine (rn_iload_n (pc := 4) (dd bX0_setPartner dX0_setPartner_4) rfl).trans ?_
      refine (rn_sipush (pc := 5) (dd bX0_setPartner dX0_setPartner_5) (by decide)).trans ?_
      have e1 : vrun mX0_setPartner 8 [(1, x0), (0, x1), (0, x2)] [(0, 131), (0, x1)] h = vrun mX0_setPartner 18 [(1, x0), (0, x1), (0, x2)] [] (if 131 ≤ x1 then h else vup h 2 (x0 + 1) x1 x2) := by
        refine (rn_icmp_ge (t := 18) (pc := 8) (dd bX0_setPartner dX0_setPartner_8) rfl).trans ?_
        by_cases c2 : 131 ≤ x1
        · refine (if_pos c2).trans ?_
          refine Eq.trans (b := vrun mX0_setPartner 18 [(1, x0), (0, x1), (0, x2)] [] h) rfl ?_
          simp only [if_pos c2]
        · refine (if_neg c2).trans ?_
          refine (rn_aload_n (pc := 11) (dd bX0_setPartner dX0_setPartner_11) rfl).trans ?_
          refine (rg_gf (pc := 12) (dd bX0_setPartner dX0_setPartner_12) (ci := 1) (j := 0) rfl rfl (key := 200) rfl (kc := 21) rfl s1.1 s1.2.1).trans ?_
          refine (rn_iload_n (pc := 15) (dd bX0_setPartner dX0_setPartner_15) rfl).trans ?_
          refine (rn_iload_n (pc := 16) (dd bX0_setPartner dX0_setPartner_16) rfl).trans ?_
          refine (rg_iastore (pc := 17) (dd bX0_setPartner dX0_setPartner_17) s1.2.2.1 s1.2.2.2.1 (Int.not_lt.mp c1) (Int.not_le.mp c2)).trans ?_
          refine Eq.trans (b := vrun mX0_setPartner 18 [(1, x0), (0, x1), (0, x2)] [] (vup h 2 (x0 + 1) x1 x2)) rfl ?_
          simp only [if_neg c2]
      refine e1.trans ?_
      refine Eq.trans (b := vrun mX0_setPartner 18 [(1, x0), (0, x1), (0, x2)] [] (if 131 ≤ x1 then h else vup h 2 (x0 + 1) x1 x2)) rfl ?_
      simp only [if_neg c1]
  refine e2.trans ?_
  exact rn_return (pc := 18) (dd bX0_setPartner dX0_setPartner_18) rfl
theorem bX0_matchIsolating : vmB mX0_matchIsolating = cX0_matchIsolating := rfl
theorem rX0_matchIsolating_0 {x0 : Int} {x1 : Int} {h : vH} : vrun mX0_matchIsolating 0 [(1, x0), (1, x1), (9, 0), (9, 0)] [] h = vrun mX0_matchIsolating 4 [(1, x0), (1, x1), (0, 0), (0, 0)] [] h := by
  refine (rn_iconst (pc := 0) (dd bX0_matchIsolating dX0_matchIsolating_0) (by decide)).trans ?_
  refine (rn_istore_n (pc := 1) (dd bX0_matchIsolating dX0_matchIsolating_1) (Nat.le_of_ble_eq_true rfl) rfl).trans ?_
  refine (rn_iconst (pc := 2) (dd bX0_matchIsolating dX0_matchIsolating_2) (by decide)).trans ?_
  refine (rn_istore_n (pc := 3) (dd bX0_matchIsolating dX0_matchIsolating_3) (Nat.le_of_ble_eq_true rfl) rfl).trans ?_
  rfl
theorem rX0_matchIsolating_4 {x0 : Int} {x1 : Int} {x2 : Int} {x3 : Int} {h : vH} (s1 : shDirections h x0) (p2 : ¬ (h 209 x0 0 ≤ x3) → ¬ (131 ≤ x3) → 0 ≤ x3) (s3 : shLayout h x1) (p4 : ¬ (h 209 x0 0 ≤ x3) → ¬ (131 ≤ x3) → (vup h 2 (x0 + 1) x3 (-1)) 2 (x1 + 1) x3 = 60 → 131 ≤ x2 → (vup h 2 (x0 + 1) x3 (-1)) 2 (x1 + 1) x3 = 62 → ¬ (x2 ≤ 0) → x2 + (-1) < 2147483648) (p5 : ¬ (h 209 x0 0 ≤ x3) → ¬ (131 ≤ x3) → (vup h 2 (x0 + 1) x3 (-1)) 2 (x1 + 1) x3 = 60 → 131 ≤ x2 → (vup h 2 (x0 + 1) x3 (-1)) 2 (x1 + 1) x3 = 62 → ¬ (x2 ≤ 0) → x2 + (-1) < 131) (p6 : ¬ (h 209 x0 0 ≤ x3) → ¬ (131 ≤ x3) → (vup h 2 (x0 + 1) x3 (-1)) 2 (x1 + 1) x3 = 60 → ¬ (131 ≤ x2) → 0 ≤ x2) (p7 : ¬ (h 209 x0 0 ≤ x3) → ¬ (131 ≤ x3) → ¬ ((vup h 2 (x0 + 1) x3 (-1)) 2 (x1 + 1) x3 = 60) → (vup h 2 (x0 + 1) x3 (-1)) 2 (x1 + 1) x3 = 62 → ¬ (x2 ≤ 0) → x2 + (-1) < 2147483648) (p8 : ¬ (h 209 x0 0 ≤ x3) → ¬ (131 ≤ x3) → ¬ ((vup h 2 (x0 + 1) x3 (-1)) 2 (x1 + 1) x3 = 60) → (vup h 2 (x0 + 1) x3 (-1)) 2 (x1 + 1) x3 = 62 → ¬ (x2 ≤ 0) → x2 + (-1) < 131) : vrun mX0_matchIsolating 4 [(1, x0), (1, x1), (0, x2), (0, x3)] [] h = if h 209 x0 0 ≤ x3 then some (.inl none, h) else if 131 ≤ x3 then some (.inl none, h) else if (vup h 2 (x0 + 1) x3 (-1)) 2 (x1 + 1) x3 = 60 then if 131 ≤ x2 then if (vup h 2 (x0 + 1) x3 (-1)) 2 (x1 + 1) x3 = 62 then if x2 ≤ 0 then vrun mX0_matchIsolating 4 [(1, x0), (1, x1), (0, x2), (0, x3 + 1)] [] (vup h 2 (x0 + 1) x3 (-1)) else vret vrun mX0_matchIsolating 83 [(1, x0), (1, x1), (0, x2 + (-1)), (0, x3)] [] (vcl mX0_setPartner [(1, x0), (0, h 2 (x0 + 7) (x2 + (-1))), (0, x3)] (vup h 2 (x0 + 1) x3 (-1))) else vrun mX0_matchIsolating 4 [(1, x0), (1, x1), (0, x2), (0, x3 + 1)] [] (vup h 2 (x0 + 1) x3 (-1)) else vrun mX0_matchIsolating 4 [(1, x0), (1, x1), (0, x2 + 1), (0, x3 + 1)] [] (vup (vup h 2 (x0 + 1) x3 (-1)) 2 (x0 + 7) x2 x3) else if (vup h 2 (x0 + 1) x3 (-1)) 2 (x1 + 1) x3 = 62 then if x2 ≤ 0 then vrun mX0_matchIsolating 4 [(1, x0), (1, x1), (0, x2), (0, x3 + 1)] [] (vup h 2 (x0 + 1) x3 (-1)) else vret vrun mX0_matchIsolating 83 [(1, x0), (1, x1), (0, x2 + (-1)), (0, x3)] [] (vcl mX0_setPartner [(1, x0), (0, h 2 (x0 + 7) (x2 + (-1))), (0, x3)] (vup h 2 (x0 + 1) x3 (-1))) else vrun mX0_matchIsolating 4 [(1, x0), (1, x1), (0, x2), (0, x3 + 1)] [] (vup h 2 (x0 + 1) x3 (-1)) := by
  refine (rn_iload_n (pc := 4) (dd bX0_matchIsolating dX0_matchIsolating_4) rfl).trans ?_
  refine (rn_aload_n (pc := 5) (dd bX0_matchIsolating dX0_matchIsolating_5) rfl).trans ?_
  refine (rg_gf (pc := 6) (dd bX0_matchIsolating dX0_matchIsolating_6) (ci := 1) (j := 9) rfl rfl (key := 209) rfl (kc := 21) rfl s1.1 rfl).trans ?_
  refine (rn_icmp_ge (t := 92) (pc := 9) (dd bX0_matchIsolating dX0_matchIsolating_9) rfl).trans (itec (fun c1 => ?_) (fun c1 => ?_))
  · exact rn_return (pc := 92) (dd bX0_matchIsolating dX0_matchIsolating_92) rfl
  · refine (rn_iload_n (pc := 12) (dd bX0_matchIsolating dX0_matchIsolating_12) rfl).trans ?_
    refine (rn_sipush (pc := 13) (dd bX0_matchIsolating dX0_matchIsolating_13) (by decide)).trans ?_
    refine (rn_icmp_ge (t := 92) (pc := 16) (dd bX0_matchIsolating dX0_matchIsolating_16) rfl).trans (itec (fun c2 => ?_) (fun c2 => ?_))
    · exact rn_return (pc := 92) (dd bX0_matchIsolating dX0_matchIsolating_92) rfl
    · refine (rn_aload_n (pc := 19) (dd bX0_matchIsolating dX0_matchIsolating_19) rfl).trans ?_
      refine (rg_gf (pc := 20) (dd bX0_matchIsolating dX0_matchIsolating_20) (ci := 1) (j := 0) rfl rfl (key := 200) rfl (kc := 21) rfl s1.1 s1.2.1).trans ?_
      refine (rn_iload_n (pc := 23) (dd bX0_matchIsolating dX0_matchIsolating_23) rfl).trans ?_
      refine (rn_iconst (pc := 24) (dd bX0_matchIsolating dX0_matchIsolating_24) (by decide)).trans ?_
      refine (rg_iastore (pc := 25) (dd bX0_matchIsolating dX0_matchIsolating_25) s1.2.2.1 s1.2.2.2.1 (p2 c1 c2) (Int.not_le.mp c2)).trans ?_
      refine (rn_aload_n (pc := 26) (dd bX0_matchIsolating dX0_matchIsolating_26) rfl).trans ?_
      refine (rg_gf (pc := 27) (dd bX0_matchIsolating dX0_matchIsolating_27) (ci := 4) (j := 0) rfl rfl (key := 500) rfl (kc := 24) rfl ((vup_k (by decide)).trans s3.1) ((vup_k (by decide)).trans s3.2.1)).trans ?_
      refine (rn_iload_n (pc := 30) (dd bX0_matchIsolating dX0_matchIsolating_30) rfl).trans ?_
      refine (rg_iaload (pc := 31) (dd bX0_matchIsolating dX0_matchIsolating_31) ((vup_k (by decide)).trans s3.2.2.1) ((vup_k (by decide)).trans s3.2.2.2.1) (by have z0 := p2 c1 c2; omega) (Int.not_le.mp c2) rfl).trans ?_
      refine (rn_bipush (pc := 32) (dd bX0_matchIsolating dX0_matchIsolating_32) (by decide)).trans ?_
      refine (rg_icmp_ne (t := 57) (pc := 34) (dd bX0_matchIsolating dX0_matchIsolating_34) rfl).trans (itec (fun c3 => ?_) (fun c3 => ?_))
      · refine (rn_iload_n (pc := 37) (dd bX0_matchIsolating dX0_matchIsolating_37) rfl).trans ?_
        refine (rn_sipush (pc := 38) (dd bX0_matchIsolating dX0_matchIsolating_38) (by decide)).trans ?_
        refine (rn_icmp_ge (t := 57) (pc := 41) (dd bX0_matchIsolating dX0_matchIsolating_41) rfl).trans (itec (fun c4 => ?_) (fun c4 => ?_))
        · refine (rn_aload_n (pc := 57) (dd bX0_matchIsolating dX0_matchIsolating_57) rfl).trans ?_
          refine (rg_gf (pc := 58) (dd bX0_matchIsolating dX0_matchIsolating_58) (ci := 4) (j := 0) rfl rfl (key := 500) rfl (kc := 24) rfl ((vup_k (by decide)).trans s3.1) ((vup_k (by decide)).trans s3.2.1)).trans ?_
          refine (rn_iload_n (pc := 61) (dd bX0_matchIsolating dX0_matchIsolating_61) rfl).trans ?_
          refine (rg_iaload (pc := 62) (dd bX0_matchIsolating dX0_matchIsolating_62) ((vup_k (by decide)).trans s3.2.2.1) ((vup_k (by decide)).trans s3.2.2.2.1) (by have z0 := p2 c1 c2; omega) (Int.not_le.mp c2) rfl).trans ?_
          refine (rn_bipush (pc := 63) (dd bX0_matchIsolating dX0_matchIsolating_63) (by decide)).trans ?_
          refine (rg_icmp_ne (t := 86) (pc := 65) (dd bX0_matchIsolating dX0_matchIsolating_65) rfl).trans (itec (fun c5 => ?_) (fun c5 => ?_))
          · refine (rn_iload_n (pc := 68) (dd bX0_matchIsolating dX0_matchIsolating_68) rfl).trans ?_
            refine (rn_if_le (t := 86) (pc := 69) (dd bX0_matchIsolating dX0_matchIsolating_69) rfl).trans (itec (fun c6 => ?_) (fun c6 => ?_))
            · refine (rg_iinc (pc := 86) (dd bX0_matchIsolating dX0_matchIsolating_86) rfl (Nat.le_of_ble_eq_true rfl) (by have z0 := p2 c1 c2; omega) (by have z0 := p2 c1 c2; omega) rfl).trans ?_
              refine (rn_goto (t := 4) (pc := 89) (dd bX0_matchIsolating dX0_matchIsolating_89) rfl).trans ?_
              rfl
            · refine (rg_iinc (pc := 72) (dd bX0_matchIsolating dX0_matchIsolating_72) rfl (Nat.le_of_ble_eq_true rfl) (by omega) (p4 c1 c2 c3 c4 c5 c6) rfl).trans ?_
              refine (rn_aload_n (pc := 75) (dd bX0_matchIsolating dX0_matchIsolating_75) rfl).trans ?_
              refine (rn_aload_n (pc := 76) (dd bX0_matchIsolating dX0_matchIsolating_76) rfl).trans ?_
              refine (rg_gf (pc := 77) (dd bX0_matchIsolating dX0_matchIsolating_77) (ci := 1) (j := 6) rfl rfl (key := 206) rfl (kc := 21) rfl ((vup_k (by decide)).trans s1.1) ((vup_k (by decide)).trans s1.2.2.2.2.2.2.2.2.2.2.2.2.2.2.2.2.2.2.2.1)).trans ?_
              refine (rn_iload_n (pc := 80) (dd bX0_matchIsolating dX0_matchIsolating_80) rfl).trans ?_
              refine (rg_iaload (pc := 81) (dd bX0_matchIsolating dX0_matchIsolating_81) ((vup_k (by decide)).trans s1.2.2.2.2.2.2.2.2.2.2.2.2.2.2.2.2.2.2.2.2.1) ((vup_k (by decide)).trans s1.2.2.2.2.2.2.2.2.2.2.2.2.2.2.2.2.2.2.2.2.2) (by have z0 := p4 c1 c2 c3 c4 c5 c6; omega) (p5 c1 c2 c3 c4 c5 c6) ((vup_r (by omega)).trans rfl)).trans ?_
              refine (rn_iload_n (pc := 82) (dd bX0_matchIsolating dX0_matchIsolating_82) rfl).trans ?_
              exact rg_virtual (pc := 83) (dd bX0_matchIsolating dX0_matchIsolating_83) rfl rfl (by decide) (kc := 21) rfl ((vup_k (by decide)).trans s1.1) (as := [(1, x0), (0, h 2 (x0 + 7) (x2 + (-1))), (0, x3)]) rfl ⟨Nat.le_of_ble_eq_true rfl, Nat.le_of_ble_eq_true rfl, Nat.le_of_ble_eq_true rfl, Nat.le_of_ble_eq_true rfl⟩
          · refine (rg_iinc (pc := 86) (dd bX0_matchIsolating dX0_matchIsolating_86) rfl (Nat.le_of_ble_eq_true rfl) (by have z0 := p2 c1 c2; omega) (by have z0 := p2 c1 c2; omega) rfl).trans ?_
            refine (rn_goto (t := 4) (pc := 89) (dd bX0_matchIsolating dX0_matchIsolating_89) rfl).trans ?_
            rfl
        · refine (rn_aload_n (pc := 44) (dd bX0_matchIsolating dX0_matchIsolating_44) rfl).trans ?_
          refine (rg_gf (pc := 45) (dd bX0_matchIsolating dX0_matchIsolating_45) (ci := 1) (j := 6) rfl rfl (key := 206) rfl (kc := 21) rfl ((vup_k (by decide)).trans s1.1) ((vup_k (by decide)).trans s1.2.2.2.2.2.2.2.2.2.2.2.2.2.2.2.2.2.2.2.1)).trans ?_
          refine (rn_iload_n (pc := 48) (dd bX0_matchIsolating dX0_matchIsolating_48) rfl).trans ?_
          refine (rn_iload_n (pc := 49) (dd bX0_matchIsolating dX0_matchIsolating_49) rfl).trans ?_
          refine (rg_iastore (pc := 50) (dd bX0_matchIsolating dX0_matchIsolating_50) ((vup_k (by decide)).trans s1.2.2.2.2.2.2.2.2.2.2.2.2.2.2.2.2.2.2.2.2.1) ((vup_k (by decide)).trans s1.2.2.2.2.2.2.2.2.2.2.2.2.2.2.2.2.2.2.2.2.2) (p6 c1 c2 c3 c4) (Int.not_le.mp c4)).trans ?_
          refine (rg_iinc (pc := 51) (dd bX0_matchIsolating dX0_matchIsolating_51) rfl (Nat.le_of_ble_eq_true rfl) (by have z0 := p6 c1 c2 c3 c4; omega) (by have z0 := p6 c1 c2 c3 c4; omega) rfl).trans ?_
          refine (rn_goto (t := 86) (pc := 54) (dd bX0_matchIsolating dX0_matchIsolating_54) rfl).trans ?_
          refine (rg_iinc (pc := 86) (dd bX0_matchIsolating dX0_matchIsolating_86) rfl (Nat.le_of_ble_eq_true rfl) (by have z0 := p2 c1 c2; omega) (by have z0 := p2 c1 c2; omega) rfl).trans ?_
          refine (rn_goto (t := 4) (pc := 89) (dd bX0_matchIsolating dX0_matchIsolating_89) rfl).trans ?_
          rfl
      · refine (rn_aload_n (pc := 57) (dd bX0_matchIsolating dX0_matchIsolating_57) rfl).trans ?_
        refine (rg_gf (pc := 58) (dd bX0_matchIsolating dX0_matchIsolating_58) (ci := 4) (j := 0) rfl rfl (key := 500) rfl (kc := 24) rfl ((vup_k (by decide)).trans s3.1) ((vup_k (by decide)).trans s3.2.1)).trans ?_
        refine (rn_iload_n (pc := 61) (dd bX0_matchIsolating dX0_matchIsolating_61) rfl).trans ?_
        refine (rg_iaload (pc := 62) (dd bX0_matchIsolating dX0_matchIsolating_62) ((vup_k (by decide)).trans s3.2.2.1) ((vup_k (by decide)).trans s3.2.2.2.1) (by have z0 := p2 c1 c2; omega) (Int.not_le.mp c2) rfl).trans ?_
        refine (rn_bipush (pc := 63) (dd bX0_matchIsolating dX0_matchIsolating_63) (by decide)).trans ?_
        refine (rg_icmp_ne (t := 86) (pc := 65) (dd bX0_matchIsolating dX0_matchIsolating_65) rfl).trans (itec (fun c7 => ?_) (fun c7 => ?_))
        · refine (rn_iload_n (pc := 68) (dd bX0_matchIsolating dX0_matchIsolating_68) rfl).trans ?_
          refine (rn_if_le (t := 86) (pc := 69) (dd bX0_matchIsolating dX0_matchIsolating_69) rfl).trans (itec (fun c8 => ?_) (fun c8 => ?_))
          · refine (rg_iinc (pc := 86) (dd bX0_matchIsolating dX0_matchIsolating_86) rfl (Nat.le_of_ble_eq_true rfl) (by have z0 := p2 c1 c2; omega) (by have z0 := p2 c1 c2; omega) rfl).trans ?_
            refine (rn_goto (t := 4) (pc := 89) (dd bX0_matchIsolating dX0_matchIsolating_89) rfl).trans ?_
            rfl
          · refine (rg_iinc (pc := 72) (dd bX0_matchIsolating dX0_matchIsolating_72) rfl (Nat.le_of_ble_eq_true rfl) (by omega) (p7 c1 c2 c3 c7 c8) rfl).trans ?_
            refine (rn_aload_n (pc := 75) (dd bX0_matchIsolating dX0_matchIsolating_75) rfl).trans ?_
            refine (rn_aload_n (pc := 76) (dd bX0_matchIsolating dX0_matchIsolating_76) rfl).trans ?_
            refine (rg_gf (pc := 77) (dd bX0_matchIsolating dX0_matchIsolating_77) (ci := 1) (j := 6) rfl rfl (key := 206) rfl (kc := 21) rfl ((vup_k (by decide)).trans s1.1) ((vup_k (by decide)).trans s1.2.2.2.2.2.2.2.2.2.2.2.2.2.2.2.2.2.2.2.1)).trans ?_
            refine (rn_iload_n (pc := 80) (dd bX0_matchIsolating dX0_matchIsolating_80) rfl).trans ?_
            refine (rg_iaload (pc := 81) (dd bX0_matchIsolating dX0_matchIsolating_81) ((vup_k (by decide)).trans s1.2.2.2.2.2.2.2.2.2.2.2.2.2.2.2.2.2.2.2.2.1) ((vup_k (by decide)).trans s1.2.2.2.2.2.2.2.2.2.2.2.2.2.2.2.2.2.2.2.2.2) (by have z0 := p7 c1 c2 c3 c7 c8; omega) (p8 c1 c2 c3 c7 c8) ((vup_r (by omega)).trans rfl)).trans ?_
            refine (rn_iload_n (pc := 82) (dd bX0_matchIsolating dX0_matchIsolating_82) rfl).trans ?_
            exact rg_virtual (pc := 83) (dd bX0_matchIsolating dX0_matchIsolating_83) rfl rfl (by decide) (kc := 21) rfl ((vup_k (by decide)).trans s1.1) (as := [(1, x0), (0, h 2 (x0 + 7) (x2 + (-1))), (0, x3)]) rfl ⟨Nat.le_of_ble_eq_true rfl, Nat.le_of_ble_eq_true rfl, Nat.le_of_ble_eq_true rfl, Nat.le_of_ble_eq_true rfl⟩
        · refine (rg_iinc (pc := 86) (dd bX0_matchIsolating dX0_matchIsolating_86) rfl (Nat.le_of_ble_eq_true rfl) (by have z0 := p2 c1 c2; omega) (by have z0 := p2 c1 c2; omega) rfl).trans ?_
          refine (rn_goto (t := 4) (pc := 89) (dd bX0_matchIsolating dX0_matchIsolating_89) rfl).trans ?_
          rfl
theorem rX0_matchIsolating_86 {x0 : Int} {x1 : Int} {x2 : Int} {x3 : Int} {h : vH} (p1 : (-2147483648) ≤ x3 + 1) (p2 : x3 + 1 < 2147483648) : vrun mX0_matchIsolating 86 [(1, x0), (1, x1), (0, x2), (0, x3)] [] h = vrun mX0_matchIsolating 4 [(1, x0), (1, x1), (0, x2), (0, x3 + 1)] [] h := by
  refine (rg_iinc (pc := 86) (dd bX0_matchIsolating dX0_matchIsolating_86) rfl (Nat.le_of_ble_eq_true rfl) p1 p2 rfl).trans ?_
  refine (rn_goto (t := 4) (pc := 89) (dd bX0_matchIsolating dX0_matchIsolating_89) rfl).trans ?_
  rfl
theorem bX0_endOfInside : vmB mX0_endOfInside = cX0_endOfInside := rfl
theorem rX0_endOfInside_0 {x0 : Int} {x1 : Int} {h : vH} (s1 : shDirections h x0) : vrun mX0_endOfInside 0 [(1, x0), (0, x1)] [] h = if x1 = (-1) then some (.inl (some (0, h 209 x0 0)), h) else some (.inl (some (0, (if x1 < 0 then (-1) else (if 131 ≤ x1 then (-1) else (if h 2 (x0 + 1) x1 ≤ x1 then (-1) else h 2 (x0 + 1) x1))))), h) := by
  refine (rn_iload_n (pc := 0) (dd bX0_endOfInside dX0_endOfInside_0) rfl).trans ?_
  refine (rn_iconst (pc := 1) (dd bX0_endOfInside dX0_endOfInside_1) (by decide)).trans ?_
  refine (rg_icmp_ne (t := 10) (pc := 2) (dd bX0_endOfInside dX0_endOfInside_2) rfl).trans (itec (fun c1 => ?_) (fun c1 => ?_))
  · refine (rn_aload_n (pc := 5) (dd bX0_endOfInside dX0_endOfInside_5) rfl).trans ?_
    refine (rg_gf (pc := 6) (dd bX0_endOfInside dX0_endOfInside_6) (ci := 1) (j := 9) rfl rfl (key := 209) rfl (kc := 21) rfl s1.1 rfl).trans ?_
    exact rn_ireturn (pc := 9) (dd bX0_endOfInside dX0_endOfInside_9) (Or.inl rfl)
  · refine (rn_iload_n (pc := 10) (dd bX0_endOfInside dX0_endOfInside_10) rfl).trans ?_
    have e3 : vrun mX0_endOfInside 11 [(1, x0), (0, x1)] [(0, x1)] h = vrun mX0_endOfInside 41 [(1, x0), (0, x1)] [(0, (if x1 < 0 then (-1) else (if 131 ≤ x1 then (-1) else (if h 2 (x0 + 1) x1 ≤ x1 then (-1) else h 2 (x0 + 1) x1))))] h := by
      refine (rn_if_lt (t := 40) (pc := 11) (dd bX0_endOfInside dX0_endOfInside_11) rfl).trans ?_
      by_cases c2 : x1 < 0
      · refine (if_pos c2).trans ?_
        refine (rn_iconst (pc := 40) (dd bX0_endOfInside dX0_endOfInside_40) (by decide)).trans ?_
        refine Eq.trans (b := vrun mX0_endOfInside 41 [(1, x0), (0, x1)] [(0, (-1))] h) rfl ?_
        simp only [if_pos c2]
      · refine (if_neg c2).trans ?_
        refine (rn_iload_n (pc := 14) (dd bX0_endOfInside dX0_endOfInside_14) rfl).trans ?_
        refine (rn_sipush (pc := 15) (dd bX0_endOfInside dX0_endOfInside_15) (by decide)).trans ?_
        have e2 : vrun mX0_endOfInside 18 [(1, x0), (0, x1)] [(0, 131), (0, x1)] h = vrun mX0_endOfInside 41 [(1, x0), (0, x1)] [(0, (if 131 ≤ x1 then (-1) else (if h 2 (x0 + 1) x1 ≤ x1 then (-1) else h 2 (x0 + 1) x1)))] h := by
          refine (rn_icmp_ge (t := 40) (pc := 18) (dd bX0_endOfInside dX0_endOfInside_18) rfl).trans ?_
          by_cases c3 : 131 ≤ x1
          · refine (if_pos c3).trans ?_
            refine (rn_iconst (pc := 40) (dd bX0_endOfInside dX0_endOfInside_40) (by decide)).trans ?_
            refine Eq.trans (b := vrun mX0_endOfInside 41 [(1, x0), (0, x1)] [(0, (-1))] h) rfl ?_
            simp only [if_pos c3]
          · refine (if_neg c3).trans ?_
            refine (rn_aload_n (pc := 21) (dd bX0_endOfInside dX0_endOfInside_21) rfl).trans ?_
            refine (rg_gf (pc := 22) (dd bX0_endOfInside dX0_endOfInside_22) (ci := 1) (j := 0) rfl rfl (key := 200) rfl (kc := 21) rfl s1.1 s1.2.1).trans ?_
            refine (rn_iload_n (pc := 25) (dd bX0_endOfInside dX0_endOfInside_25) rfl).trans ?_
            refine (rg_iaload (pc := 26) (dd bX0_endOfInside dX0_endOfInside_26) s1.2.2.1 s1.2.2.2.1 (Int.not_lt.mp c2) (Int.not_le.mp c3) rfl).trans ?_
            refine (rn_iload_n (pc := 27) (dd bX0_endOfInside dX0_endOfInside_27) rfl).trans ?_
            have e1 : vrun mX0_endOfInside 28 [(1, x0), (0, x1)] [(0, x1), (0, h 2 (x0 + 1) x1)] h = vrun mX0_endOfInside 41 [(1, x0), (0, x1)] [(0, (if h 2 (x0 + 1) x1 ≤ x1 then (-1) else h 2 (x0 + 1) x1))] h := by
              refine (rn_icmp_le (t := 40) (pc := 28) (dd bX0_endOfInside dX0_endOfInside_28) rfl).trans ?_
              by_cases c4 : h 2 (x0 + 1) x1 ≤ x1
              · refine (if_pos c4).trans ?_
                refine (rn_iconst (pc := 40) (dd bX0_endOfInside dX0_endOfInside_40) (by decide)).trans ?_
                refine Eq.trans (b := vrun mX0_endOfInside 41 [(1, x0), (0, x1)] [(0, (-1))] h) rfl ?_
                simp only [if_pos c4]
              · refine (if_neg c4).trans ?_
                refine (rn_aload_n (pc := 31) (dd bX0_endOfInside dX0_endOfInside_31) rfl).trans ?_
                refine (rg_gf (pc := 32) (dd bX0_endOfInside dX0_endOfInside_32) (ci := 1) (j := 0) rfl rfl (key := 200) rfl (kc := 21) rfl s1.1 s1.2.1).trans ?_
                refine (rn_iload_n (pc := 35) (dd bX0_endOfInside dX0_endOfInside_35) rfl).trans ?_
                refine (rg_iaload (pc := 36) (dd bX0_endOfInside dX0_endOfInside_36) s1.2.2.1 s1.2.2.2.1 (Int.not_lt.mp c2) (Int.not_le.mp c3) rfl).trans ?_
                refine (rn_goto (t := 41) (pc := 37) (dd bX0_endOfInside dX0_endOfInside_37) rfl).trans ?_
                refine Eq.trans (b := vrun mX0_endOfInside 41 [(1, x0), (0, x1)] [(0, h 2 (x0 + 1) x1)] h) rfl ?_
                simp only [if_neg c4]
            refine e1.trans ?_
            refine Eq.trans (b := vrun mX0_endOfInside 41 [(1, x0), (0, x1)] [(0, (if h 2 (x0 + 1) x1 ≤ x1 then (-1) else h 2 (x0 + 1) x1))] h) rfl ?_
            simp only [if_neg c3]
        refine e2.trans ?_
        refine Eq.trans (b := vrun mX0_endOfInside 41 [(1, x0), (0, x1)] [(0, (if 131 ≤ x1 then (-1) else (if h 2 (x0 + 1) x1 ≤ x1 then (-1) else h 2 (x0 + 1) x1)))] h) rfl ?_
        simp only [if_neg c2]
    refine e3.trans ?_
    exact rn_ireturn (pc := 41) (dd bX0_endOfInside dX0_endOfInside_41) (Or.inl rfl)
def fX0_endOfInside (h : vH) (x0 : Int) (x1 : Int) : Int := (if x1 = (-1) then h 209 x0 0 else (if x1 < 0 then (-1) else (if 131 ≤ x1 then (-1) else (if h 2 (x0 + 1) x1 ≤ x1 then (-1) else h 2 (x0 + 1) x1))))
theorem spX0_endOfInside {x0 : Int} {x1 : Int} {h : vH} (s1 : shDirections h x0) : vcl mX0_endOfInside [(1, x0), (0, x1)] h = some (.inl (some (0, fX0_endOfInside h x0 x1)), h) := by
  refine (show _ = _ from rX0_endOfInside_0 s1).trans ?_
  simp only [ret_ite]
  rfl
theorem bX0_wayOf : vmB mX0_wayOf = cX0_wayOf := rfl
theorem rX0_wayOf_0 {x0 : Int} {x1 : Int} {h : vH} : vrun mX0_wayOf 0 [(1, x0), (0, x1), (9, 0)] [] h = if (if x1 < 65 then x1 else (if 90 < x1 then x1 else x1 - 65 + 97)) < 97 then some (.inl (some (0, (if (if x1 < 65 then x1 else (if 90 < x1 then x1 else x1 - 65 + 97)) < 110 then (-1) else (if 122 < (if x1 < 65 then x1 else (if 90 < x1 then x1 else x1 - 65 + 97)) then (-1) else 1)))), h) else if 109 < (if x1 < 65 then x1 else (if 90 < x1 then x1 else x1 - 65 + 97)) then some (.inl (some (0, (if (if x1 < 65 then x1 else (if 90 < x1 then x1 else x1 - 65 + 97)) < 110 then (-1) else (if 122 < (if x1 < 65 then x1 else (if 90 < x1 then x1 else x1 - 65 + 97)) then (-1) else 1)))), h) else some (.inl (some (0, 0)), h) := by
  refine (rn_iload_n (pc := 0) (dd bX0_wayOf dX0_wayOf_0) rfl).trans ?_
  refine (rn_bipush (pc := 1) (dd bX0_wayOf dX0_wayOf_1) (by decide)).trans ?_
  have e2 : vrun mX0_wayOf 3 [(1, x0), (0, x1), (9, 0)] [(0, 65), (0, x1)] h = vrun mX0_wayOf 23 [(1, x0), (0, x1), (9, 0)] [(0, (if x1 < 65 then x1 else (if 90 < x1 then x1 else x1 - 65 + 97)))] h := by
    refine (rn_icmp_lt (t := 22) (pc := 3) (dd bX0_wayOf dX0_wayOf_3) rfl).trans ?_
    by_cases c1 : x1 < 65
    · refine (if_pos c1).trans ?_
      refine (rn_iload_n (pc := 22) (dd bX0_wayOf dX0_wayOf_22) rfl).trans ?_
      refine Eq.trans (b := vrun mX0_wayOf 23 [(1, x0), (0, x1), (9, 0)] [(0, x1)] h) rfl ?_
      simp only [if_pos c1]
    · refine (if_neg c1).trans ?_
      refine (rn_iload_n (pc := 6) (dd bX0_wayOf dX0_wayOf_6) rfl).trans ?_
      refine (rn_bipush (pc := 7) (dd bX0_wayOf dX0_wayOf_7) (by decide)).trans ?_
      have e1 : vrun mX0_wayOf 9 [(1, x0), (0, x1), (9, 0)] [(0, 90), (0, x1)] h = vrun mX0_wayOf 23 [(1, x0), (0, x1), (9, 0)] [(0, (if 90 < x1 then x1 else x1 - 65 + 97))] h := by
        refine (rn_icmp_gt (t := 22) (pc := 9) (dd bX0_wayOf dX0_wayOf_9) rfl).trans ?_
        by_cases c2 : 90 < x1
        · refine (if_pos c2).trans ?_
          refine (rn_iload_n (pc := 22) (dd bX0_wayOf dX0_wayOf_22) rfl).trans ?_
          refine Eq.trans (b := vrun mX0_wayOf 23 [(1, x0), (0, x1), (9, 0)] [(0, x1)] h) rfl ?_
          simp only [if_pos c2]
        · refine (if_neg c2).trans ?_
          refine (rn_iload_n (pc := 12) (dd bX0_wayOf dX0_wayOf_12) rfl).trans ?_
          refine (rn_bipush (pc := 13) (dd bX0_wayOf dX0_wayOf_13) (by decide)).trans ?_
          refine (rg_isub (pc := 15) (dd bX0_wayOf dX0_wayOf_15) (by omega) (by omega)).trans ?_
          refine (rn_bipush (pc := 16) (dd bX0_wayOf dX0_wayOf_16) (by decide)).trans ?_
          refine (rg_iadd (pc := 18) (dd bX0_wayOf dX0_wayOf_18) (by omega) (by omega)).trans ?_
          refine (rn_goto (t := 23) (pc := 19) (dd bX0_wayOf dX0_wayOf_19) rfl).trans ?_
          refine Eq.trans (b := vrun mX0_wayOf 23 [(1, x0), (0, x1), (9, 0)] [(0, x1 - 65 + 97)] h) rfl ?_
          simp only [if_neg c2]
      refine e1.trans ?_
      refine Eq.trans (b := vrun mX0_wayOf 23 [(1, x0), (0, x1), (9, 0)] [(0, (if 90 < x1 then x1 else x1 - 65 + 97))] h) rfl ?_
      simp only [if_neg c1]
  refine e2.trans ?_
  refine (rn_istore_n (pc := 23) (dd bX0_wayOf dX0_wayOf_23) (Nat.le_of_ble_eq_true rfl) rfl).trans ?_
  refine (rn_iload_n (pc := 24) (dd bX0_wayOf dX0_wayOf_24) rfl).trans ?_
  refine (rn_bipush (pc := 25) (dd bX0_wayOf dX0_wayOf_25) (by decide)).trans ?_
  refine (rn_icmp_lt (t := 38) (pc := 27) (dd bX0_wayOf dX0_wayOf_27) rfl).trans (itec (fun c3 => ?_) (fun c3 => ?_))
  · refine (rn_iload_n (pc := 38) (dd bX0_wayOf dX0_wayOf_38) rfl).trans ?_
    refine (rn_bipush (pc := 39) (dd bX0_wayOf dX0_wayOf_39) (by decide)).trans ?_
    have e4 : vrun mX0_wayOf 41 [(1, x0), (0, x1), (0, (if x1 < 65 then x1 else (if 90 < x1 then x1 else x1 - 65 + 97)))] [(0, 110), (0, (if x1 < 65 then x1 else (if 90 < x1 then x1 else x1 - 65 + 97)))] h = vrun mX0_wayOf 55 [(1, x0), (0, x1), (0, (if x1 < 65 then x1 else (if 90 < x1 then x1 else x1 - 65 + 97)))] [(0, (if (if x1 < 65 then x1 else (if 90 < x1 then x1 else x1 - 65 + 97)) < 110 then (-1) else (if 122 < (if x1 < 65 then x1 else (if 90 < x1 then x1 else x1 - 65 + 97)) then (-1) else 1)))] h := by
      refine (rn_icmp_lt (t := 54) (pc := 41) (dd bX0_wayOf dX0_wayOf_41) rfl).trans ?_
      by_cases c4 : (if x1 < 65 then x1 else (if 90 < x1 then x1 else x1 - 65 + 97)) < 110
      · refine (if_pos c4).trans ?_
        refine (rn_iconst (pc := 54) (dd bX0_wayOf dX0_wayOf_54) (by decide)).trans ?_
        refine Eq.trans (b := vrun mX0_wayOf 55 [(1, x0), (0, x1), (0, (if x1 < 65 then x1 else (if 90 < x1 then x1 else x1 - 65 + 97)))] [(0, (-1))] h) rfl ?_
        simp only [if_pos c4]
      · refine (if_neg c4).trans ?_
        refine (rn_iload_n (pc := 44) (dd bX0_wayOf dX0_wayOf_44) rfl).trans ?_
        refine (rn_bipush (pc := 45) (dd bX0_wayOf dX0_wayOf_45) (by decide)).trans ?_
        have e3 : vrun mX0_wayOf 47 [(1, x0), (0, x1), (0, (if x1 < 65 then x1 else (if 90 < x1 then x1 else x1 - 65 + 97)))] [(0, 122), (0, (if x1 < 65 then x1 else (if 90 < x1 then x1 else x1 - 65 + 97)))] h = vrun mX0_wayOf 55 [(1, x0), (0, x1), (0, (if x1 < 65 then x1 else (if 90 < x1 then x1 else x1 - 65 + 97)))] [(0, (if 122 < (if x1 < 65 then x1 else (if 90 < x1 then x1 else x1 - 65 + 97)) then (-1) else 1))] h := by
          refine (rn_icmp_gt (t := 54) (pc := 47) (dd bX0_wayOf dX0_wayOf_47) rfl).trans ?_
          by_cases c5 : 122 < (if x1 < 65 then x1 else (if 90 < x1 then x1 else x1 - 65 + 97))
          · refine (if_pos c5).trans ?_
            refine (rn_iconst (pc := 54) (dd bX0_wayOf dX0_wayOf_54) (by decide)).trans ?_
            refine Eq.trans (b := vrun mX0_wayOf 55 [(1, x0), (0, x1), (0, (if x1 < 65 then x1 else (if 90 < x1 then x1 else x1 - 65 + 97)))] [(0, (-1))] h) rfl ?_
            simp only [if_pos c5]
          · refine (if_neg c5).trans ?_
            refine (rn_iconst (pc := 50) (dd bX0_wayOf dX0_wayOf_50) (by decide)).trans ?_
            refine (rn_goto (t := 55) (pc := 51) (dd bX0_wayOf dX0_wayOf_51) rfl).trans ?_
            refine Eq.trans (b := vrun mX0_wayOf 55 [(1, x0), (0, x1), (0, (if x1 < 65 then x1 else (if 90 < x1 then x1 else x1 - 65 + 97)))] [(0, 1)] h) rfl ?_
            simp only [if_neg c5]
        refine e3.trans ?_
        refine Eq.trans (b := vrun mX0_wayOf 55 [(1, x0), (0, x1), (0, (if x1 < 65 then x1 else (if 90 < x1 then x1 else x1 - 65 + 97)))] [(0, (if 122 < (if x1 < 65 then x1 else (if 90 < x1 then x1 else x1 - 65 + 97)) then (-1) else 1))] h) rfl ?_
        simp only [if_neg c4]
    refine e4.trans ?_
    exact rn_ireturn (pc := 55) (dd bX0_wayOf dX0_wayOf_55) (Or.inl rfl)
  · refine (rn_iload_n (pc := 30) (dd bX0_wayOf dX0_wayOf_30) rfl).trans ?_
    refine (rn_bipush (pc := 31) (dd bX0_wayOf dX0_wayOf_31) (by decide)).trans ?_
    refine (rn_icmp_gt (t := 38) (pc := 33) (dd bX0_wayOf dX0_wayOf_33) rfl).trans (itec (fun c6 => ?_) (fun c6 => ?_))
    · refine (rn_iload_n (pc := 38) (dd bX0_wayOf dX0_wayOf_38) rfl).trans ?_
      refine (rn_bipush (pc := 39) (dd bX0_wayOf dX0_wayOf_39) (by decide)).trans ?_
      have e6 : vrun mX0_wayOf 41 [(1, x0), (0, x1), (0, (if x1 < 65 then x1 else (if 90 < x1 then x1 else x1 - 65 + 97)))] [(0, 110), (0, (if x1 < 65 then x1 else (if 90 < x1 then x1 else x1 - 65 + 97)))] h = vrun mX0_wayOf 55 [(1, x0), (0, x1), (0, (if x1 < 65 then x1 else (if 90 < x1 then x1 else x1 - 65 + 97)))] [(0, (if (if x1 < 65 then x1 else (if 90 < x1 then x1 else x1 - 65 + 97)) < 110 then (-1) else (if 122 < (if x1 < 65 then x1 else (if 90 < x1 then x1 else x1 - 65 + 97)) then (-1) else 1)))] h := by
        refine (rn_icmp_lt (t := 54) (pc := 41) (dd bX0_wayOf dX0_wayOf_41) rfl).trans ?_
        by_cases c7 : (if x1 < 65 then x1 else (if 90 < x1 then x1 else x1 - 65 + 97)) < 110
        · refine (if_pos c7).trans ?_
          refine (rn_iconst (pc := 54) (dd bX0_wayOf dX0_wayOf_54) (by decide)).trans ?_
          refine Eq.trans (b := vrun mX0_wayOf 55 [(1, x0), (0, x1), (0, (if x1 < 65 then x1 else (if 90 < x1 then x1 else x1 - 65 + 97)))] [(0, (-1))] h) rfl ?_
          simp only [if_pos c7]
        · refine (if_neg c7).trans ?_
          refine (rn_iload_n (pc := 44) (dd bX0_wayOf dX0_wayOf_44) rfl).trans ?_
          refine (rn_bipush (pc := 45) (dd bX0_wayOf dX0_wayOf_45) (by decide)).trans ?_
          have e5 : vrun mX0_wayOf 47 [(1, x0), (0, x1), (0, (if x1 < 65 then x1 else (if 90 < x1 then x1 else x1 - 65 + 97)))] [(0, 122), (0, (if x1 < 65 then x1 else (if 90 < x1 then x1 else x1 - 65 + 97)))] h = vrun mX0_wayOf 55 [(1, x0), (0, x1), (0, (if x1 < 65 then x1 else (if 90 < x1 then x1 else x1 - 65 + 97)))] [(0, (if 122 < (if x1 < 65 then x1 else (if 90 < x1 then x1 else x1 - 65 + 97)) then (-1) else 1))] h := by
            refine (rn_icmp_gt (t := 54) (pc := 47) (dd bX0_wayOf dX0_wayOf_47) rfl).trans ?_
            by_cases c8 : 122 < (if x1 < 65 then x1 else (if 90 < x1 then x1 else x1 - 65 + 97))
            · refine (if_pos c8).trans ?_
              refine (rn_iconst (pc := 54) (dd bX0_wayOf dX0_wayOf_54) (by decide)).trans ?_
              refine Eq.trans (b := vrun mX0_wayOf 55 [(1, x0), (0, x1), (0, (if x1 < 65 then x1 else (if 90 < x1 then x1 else x1 - 65 + 97)))] [(0, (-1))] h) rfl ?_
              simp only [if_pos c8]
            · refine (if_neg c8).trans ?_
              refine (rn_iconst (pc := 50) (dd bX0_wayOf dX0_wayOf_50) (by decide)).trans ?_
              refine (rn_goto (t := 55) (pc := 51) (dd bX0_wayOf dX0_wayOf_51) rfl).trans ?_
              refine Eq.trans (b := vrun mX0_wayOf 55 [(1, x0), (0, x1), (0, (if x1 < 65 then x1 else (if 90 < x1 then x1 else x1 - 65 + 97)))] [(0, 1)] h) rfl ?_
              simp only [if_neg c8]
          refine e5.trans ?_
          refine Eq.trans (b := vrun mX0_wayOf 55 [(1, x0), (0, x1), (0, (if x1 < 65 then x1 else (if 90 < x1 then x1 else x1 - 65 + 97)))] [(0, (if 122 < (if x1 < 65 then x1 else (if 90 < x1 then x1 else x1 - 65 + 97)) then (-1) else 1))] h) rfl ?_
          simp only [if_neg c7]
      refine e6.trans ?_
      exact rn_ireturn (pc := 55) (dd bX0_wayOf dX0_wayOf_55) (Or.inl rfl)
    · refine (rn_iconst (pc := 36) (dd bX0_wayOf dX0_wayOf_36) (by decide)).trans ?_
      exact rn_ireturn (pc := 37) (dd bX0_wayOf dX0_wayOf_37) (Or.inl rfl)
def fX0_wayOf (h : vH) (x0 : Int) (x1 : Int) : Int := (if (if x1 < 65 then x1 else (if 90 < x1 then x1 else x1 - 65 + 97)) < 97 then (if (if x1 < 65 then x1 else (if 90 < x1 then x1 else x1 - 65 + 97)) < 110 then (-1) else (if 122 < (if x1 < 65 then x1 else (if 90 < x1 then x1 else x1 - 65 + 97)) then (-1) else 1)) else (if 109 < (if x1 < 65 then x1 else (if 90 < x1 then x1 else x1 - 65 + 97)) then (if (if x1 < 65 then x1 else (if 90 < x1 then x1 else x1 - 65 + 97)) < 110 then (-1) else (if 122 < (if x1 < 65 then x1 else (if 90 < x1 then x1 else x1 - 65 + 97)) then (-1) else 1)) else 0))
theorem spX0_wayOf {x0 : Int} {x1 : Int} {h : vH} : vcl mX0_wayOf [(1, x0), (0, x1)] h = some (.inl (some (0, fX0_wayOf h x0 x1)), h) := by
  refine (show _ = _ from rX0_wayOf_0).trans ?_
  simp only [ret_ite]
  rfl
theorem bX0_chainUp : vmB mX0_chainUp = cX0_chainUp := rfl
theorem rX0_chainUp_0 {x0 : Int} {x1 : Int} {x2 : Int} {x3 : Int} {h : vH} (s1 : shDirections h x0) : vrun mX0_chainUp 0 [(1, x0), (1, x1), (0, x2), (0, x3), (9, 0)] [] h = vrun mX0_chainUp 12 [(1, x0), (1, x1), (0, x2), (0, x3), (0, max x2 0)] [] (vup h 207 x0 0 0) := by
  refine (rn_aload_n (pc := 0) (dd bX0_chainUp dX0_chainUp_0) rfl).trans ?_
  refine (rn_iconst (pc := 1) (dd bX0_chainUp dX0_chainUp_1) (by decide)).trans ?_
  refine (rg_pf (pc := 2) (dd bX0_chainUp dX0_chainUp_2) (ci := 1) (j := 7) rfl (key := 207) rfl (kc := 21) rfl s1.1 rfl (by intro z; cases z) (by decide)).trans ?_
  refine (rn_iload_n (pc := 5) (dd bX0_chainUp dX0_chainUp_5) rfl).trans ?_
  refine (rn_iconst (pc := 6) (dd bX0_chainUp dX0_chainUp_6) (by decide)).trans ?_
  refine (rg_max (pc := 7) (dd bX0_chainUp dX0_chainUp_7) rfl ⟨Nat.le_of_ble_eq_true rfl, Nat.le_of_ble_eq_true rfl, Nat.le_of_ble_eq_true rfl⟩).trans ?_
  refine (rn_istore (pc := 10) (dd bX0_chainUp dX0_chainUp_10) (Nat.le_of_ble_eq_true rfl) rfl).trans ?_
  rfl
theorem rX0_chainUp_12 {x0 : Int} {x1 : Int} {x2 : Int} {x3 : Int} {x4 : Int} {h : vH} (s1 : shDirections h x0) (p2 : ¬ (x3 ≤ x4) → ¬ (131 ≤ x4) → ¬ (131 ≤ h 207 x0 0) → 0 ≤ h 207 x0 0) (s3 : shLayout h x1) (p4 : ¬ (x3 ≤ x4) → ¬ (131 ≤ x4) → ¬ (131 ≤ h 207 x0 0) → 0 ≤ x4) : vrun mX0_chainUp 12 [(1, x0), (1, x1), (0, x2), (0, x3), (0, x4)] [] h = if x3 ≤ x4 then some (.inl none, h) else if 131 ≤ x4 then some (.inl none, h) else if 131 ≤ h 207 x0 0 then some (.inl none, h) else vrun mX0_chainUp 12 [(1, x0), (1, x1), (0, x2), (0, x3), (0, max (x4 + 1) (h 2 (x0 + 1) x4))] [] (vup (vup (vup (vup (vup h 2 (x0 + 3) (h 207 x0 0) x4) 2 (x0 + 4) (h 207 x0 0) ((vup h 2 (x0 + 3) (h 207 x0 0) x4) 2 (x1 + 1) x4)) 2 (x0 + 5) (h 207 x0 0) (fX0_wayOf (vup (vup h 2 (x0 + 3) (h 207 x0 0) x4) 2 (x0 + 4) (h 207 x0 0) ((vup h 2 (x0 + 3) (h 207 x0 0) x4) 2 (x1 + 1) x4)) x0 ((vup (vup h 2 (x0 + 3) (h 207 x0 0) x4) 2 (x0 + 4) (h 207 x0 0) ((vup h 2 (x0 + 3) (h 207 x0 0) x4) 2 (x1 + 1) x4)) 2 (x1 + 1) x4))) 2 (x0 + 6) (h 207 x0 0) (-1)) 207 x0 0 (h 207 x0 0 + 1)) := by
  refine (rn_iload (pc := 12) (dd bX0_chainUp dX0_chainUp_12) rfl).trans ?_
  refine (rn_iload_n (pc := 14) (dd bX0_chainUp dX0_chainUp_14) rfl).trans ?_
  refine (rn_icmp_ge (t := 122) (pc := 15) (dd bX0_chainUp dX0_chainUp_15) rfl).trans (itec (fun c1 => ?_) (fun c1 => ?_))
  · exact rn_return (pc := 122) (dd bX0_chainUp dX0_chainUp_122) rfl
  · refine (rn_iload (pc := 18) (dd bX0_chainUp dX0_chainUp_18) rfl).trans ?_
    refine (rn_sipush (pc := 20) (dd bX0_chainUp dX0_chainUp_20) (by decide)).trans ?_
    refine (rn_icmp_ge (t := 122) (pc := 23) (dd bX0_chainUp dX0_chainUp_23) rfl).trans (itec (fun c2 => ?_) (fun c2 => ?_))
    · exact rn_return (pc := 122) (dd bX0_chainUp dX0_chainUp_122) rfl
    · refine (rn_aload_n (pc := 26) (dd bX0_chainUp dX0_chainUp_26) rfl).trans ?_
      refine (rg_gf (pc := 27) (dd bX0_chainUp dX0_chainUp_27) (ci := 1) (j := 7) rfl rfl (key := 207) rfl (kc := 21) rfl s1.1 rfl).trans ?_
      refine (rn_sipush (pc := 30) (dd bX0_chainUp dX0_chainUp_30) (by decide)).trans ?_
      refine (rn_icmp_ge (t := 122) (pc := 33) (dd bX0_chainUp dX0_chainUp_33) rfl).trans (itec (fun c3 => ?_) (fun c3 => ?_))
      · exact rn_return (pc := 122) (dd bX0_chainUp dX0_chainUp_122) rfl
      · refine (rn_aload_n (pc := 36) (dd bX0_chainUp dX0_chainUp_36) rfl).trans ?_
        refine (rg_gf (pc := 37) (dd bX0_chainUp dX0_chainUp_37) (ci := 1) (j := 2) rfl rfl (key := 202) rfl (kc := 21) rfl s1.1 s1.2.2.2.2.2.2.2.1).trans ?_
        refine (rn_aload_n (pc := 40) (dd bX0_chainUp dX0_chainUp_40) rfl).trans ?_
        refine (rg_gf (pc := 41) (dd bX0_chainUp dX0_chainUp_41) (ci := 1) (j := 7) rfl rfl (key := 207) rfl (kc := 21) rfl s1.1 rfl).trans ?_
        refine (rn_iload (pc := 44) (dd bX0_chainUp dX0_chainUp_44) rfl).trans ?_
        refine (rg_iastore (pc := 46) (dd bX0_chainUp dX0_chainUp_46) s1.2.2.2.2.2.2.2.2.1 s1.2.2.2.2.2.2.2.2.2.1 (p2 c1 c2 c3) (Int.not_le.mp c3)).trans ?_
        refine (rn_aload_n (pc := 47) (dd bX0_chainUp dX0_chainUp_47) rfl).trans ?_
        refine (rg_gf (pc := 48) (dd bX0_chainUp dX0_chainUp_48) (ci := 1) (j := 3) rfl rfl (key := 203) rfl (kc := 21) rfl ((vup_k (by decide)).trans s1.1) ((vup_k (by decide)).trans s1.2.2.2.2.2.2.2.2.2.2.1)).trans ?_
        refine (rn_aload_n (pc := 51) (dd bX0_chainUp dX0_chainUp_51) rfl).trans ?_
        refine (rg_gf (pc := 52) (dd bX0_chainUp dX0_chainUp_52) (ci := 1) (j := 7) rfl rfl (key := 207) rfl (kc := 21) rfl ((vup_k (by decide)).trans s1.1) ((vup_k (by decide)).trans rfl)).trans ?_
        refine (rn_aload_n (pc := 55) (dd bX0_chainUp dX0_chainUp_55) rfl).trans ?_
        refine (rg_gf (pc := 56) (dd bX0_chainUp dX0_chainUp_56) (ci := 4) (j := 0) rfl rfl (key := 500) rfl (kc := 24) rfl ((vup_k (by decide)).trans s3.1) ((vup_k (by decide)).trans s3.2.1)).trans ?_
        refine (rn_iload (pc := 59) (dd bX0_chainUp dX0_chainUp_59) rfl).trans ?_
        refine (rg_iaload (pc := 61) (dd bX0_chainUp dX0_chainUp_61) ((vup_k (by decide)).trans s3.2.2.1) ((vup_k (by decide)).trans s3.2.2.2.1) (p4 c1 c2 c3) (Int.not_le.mp c2) rfl).trans ?_
        refine (rg_iastore (pc := 62) (dd bX0_chainUp dX0_chainUp_62) ((vup_k (by decide)).trans s1.2.2.2.2.2.2.2.2.2.2.2.1) ((vup_k (by decide)).trans s1.2.2.2.2.2.2.2.2.2.2.2.2.1) (by have z0 := p2 c1 c2 c3; omega) (Int.not_le.mp c3)).trans ?_
        refine (rn_aload_n (pc := 63) (dd bX0_chainUp dX0_chainUp_63) rfl).trans ?_
        refine (rg_gf (pc := 64) (dd bX0_chainUp dX0_chainUp_64) (ci := 1) (j := 4) rfl rfl (key := 204) rfl (kc := 21) rfl ((vup_k (by decide)).trans ((vup_k (by decide)).trans s1.1)) ((vup_k (by decide)).trans ((vup_k (by decide)).trans s1.2.2.2.2.2.2.2.2.2.2.2.2.2.1))).trans ?_
        refine (rn_aload_n (pc := 67) (dd bX0_chainUp dX0_chainUp_67) rfl).trans ?_
        refine (rg_gf (pc := 68) (dd bX0_chainUp dX0_chainUp_68) (ci := 1) (j := 7) rfl rfl (key := 207) rfl (kc := 21) rfl ((vup_k (by decide)).trans ((vup_k (by decide)).trans s1.1)) ((vup_k (by decide)).trans ((vup_k (by decide)).trans rfl))).trans ?_
        refine (rn_aload_n (pc := 71) (dd bX0_chainUp dX0_chainUp_71) rfl).trans ?_
        refine (rn_aload_n (pc := 72) (dd bX0_chainUp dX0_chainUp_72) rfl).trans ?_
        refine (rg_gf (pc := 73) (dd bX0_chainUp dX0_chainUp_73) (ci := 4) (j := 0) rfl rfl (key := 500) rfl (kc := 24) rfl ((vup_k (by decide)).trans ((vup_k (by decide)).trans s3.1)) ((vup_k (by decide)).trans ((vup_k (by decide)).trans s3.2.1))).trans ?_
        refine (rn_iload (pc := 76) (dd bX0_chainUp dX0_chainUp_76) rfl).trans ?_
        refine (rg_iaload (pc := 78) (dd bX0_chainUp dX0_chainUp_78) ((vup_k (by decide)).trans ((vup_k (by decide)).trans s3.2.2.1)) ((vup_k (by decide)).trans ((vup_k (by decide)).trans s3.2.2.2.1)) (by have z0 := p4 c1 c2 c3; omega) (Int.not_le.mp c2) rfl).trans ?_
        refine (rg_virtual (pc := 79) (dd bX0_chainUp dX0_chainUp_79) rfl rfl (by decide) (kc := 21) rfl ((vup_k (by decide)).trans ((vup_k (by decide)).trans s1.1)) (as := [(1, x0), (0, (vup (vup h 2 (x0 + 3) (h 207 x0 0) x4) 2 (x0 + 4) (h 207 x0 0) ((vup h 2 (x0 + 3) (h 207 x0 0) x4) 2 (x1 + 1) x4)) 2 (x1 + 1) x4)]) rfl ⟨Nat.le_of_ble_eq_true rfl, Nat.le_of_ble_eq_true rfl, Nat.le_of_ble_eq_true rfl, Nat.le_of_ble_eq_true rfl⟩).trans ?_
        refine (vret_v spX0_wayOf).trans ?_
        refine (rg_iastore (pc := 82) (dd bX0_chainUp dX0_chainUp_82) ((vup_k (by decide)).trans ((vup_k (by decide)).trans s1.2.2.2.2.2.2.2.2.2.2.2.2.2.2.1)) ((vup_k (by decide)).trans ((vup_k (by decide)).trans s1.2.2.2.2.2.2.2.2.2.2.2.2.2.2.2.1)) (by have z0 := p2 c1 c2 c3; omega) (Int.not_le.mp c3)).trans ?_
        refine (rn_aload_n (pc := 83) (dd bX0_chainUp dX0_chainUp_83) rfl).trans ?_
        refine (rg_gf (pc := 84) (dd bX0_chainUp dX0_chainUp_84) (ci := 1) (j := 5) rfl rfl (key := 205) rfl (kc := 21) rfl ((vup_k (by decide)).trans ((vup_k (by decide)).trans ((vup_k (by decide)).trans s1.1))) ((vup_k (by decide)).trans ((vup_k (by decide)).trans ((vup_k (by decide)).trans s1.2.2.2.2.2.2.2.2.2.2.2.2.2.2.2.2.1)))).trans ?_
        refine (rn_aload_n (pc := 87) (dd bX0_chainUp dX0_chainUp_87) rfl).trans ?_
        refine (rg_gf (pc := 88) (dd bX0_chainUp dX0_chainUp_88) (ci := 1) (j := 7) rfl rfl (key := 207) rfl (kc := 21) rfl ((vup_k (by decide)).trans ((vup_k (by decide)).trans ((vup_k (by decide)).trans s1.1))) ((vup_k (by decide)).trans ((vup_k (by decide)).trans ((vup_k (by decide)).trans rfl)))).trans ?_
        refine (rn_iconst (pc := 91) (dd bX0_chainUp dX0_chainUp_91) (by decide)).trans ?_
        refine (rg_iastore (pc := 92) (dd bX0_chainUp dX0_chainUp_92) ((vup_k (by decide)).trans ((vup_k (by decide)).trans ((vup_k (by decide)).trans s1.2.2.2.2.2.2.2.2.2.2.2.2.2.2.2.2.2.1))) ((vup_k (by decide)).trans ((vup_k (by decide)).trans ((vup_k (by decide)).trans s1.2.2.2.2.2.2.2.2.2.2.2.2.2.2.2.2.2.2.1))) (by have z0 := p2 c1 c2 c3; omega) (Int.not_le.mp c3)).trans ?_
        refine (rn_aload_n (pc := 93) (dd bX0_chainUp dX0_chainUp_93) rfl).trans ?_
        refine (rn_dup (pc := 94) (dd bX0_chainUp dX0_chainUp_94) (by decide)).trans ?_
        refine (rg_gf (pc := 95) (dd bX0_chainUp dX0_chainUp_95) (ci := 1) (j := 7) rfl rfl (key := 207) rfl (kc := 21) rfl ((vup_k (by decide)).trans ((vup_k (by decide)).trans ((vup_k (by decide)).trans ((vup_k (by decide)).trans s1.1)))) ((vup_k (by decide)).trans ((vup_k (by decide)).trans ((vup_k (by decide)).trans ((vup_k (by decide)).trans rfl))))).trans ?_
        refine (rn_iconst (pc := 98) (dd bX0_chainUp dX0_chainUp_98) (by decide)).trans ?_
        refine (rg_iadd (pc := 99) (dd bX0_chainUp dX0_chainUp_99) (by have z0 := p2 c1 c2 c3; omega) (by have z0 := p2 c1 c2 c3; omega)).trans ?_
        refine (rg_pf (pc := 100) (dd bX0_chainUp dX0_chainUp_100) (ci := 1) (j := 7) rfl (key := 207) rfl (kc := 21) rfl ((vup_k (by decide)).trans ((vup_k (by decide)).trans ((vup_k (by decide)).trans ((vup_k (by decide)).trans s1.1)))) rfl (by intro z; cases z) (by decide)).trans ?_
        refine (rn_iload (pc := 103) (dd bX0_chainUp dX0_chainUp_103) rfl).trans ?_
        refine (rn_iconst (pc := 105) (dd bX0_chainUp dX0_chainUp_105) (by decide)).trans ?_
        refine (rg_iadd (pc := 106) (dd bX0_chainUp dX0_chainUp_106) (by have z0 := p4 c1 c2 c3; omega) (by have z0 := p4 c1 c2 c3; omega)).trans ?_
        refine (rn_aload_n (pc := 107) (dd bX0_chainUp dX0_chainUp_107) rfl).trans ?_
        refine (rg_gf (pc := 108) (dd bX0_chainUp dX0_chainUp_108) (ci := 1) (j := 0) rfl rfl (key := 200) rfl (kc := 21) rfl ((vup_k (by decide)).trans ((vup_k (by decide)).trans ((vup_k (by decide)).trans ((vup_k (by decide)).trans ((vup_k (by decide)).trans s1.1))))) ((vup_k (by decide)).trans ((vup_k (by decide)).trans ((vup_k (by decide)).trans ((vup_k (by decide)).trans ((vup_k (by decide)).trans s1.2.1)))))).trans ?_
        refine (rn_iload (pc := 111) (dd bX0_chainUp dX0_chainUp_111) rfl).trans ?_
        refine (rg_iaload (pc := 113) (dd bX0_chainUp dX0_chainUp_113) ((vup_k (by decide)).trans ((vup_k (by decide)).trans ((vup_k (by decide)).trans ((vup_k (by decide)).trans ((vup_k (by decide)).trans s1.2.2.1))))) ((vup_k (by decide)).trans ((vup_k (by decide)).trans ((vup_k (by decide)).trans ((vup_k (by decide)).trans ((vup_k (by decide)).trans s1.2.2.2.1))))) (by have z0 := p4 c1 c2 c3; omega) (Int.not_le.mp c2) ((vup_k (by decide)).trans ((vup_r (by omega)).trans ((vup_r (by omega)).trans ((vup_r (by omega)).trans ((vup_r (by omega)).trans rfl)))))).trans ?_
        refine (rg_max (pc := 114) (dd bX0_chainUp dX0_chainUp_114) rfl ⟨Nat.le_of_ble_eq_true rfl, Nat.le_of_ble_eq_true rfl, Nat.le_of_ble_eq_true rfl⟩).trans ?_
        refine (rn_istore (pc := 117) (dd bX0_chainUp dX0_chainUp_117) (Nat.le_of_ble_eq_true rfl) rfl).trans ?_
        refine (rn_goto (t := 12) (pc := 119) (dd bX0_chainUp dX0_chainUp_119) rfl).trans ?_
        rfl
theorem bX0_leastBase : vmB mX0_leastBase = cX0_leastBase := rfl
theorem rX0_leastBase_0 {x0 : Int} {x1 : Int} {h : vH} (s1 : shDirections h x0) (p2 : ¬ (x1 < 0) → ¬ (131 ≤ x1) → (-2147483648) ≤ h 2 (x0 + 2) x1 + 1) (p3 : ¬ (x1 < 0) → ¬ (131 ≤ x1) → h 2 (x0 + 2) x1 + 1 < 2147483648) : vrun mX0_leastBase 0 [(1, x0), (0, x1)] [] h = some (.inl (some (0, (if x1 < 0 then 0 else (if 131 ≤ x1 then 0 else h 2 (x0 + 2) x1 + 1)))), h) := by
  refine (rn_iload_n (pc := 0) (dd bX0_leastBase dX0_leastBase_0) rfl).trans ?_
  have e2 : vrun mX0_leastBase 1 [(1, x0), (0, x1)] [(0, x1)] h = vrun mX0_leastBase 23 [(1, x0), (0, x1)] [(0, (if x1 < 0 then 0 else (if 131 ≤ x1 then 0 else h 2 (x0 + 2) x1 + 1)))] h := by
    refine (rn_if_lt (t := 22) (pc := 1) (dd bX0_leastBase dX0_leastBase_1) rfl).trans ?_
    by_cases c1 : x1 < 0
    · refine (if_pos c1).trans ?_
      refine (rn_iconst (pc := 22) (dd bX0_leastBase dX0_leastBase_22) (by decide)).trans ?_
      refine Eq.trans (b := vrun mX0_leastBase 23 [(1, x0), (0, x1)] [(0, 0)] h) rfl ?_
      simp only [if_pos c1]
    · refine (if_neg c1).trans ?_
      refine (rn_iload_n (pc := 4) (dd bX0_leastBase dX0_leastBase_4) rfl).trans ?_
      refine (rn_sipush (pc := 5) (dd bX0_leastBase dX0_leastBase_5) (by decide)).trans ?_
      have e1 : vrun mX0_leastBase 8 [(1, x0), (0, x1)] [(0, 131), (0, x1)] h = vrun mX0_leastBase 23 [(1, x0), (0, x1)] [(0, (if 131 ≤ x1 then 0 else h 2 (x0 + 2) x1 + 1))] h := by
        refine (rn_icmp_ge (t := 22) (pc := 8) (dd bX0_leastBase dX0_leastBase_8) rfl).trans ?_
        by_cases c2 : 131 ≤ x1
        · refine (if_pos c2).trans ?_
          refine (rn_iconst (pc := 22) (dd bX0_leastBase dX0_leastBase_22) (by decide)).trans ?_
          refine Eq.trans (b := vrun mX0_leastBase 23 [(1, x0), (0, x1)] [(0, 0)] h) rfl ?_
          simp only [if_pos c2]
        · refine (if_neg c2).trans ?_
          refine (rn_aload_n (pc := 11) (dd bX0_leastBase dX0_leastBase_11) rfl).trans ?_
          refine (rg_gf (pc := 12) (dd bX0_leastBase dX0_leastBase_12) (ci := 1) (j := 1) rfl rfl (key := 201) rfl (kc := 21) rfl s1.1 s1.2.2.2.2.1).trans ?_
          refine (rn_iload_n (pc := 15) (dd bX0_leastBase dX0_leastBase_15) rfl).trans ?_
          refine (rg_iaload (pc := 16) (dd bX0_leastBase dX0_leastBase_16) s1.2.2.2.2.2.1 s1.2.2.2.2.2.2.1 (Int.not_lt.mp c1) (Int.not_le.mp c2) rfl).trans ?_
          refine (rn_iconst (pc := 17) (dd bX0_leastBase dX0_leastBase_17) (by decide)).trans ?_
          refine (rg_iadd (pc := 18) (dd bX0_leastBase dX0_leastBase_18) (p2 c1 c2) (p3 c1 c2)).trans ?_
          refine (rn_goto (t := 23) (pc := 19) (dd bX0_leastBase dX0_leastBase_19) rfl).trans ?_
          refine Eq.trans (b := vrun mX0_leastBase 23 [(1, x0), (0, x1)] [(0, h 2 (x0 + 2) x1 + 1)] h) rfl ?_
          simp only [if_neg c2]
      refine e1.trans ?_
      refine Eq.trans (b := vrun mX0_leastBase 23 [(1, x0), (0, x1)] [(0, (if 131 ≤ x1 then 0 else h 2 (x0 + 2) x1 + 1))] h) rfl ?_
      simp only [if_neg c1]
  refine e2.trans ?_
  exact rn_ireturn (pc := 23) (dd bX0_leastBase dX0_leastBase_23) (Or.inl rfl)
def fX0_leastBase (h : vH) (x0 : Int) (x1 : Int) : Int := (if x1 < 0 then 0 else (if 131 ≤ x1 then 0 else h 2 (x0 + 2) x1 + 1))
theorem spX0_leastBase {x0 : Int} {x1 : Int} {h : vH} (s1 : shDirections h x0) (p2 : ¬ (x1 < 0) → ¬ (131 ≤ x1) → (-2147483648) ≤ h 2 (x0 + 2) x1 + 1) (p3 : ¬ (x1 < 0) → ¬ (131 ≤ x1) → h 2 (x0 + 2) x1 + 1 < 2147483648) : vcl mX0_leastBase [(1, x0), (0, x1)] h = some (.inl (some (0, fX0_leastBase h x0 x1)), h) := by
  refine (show _ = _ from rX0_leastBase_0 s1 p2 p3).trans ?_
  rfl
theorem bX0_firstWay : vmB mX0_firstWay = cX0_firstWay := rfl
theorem rX0_firstWay_0 {x0 : Int} {h : vH} : vrun mX0_firstWay 0 [(1, x0), (9, 0)] [] h = vrun mX0_firstWay 2 [(1, x0), (0, 0)] [] h := by
  refine (rn_iconst (pc := 0) (dd bX0_firstWay dX0_firstWay_0) (by decide)).trans ?_
  refine (rn_istore_n (pc := 1) (dd bX0_firstWay dX0_firstWay_1) (Nat.le_of_ble_eq_true rfl) rfl).trans ?_
  rfl
theorem rX0_firstWay_2 {x0 : Int} {x1 : Int} {h : vH} (s1 : shDirections h x0) (p2 : ¬ (h 207 x0 0 ≤ x1) → ¬ (131 ≤ x1) → 0 ≤ x1) : vrun mX0_firstWay 2 [(1, x0), (0, x1)] [] h = if h 207 x0 0 ≤ x1 then some (.inl (some (0, (-1))), h) else if 131 ≤ x1 then some (.inl (some (0, (-1))), h) else if h 2 (x0 + 5) x1 = (-1) then vrun mX0_firstWay 2 [(1, x0), (0, x1 + 1)] [] h else some (.inl (some (0, h 2 (x0 + 5) x1)), h) := by
  refine (rn_iload_n (pc := 2) (dd bX0_firstWay dX0_firstWay_2) rfl).trans ?_
  refine (rn_aload_n (pc := 3) (dd bX0_firstWay dX0_firstWay_3) rfl).trans ?_
  refine (rg_gf (pc := 4) (dd bX0_firstWay dX0_firstWay_4) (ci := 1) (j := 7) rfl rfl (key := 207) rfl (kc := 21) rfl s1.1 rfl).trans ?_
  refine (rn_icmp_ge (t := 40) (pc := 7) (dd bX0_firstWay dX0_firstWay_7) rfl).trans (itec (fun c1 => ?_) (fun c1 => ?_))
  · refine (rn_iconst (pc := 40) (dd bX0_firstWay dX0_firstWay_40) (by decide)).trans ?_
    exact rn_ireturn (pc := 41) (dd bX0_firstWay dX0_firstWay_41) (Or.inl rfl)
  · refine (rn_iload_n (pc := 10) (dd bX0_firstWay dX0_firstWay_10) rfl).trans ?_
    refine (rn_sipush (pc := 11) (dd bX0_firstWay dX0_firstWay_11) (by decide)).trans ?_
    refine (rn_icmp_ge (t := 40) (pc := 14) (dd bX0_firstWay dX0_firstWay_14) rfl).trans (itec (fun c2 => ?_) (fun c2 => ?_))
    · refine (rn_iconst (pc := 40) (dd bX0_firstWay dX0_firstWay_40) (by decide)).trans ?_
      exact rn_ireturn (pc := 41) (dd bX0_firstWay dX0_firstWay_41) (Or.inl rfl)
    · refine (rn_aload_n (pc := 17) (dd bX0_firstWay dX0_firstWay_17) rfl).trans ?_
      refine (rg_gf (pc := 18) (dd bX0_firstWay dX0_firstWay_18) (ci := 1) (j := 4) rfl rfl (key := 204) rfl (kc := 21) rfl s1.1 s1.2.2.2.2.2.2.2.2.2.2.2.2.2.1).trans ?_
      refine (rn_iload_n (pc := 21) (dd bX0_firstWay dX0_firstWay_21) rfl).trans ?_
      refine (rg_iaload (pc := 22) (dd bX0_firstWay dX0_firstWay_22) s1.2.2.2.2.2.2.2.2.2.2.2.2.2.2.1 s1.2.2.2.2.2.2.2.2.2.2.2.2.2.2.2.1 (p2 c1 c2) (Int.not_le.mp c2) rfl).trans ?_
      refine (rn_iconst (pc := 23) (dd bX0_firstWay dX0_firstWay_23) (by decide)).trans ?_
      refine (rn_icmp_eq (t := 34) (pc := 24) (dd bX0_firstWay dX0_firstWay_24) rfl).trans (itec (fun c3 => ?_) (fun c3 => ?_))
      · refine (rg_iinc (pc := 34) (dd bX0_firstWay dX0_firstWay_34) rfl (Nat.le_of_ble_eq_true rfl) (by have z0 := p2 c1 c2; omega) (by have z0 := p2 c1 c2; omega) rfl).trans ?_
        refine (rn_goto (t := 2) (pc := 37) (dd bX0_firstWay dX0_firstWay_37) rfl).trans ?_
        rfl
      · refine (rn_aload_n (pc := 27) (dd bX0_firstWay dX0_firstWay_27) rfl).trans ?_
        refine (rg_gf (pc := 28) (dd bX0_firstWay dX0_firstWay_28) (ci := 1) (j := 4) rfl rfl (key := 204) rfl (kc := 21) rfl s1.1 s1.2.2.2.2.2.2.2.2.2.2.2.2.2.1).trans ?_
        refine (rn_iload_n (pc := 31) (dd bX0_firstWay dX0_firstWay_31) rfl).trans ?_
        refine (rg_iaload (pc := 32) (dd bX0_firstWay dX0_firstWay_32) s1.2.2.2.2.2.2.2.2.2.2.2.2.2.2.1 s1.2.2.2.2.2.2.2.2.2.2.2.2.2.2.2.1 (by have z0 := p2 c1 c2; omega) (Int.not_le.mp c2) rfl).trans ?_
        exact rn_ireturn (pc := 33) (dd bX0_firstWay dX0_firstWay_33) (Or.inl rfl)
theorem bX0_leastAbove : vmB mX0_leastAbove = cX0_leastAbove := rfl
theorem rX0_leastAbove_0 {x0 : Int} {x1 : Int} {x2 : Int} {h : vH} (p1 : 0 ≤ x1) (p2 : ¬ (x1 % 2 = x2) → x1 + 1 < 2147483648) : vrun mX0_leastAbove 0 [(1, x0), (0, x1), (0, x2)] [] h = some (.inl (some (0, (if x1 % 2 = x2 then x1 else x1 + 1))), h) := by
  refine (rn_iload_n (pc := 0) (dd bX0_leastAbove dX0_leastAbove_0) rfl).trans ?_
  refine (rn_iconst (pc := 1) (dd bX0_leastAbove dX0_leastAbove_1) (by decide)).trans ?_
  refine (rg_irem (pc := 2) (dd bX0_leastAbove dX0_leastAbove_2) (by decide) p1).trans ?_
  refine (rn_iload_n (pc := 3) (dd bX0_leastAbove dX0_leastAbove_3) rfl).trans ?_
  have e1 : vrun mX0_leastAbove 4 [(1, x0), (0, x1), (0, x2)] [(0, x2), (0, x1 % 2)] h = vrun mX0_leastAbove 14 [(1, x0), (0, x1), (0, x2)] [(0, (if x1 % 2 = x2 then x1 else x1 + 1))] h := by
    refine (rg_icmp_ne (t := 11) (pc := 4) (dd bX0_leastAbove dX0_leastAbove_4) rfl).trans ?_
    by_cases c1 : x1 % 2 = x2
    · refine (if_pos c1).trans ?_
      refine (rn_iload_n (pc := 7) (dd bX0_leastAbove dX0_leastAbove_7) rfl).trans ?_
      refine (rn_goto (t := 14) (pc := 8) (dd bX0_leastAbove dX0_leastAbove_8) rfl).trans ?_
      refine Eq.trans (b := vrun mX0_leastAbove 14 [(1, x0), (0, x1), (0, x2)] [(0, x1)] h) rfl ?_
      simp only [if_pos c1]
    · refine (if_neg c1).trans ?_
      refine (rn_iload_n (pc := 11) (dd bX0_leastAbove dX0_leastAbove_11) rfl).trans ?_
      refine (rn_iconst (pc := 12) (dd bX0_leastAbove dX0_leastAbove_12) (by decide)).trans ?_
      refine (rg_iadd (pc := 13) (dd bX0_leastAbove dX0_leastAbove_13) (by omega) (p2 c1)).trans ?_
      refine Eq.trans (b := vrun mX0_leastAbove 14 [(1, x0), (0, x1), (0, x2)] [(0, x1 + 1)] h) rfl ?_
      simp only [if_neg c1]
  refine e1.trans ?_
  exact rn_ireturn (pc := 14) (dd bX0_leastAbove dX0_leastAbove_14) (Or.inl rfl)
theorem spX0_leastAbove {x0 : Int} {x1 : Int} {x2 : Int} {h : vH} (p1 : 0 ≤ x1) (p2 : ¬ (x1 % 2 = x2) → x1 + 1 < 2147483648) : vcl mX0_leastAbove [(1, x0), (0, x1), (0, x2)] h = some (.inl (some (0, (if x1 % 2 = x2 then x1 else x1 + 1))), h) := by
  refine (show _ = _ from rX0_leastAbove_0 p1 p2).trans ?_
  rfl
theorem bX0_isDigit : vmB mX0_isDigit = cX0_isDigit := rfl
theorem rX0_isDigit_0 {x0 : Int} {x1 : Int} {h : vH} : vrun mX0_isDigit 0 [(1, x0), (0, x1)] [] h = some (.inl (some (0, (if ¬ (x1 < 48) ∧ ¬ (57 < x1) then 1 else 0))), h) := by
  refine (rn_iload_n (pc := 0) (dd bX0_isDigit dX0_isDigit_0) rfl).trans ?_
  refine (rn_bipush (pc := 1) (dd bX0_isDigit dX0_isDigit_1) (by decide)).trans ?_
  have e2 : vrun mX0_isDigit 3 [(1, x0), (0, x1)] [(0, 48), (0, x1)] h = vrun mX0_isDigit 17 [(1, x0), (0, x1)] [(0, (if ¬ (x1 < 48) ∧ ¬ (57 < x1) then 1 else 0))] h := by
    refine (rn_icmp_lt (t := 16) (pc := 3) (dd bX0_isDigit dX0_isDigit_3) rfl).trans ?_
    by_cases c1 : x1 < 48
    · refine (if_pos c1).trans ?_
      refine (rn_iconst (pc := 16) (dd bX0_isDigit dX0_isDigit_16) (by decide)).trans ?_
      refine Eq.trans (b := vrun mX0_isDigit 17 [(1, x0), (0, x1)] [(0, 0)] h) rfl ?_
      simp only [c1, true_or, false_or, or_true, or_false, true_and, false_and, and_true, and_false, not_true_eq_false, not_false_eq_true, ne_eq, if_true, if_false, ↓reduceIte]
    · refine (if_neg c1).trans ?_
      refine (rn_iload_n (pc := 6) (dd bX0_isDigit dX0_isDigit_6) rfl).trans ?_
      refine (rn_bipush (pc := 7) (dd bX0_isDigit dX0_isDigit_7) (by decide)).trans ?_
      have e1 : vrun mX0_isDigit 9 [(1, x0), (0, x1)] [(0, 57), (0, x1)] h = vrun mX0_isDigit 17 [(1, x0), (0, x1)] [(0, (if ¬ (57 < x1) then 1 else 0))] h := by
        refine (rn_icmp_gt (t := 16) (pc := 9) (dd bX0_isDigit dX0_isDigit_9) rfl).trans ?_
        by_cases c2 : 57 < x1
        · refine (if_pos c2).trans ?_
          refine (rn_iconst (pc := 16) (dd bX0_isDigit dX0_isDigit_16) (by decide)).trans ?_
          refine Eq.trans (b := vrun mX0_isDigit 17 [(1, x0), (0, x1)] [(0, 0)] h) rfl ?_
          simp only [c2, true_or, false_or, or_true, or_false, true_and, false_and, and_true, and_false, not_true_eq_false, not_false_eq_true, ne_eq, if_true, if_false, ↓reduceIte]
        · refine (if_neg c2).trans ?_
          refine (rn_iconst (pc := 12) (dd bX0_isDigit dX0_isDigit_12) (by decide)).trans ?_
          refine (rn_goto (t := 17) (pc := 13) (dd bX0_isDigit dX0_isDigit_13) rfl).trans ?_
          refine Eq.trans (b := vrun mX0_isDigit 17 [(1, x0), (0, x1)] [(0, 1)] h) rfl ?_
          simp only [c2, true_or, false_or, or_true, or_false, true_and, false_and, and_true, and_false, not_true_eq_false, not_false_eq_true, ne_eq, if_true, if_false, ↓reduceIte]
      refine e1.trans ?_
      refine Eq.trans (b := vrun mX0_isDigit 17 [(1, x0), (0, x1)] [(0, (if ¬ (57 < x1) then 1 else 0))] h) rfl ?_
      simp only [c1, true_or, false_or, or_true, or_false, true_and, false_and, and_true, and_false, not_true_eq_false, not_false_eq_true, ne_eq, if_true, if_false, ↓reduceIte]
  refine e2.trans ?_
  exact rn_ireturn (pc := 17) (dd bX0_isDigit dX0_isDigit_17) (Or.inr ⟨rfl, b01⟩)
theorem spX0_isDigit {x0 : Int} {x1 : Int} {h : vH} : vcl mX0_isDigit [(1, x0), (0, x1)] h = some (.inl (some (0, (if ¬ (x1 < 48) ∧ ¬ (57 < x1) then 1 else 0))), h) := by
  refine (show _ = _ from rX0_isDigit_0).trans ?_
  rfl
theorem bX0_turnDigits : vmB mX0_turnDigits = cX0_turnDigits := rfl
theorem rX0_turnDigits_0 {x0 : Int} {h : vH} (s1 : shDirections h x0) (p2 : 0 ≤ h 208 x0 0) : vrun mX0_turnDigits 0 [(1, x0), (9, 0), (9, 0)] [] h = vrun mX0_turnDigits 9 [(1, x0), (0, h 208 x0 0 % 2), (0, 0)] [] h := by
  refine (rn_aload_n (pc := 0) (dd bX0_turnDigits dX0_turnDigits_0) rfl).trans ?_
  refine (rg_gf (pc := 1) (dd bX0_turnDigits dX0_turnDigits_1) (ci := 1) (j := 8) rfl rfl (key := 208) rfl (kc := 21) rfl s1.1 rfl).trans ?_
  refine (rn_iconst (pc := 4) (dd bX0_turnDigits dX0_turnDigits_4) (by decide)).trans ?_
  refine (rg_irem (pc := 5) (dd bX0_turnDigits dX0_turnDigits_5) (by decide) p2).trans ?_
  refine (rn_istore_n (pc := 6) (dd bX0_turnDigits dX0_turnDigits_6) (Nat.le_of_ble_eq_true rfl) rfl).trans ?_
  refine (rn_iconst (pc := 7) (dd bX0_turnDigits dX0_turnDigits_7) (by decide)).trans ?_
  refine (rn_istore_n (pc := 8) (dd bX0_turnDigits dX0_turnDigits_8) (Nat.le_of_ble_eq_true rfl) rfl).trans ?_
  rfl
theorem rX0_turnDigits_9 {x0 : Int} {x1 : Int} {x2 : Int} {h : vH} (s1 : shDirections h x0) (p2 : ¬ (h 207 x0 0 ≤ x2) → ¬ (131 ≤ x2) → 0 ≤ x2) : vrun mX0_turnDigits 9 [(1, x0), (0, x1), (0, x2)] [] h = if h 207 x0 0 ≤ x2 then some (.inl none, h) else if 131 ≤ x2 then some (.inl none, h) else vrun mX0_turnDigits 9 [(1, x0), (0, (if ¬ (h 2 (x0 + 4) x2 < 48) ∧ ¬ (57 < h 2 (x0 + 4) x2) then x1 else (if h 2 (x0 + 5) x2 = (-1) then x1 else h 2 (x0 + 5) x2))), (0, x2 + 1)] [] (if ¬ (h 2 (x0 + 4) x2 < 48) ∧ ¬ (57 < h 2 (x0 + 4) x2) then vup h 2 (x0 + 5) x2 x1 else h) := by
  refine (rn_iload_n (pc := 9) (dd bX0_turnDigits dX0_turnDigits_9) rfl).trans ?_
  refine (rn_aload_n (pc := 10) (dd bX0_turnDigits dX0_turnDigits_10) rfl).trans ?_
  refine (rg_gf (pc := 11) (dd bX0_turnDigits dX0_turnDigits_11) (ci := 1) (j := 7) rfl rfl (key := 207) rfl (kc := 21) rfl s1.1 rfl).trans ?_
  refine (rn_icmp_ge (t := 70) (pc := 14) (dd bX0_turnDigits dX0_turnDigits_14) rfl).trans (itec (fun c1 => ?_) (fun c1 => ?_))
  · exact rn_return (pc := 70) (dd bX0_turnDigits dX0_turnDigits_70) rfl
  · refine (rn_iload_n (pc := 17) (dd bX0_turnDigits dX0_turnDigits_17) rfl).trans ?_
    refine (rn_sipush (pc := 18) (dd bX0_turnDigits dX0_turnDigits_18) (by decide)).trans ?_
    refine (rn_icmp_ge (t := 70) (pc := 21) (dd bX0_turnDigits dX0_turnDigits_21) rfl).trans (itec (fun c2 => ?_) (fun c2 => ?_))
    · exact rn_return (pc := 70) (dd bX0_turnDigits dX0_turnDigits_70) rfl
    · refine (rn_aload_n (pc := 24) (dd bX0_turnDigits dX0_turnDigits_24) rfl).trans ?_
      refine (rn_aload_n (pc := 25) (dd bX0_turnDigits dX0_turnDigits_25) rfl).trans ?_
      refine (rg_gf (pc := 26) (dd bX0_turnDigits dX0_turnDigits_26) (ci := 1) (j := 3) rfl rfl (key := 203) rfl (kc := 21) rfl s1.1 s1.2.2.2.2.2.2.2.2.2.2.1).trans ?_
      refine (rn_iload_n (pc := 29) (dd bX0_turnDigits dX0_turnDigits_29) rfl).trans ?_
      refine (rg_iaload (pc := 30) (dd bX0_turnDigits dX0_turnDigits_30) s1.2.2.2.2.2.2.2.2.2.2.2.1 s1.2.2.2.2.2.2.2.2.2.2.2.2.1 (p2 c1 c2) (Int.not_le.mp c2) rfl).trans ?_
      refine (rg_virtual (pc := 31) (dd bX0_turnDigits dX0_turnDigits_31) rfl rfl (by decide) (kc := 21) rfl s1.1 (as := [(1, x0), (0, h 2 (x0 + 4) x2)]) rfl ⟨Nat.le_of_ble_eq_true rfl, Nat.le_of_ble_eq_true rfl, Nat.le_of_ble_eq_true rfl, Nat.le_of_ble_eq_true rfl⟩).trans ?_
      refine (vret_v spX0_isDigit).trans ?_
      have e2 : vrun mX0_turnDigits 34 [(1, x0), (0, x1), (0, x2)] [(0, (if ¬ (h 2 (x0 + 4) x2 < 48) ∧ ¬ (57 < h 2 (x0 + 4) x2) then 1 else 0))] h = vrun mX0_turnDigits 64 [(1, x0), (0, (if ¬ (h 2 (x0 + 4) x2 < 48) ∧ ¬ (57 < h 2 (x0 + 4) x2) then x1 else (if h 2 (x0 + 5) x2 = (-1) then x1 else h 2 (x0 + 5) x2))), (0, x2)] [] (if ¬ (h 2 (x0 + 4) x2 < 48) ∧ ¬ (57 < h 2 (x0 + 4) x2) then vup h 2 (x0 + 5) x2 x1 else h) := by
        refine (rg_beq (t := 47) (pc := 34) (dd bX0_turnDigits dX0_turnDigits_34) rfl).trans ?_
        by_cases c3 : ¬ (h 2 (x0 + 4) x2 < 48) ∧ ¬ (57 < h 2 (x0 + 4) x2)
        · refine (if_pos c3).trans ?_
          refine (rn_aload_n (pc := 37) (dd bX0_turnDigits dX0_turnDigits_37) rfl).trans ?_
          refine (rg_gf (pc := 38) (dd bX0_turnDigits dX0_turnDigits_38) (ci := 1) (j := 4) rfl rfl (key := 204) rfl (kc := 21) rfl s1.1 s1.2.2.2.2.2.2.2.2.2.2.2.2.2.1).trans ?_
          refine (rn_iload_n (pc := 41) (dd bX0_turnDigits dX0_turnDigits_41) rfl).trans ?_
          refine (rn_iload_n (pc := 42) (dd bX0_turnDigits dX0_turnDigits_42) rfl).trans ?_
          refine (rg_iastore (pc := 43) (dd bX0_turnDigits dX0_turnDigits_43) s1.2.2.2.2.2.2.2.2.2.2.2.2.2.2.1 s1.2.2.2.2.2.2.2.2.2.2.2.2.2.2.2.1 (by have z0 := p2 c1 c2; omega) (Int.not_le.mp c2)).trans ?_
          refine (rn_goto (t := 64) (pc := 44) (dd bX0_turnDigits dX0_turnDigits_44) rfl).trans ?_
          refine Eq.trans (b := vrun mX0_turnDigits 64 [(1, x0), (0, x1), (0, x2)] [] (vup h 2 (x0 + 5) x2 x1)) rfl ?_
          simp only [if_pos c3]
        · refine (if_neg c3).trans ?_
          refine (rn_aload_n (pc := 47) (dd bX0_turnDigits dX0_turnDigits_47) rfl).trans ?_
          refine (rg_gf (pc := 48) (dd bX0_turnDigits dX0_turnDigits_48) (ci := 1) (j := 4) rfl rfl (key := 204) rfl (kc := 21) rfl s1.1 s1.2.2.2.2.2.2.2.2.2.2.2.2.2.1).trans ?_
          refine (rn_iload_n (pc := 51) (dd bX0_turnDigits dX0_turnDigits_51) rfl).trans ?_
          refine (rg_iaload (pc := 52) (dd bX0_turnDigits dX0_turnDigits_52) s1.2.2.2.2.2.2.2.2.2.2.2.2.2.2.1 s1.2.2.2.2.2.2.2.2.2.2.2.2.2.2.2.1 (by have z0 := p2 c1 c2; omega) (Int.not_le.mp c2) rfl).trans ?_
          refine (rn_iconst (pc := 53) (dd bX0_turnDigits dX0_turnDigits_53) (by decide)).trans ?_
          have e1 : vrun mX0_turnDigits 54 [(1, x0), (0, x1), (0, x2)] [(0, (-1)), (0, h 2 (x0 + 5) x2)] h = vrun mX0_turnDigits 64 [(1, x0), (0, (if h 2 (x0 + 5) x2 = (-1) then x1 else h 2 (x0 + 5) x2)), (0, x2)] [] h := by
            refine (rn_icmp_eq (t := 64) (pc := 54) (dd bX0_turnDigits dX0_turnDigits_54) rfl).trans ?_
            by_cases c4 : h 2 (x0 + 5) x2 = (-1)
            · refine (if_pos c4).trans ?_
              refine Eq.trans (b := vrun mX0_turnDigits 64 [(1, x0), (0, x1), (0, x2)] [] h) rfl ?_
              simp only [if_pos c4]
            · refine (if_neg c4).trans ?_
              refine (rn_aload_n (pc := 57) (dd bX0_turnDigits dX0_turnDigits_57) rfl).trans ?_
              refine (rg_gf (pc := 58) (dd bX0_turnDigits dX0_turnDigits_58) (ci := 1) (j := 4) rfl rfl (key := 204) rfl (kc := 21) rfl s1.1 s1.2.2.2.2.2.2.2.2.2.2.2.2.2.1).trans ?_
              refine (rn_iload_n (pc := 61) (dd bX0_turnDigits dX0_turnDigits_61) rfl).trans ?_
              refine (rg_iaload (pc := 62) (dd bX0_turnDigits dX0_turnDigits_62) s1.2.2.2.2.2.2.2.2.2.2.2.2.2.2.1 s1.2.2.2.2.2.2.2.2.2.2.2.2.2.2.2.1 (by have z0 := p2 c1 c2; omega) (Int.not_le.mp c2) rfl).trans ?_
              refine (rn_istore_n (pc := 63) (dd bX0_turnDigits dX0_turnDigits_63) (Nat.le_of_ble_eq_true rfl) rfl).trans ?_
              refine Eq.trans (b := vrun mX0_turnDigits 64 [(1, x0), (0, h 2 (x0 + 5) x2), (0, x2)] [] h) rfl ?_
              simp only [if_neg c4]
          refine e1.trans ?_
          refine Eq.trans (b := vrun mX0_turnDigits 64 [(1, x0), (0, (if h 2 (x0 + 5) x2 = (-1) then x1 else h 2 (x0 + 5) x2)), (0, x2)] [] h) rfl ?_
          simp only [if_neg c3]
      refine e2.trans ?_
      refine (rg_iinc (pc := 64) (dd bX0_turnDigits dX0_turnDigits_64) rfl (Nat.le_of_ble_eq_true rfl) (by have z0 := p2 c1 c2; omega) (by have z0 := p2 c1 c2; omega) rfl).trans ?_
      refine (rn_goto (t := 9) (pc := 67) (dd bX0_turnDigits dX0_turnDigits_67) rfl).trans ?_
      rfl
theorem bX0_lastOpened : vmB mX0_lastOpened = cX0_lastOpened := rfl
theorem rX0_lastOpened_0 {x0 : Int} {x1 : Int} {x2 : Int} {h : vH} (p1 : (-2147483648) ≤ min x1 131 - 1) : vrun mX0_lastOpened 0 [(1, x0), (0, x1), (0, x2), (9, 0), (9, 0)] [] h = vrun mX0_lastOpened 10 [(1, x0), (0, x1), (0, x2), (0, min x1 131 - 1), (9, 0)] [] h := by
  refine (rn_iload_n (pc := 0) (dd bX0_lastOpened dX0_lastOpened_0) rfl).trans ?_
  refine (rn_sipush (pc := 1) (dd bX0_lastOpened dX0_lastOpened_1) (by decide)).trans ?_
  refine (rg_min (pc := 4) (dd bX0_lastOpened dX0_lastOpened_4) rfl ⟨Nat.le_of_ble_eq_true rfl, Nat.le_of_ble_eq_true rfl, Nat.le_of_ble_eq_true rfl⟩).trans ?_
  refine (rn_iconst (pc := 7) (dd bX0_lastOpened dX0_lastOpened_7) (by decide)).trans ?_
  refine (rg_isub (pc := 8) (dd bX0_lastOpened dX0_lastOpened_8) p1 (by omega)).trans ?_
  refine (rn_istore_n (pc := 9) (dd bX0_lastOpened dX0_lastOpened_9) (Nat.le_of_ble_eq_true rfl) rfl).trans ?_
  rfl
theorem rX0_lastOpened_10 {x0 : Int} {x1 : Int} {x2 : Int} {x3 : Int} {v4 : vv} {h : vH} (s1 : shDirections h x0) (p2 : ¬ (x3 < 0) → x3 < 131) : vrun mX0_lastOpened 10 [(1, x0), (0, x1), (0, x2), (0, x3), v4] [] h = if x3 < 0 then some (.inl (some (0, (-1))), h) else if h 2 (x0 + 7) x3 < 0 then vrun mX0_lastOpened 10 [(1, x0), (0, x1), (0, x2), (0, x3 + (-1)), (0, h 2 (x0 + 7) x3)] [] h else if 131 ≤ h 2 (x0 + 7) x3 then vrun mX0_lastOpened 10 [(1, x0), (0, x1), (0, x2), (0, x3 + (-1)), (0, h 2 (x0 + 7) x3)] [] h else if h 2 (x0 + 4) (h 2 (x0 + 7) x3) = x2 then some (.inl (some (0, x3)), h) else vrun mX0_lastOpened 10 [(1, x0), (0, x1), (0, x2), (0, x3 + (-1)), (0, h 2 (x0 + 7) x3)] [] h := by
  refine (rn_iload_n (pc := 10) (dd bX0_lastOpened dX0_lastOpened_10) rfl).trans ?_
  refine (rn_if_lt (t := 54) (pc := 11) (dd bX0_lastOpened dX0_lastOpened_11) rfl).trans (itec (fun c1 => ?_) (fun c1 => ?_))
  · refine (rn_iconst (pc := 54) (dd bX0_lastOpened dX0_lastOpened_54) (by decide)).trans ?_
    exact rn_ireturn (pc := 55) (dd bX0_lastOpened dX0_lastOpened_55) (Or.inl rfl)
  · refine (rn_aload_n (pc := 14) (dd bX0_lastOpened dX0_lastOpened_14) rfl).trans ?_
    refine (rg_gf (pc := 15) (dd bX0_lastOpened dX0_lastOpened_15) (ci := 1) (j := 6) rfl rfl (key := 206) rfl (kc := 21) rfl s1.1 s1.2.2.2.2.2.2.2.2.2.2.2.2.2.2.2.2.2.2.2.1).trans ?_
    refine (rn_iload_n (pc := 18) (dd bX0_lastOpened dX0_lastOpened_18) rfl).trans ?_
    refine (rg_iaload (pc := 19) (dd bX0_lastOpened dX0_lastOpened_19) s1.2.2.2.2.2.2.2.2.2.2.2.2.2.2.2.2.2.2.2.2.1 s1.2.2.2.2.2.2.2.2.2.2.2.2.2.2.2.2.2.2.2.2.2 (Int.not_lt.mp c1) (p2 c1) rfl).trans ?_
    refine (rn_istore (pc := 20) (dd bX0_lastOpened dX0_lastOpened_20) (Nat.le_of_ble_eq_true rfl) rfl).trans ?_
    refine (rn_iload (pc := 22) (dd bX0_lastOpened dX0_lastOpened_22) rfl).trans ?_
    refine (rn_if_lt (t := 48) (pc := 24) (dd bX0_lastOpened dX0_lastOpened_24) rfl).trans (itec (fun c2 => ?_) (fun c2 => ?_))
    · refine (rg_iinc (pc := 48) (dd bX0_lastOpened dX0_lastOpened_48) rfl (Nat.le_of_ble_eq_true rfl) (by have z0 := p2 c1; omega) (by have z0 := p2 c1; omega) rfl).trans ?_
      refine (rn_goto (t := 10) (pc := 51) (dd bX0_lastOpened dX0_lastOpened_51) rfl).trans ?_
      rfl
    · refine (rn_iload (pc := 27) (dd bX0_lastOpened dX0_lastOpened_27) rfl).trans ?_
      refine (rn_sipush (pc := 29) (dd bX0_lastOpened dX0_lastOpened_29) (by decide)).trans ?_
      refine (rn_icmp_ge (t := 48) (pc := 32) (dd bX0_lastOpened dX0_lastOpened_32) rfl).trans (itec (fun c3 => ?_) (fun c3 => ?_))
      · refine (rg_iinc (pc := 48) (dd bX0_lastOpened dX0_lastOpened_48) rfl (Nat.le_of_ble_eq_true rfl) (by have z0 := p2 c1; omega) (by have z0 := p2 c1; omega) rfl).trans ?_
        refine (rn_goto (t := 10) (pc := 51) (dd bX0_lastOpened dX0_lastOpened_51) rfl).trans ?_
        rfl
      · refine (rn_aload_n (pc := 35) (dd bX0_lastOpened dX0_lastOpened_35) rfl).trans ?_
        refine (rg_gf (pc := 36) (dd bX0_lastOpened dX0_lastOpened_36) (ci := 1) (j := 3) rfl rfl (key := 203) rfl (kc := 21) rfl s1.1 s1.2.2.2.2.2.2.2.2.2.2.1).trans ?_
        refine (rn_iload (pc := 39) (dd bX0_lastOpened dX0_lastOpened_39) rfl).trans ?_
        refine (rg_iaload (pc := 41) (dd bX0_lastOpened dX0_lastOpened_41) s1.2.2.2.2.2.2.2.2.2.2.2.1 s1.2.2.2.2.2.2.2.2.2.2.2.2.1 (Int.not_lt.mp c2) (Int.not_le.mp c3) rfl).trans ?_
        refine (rn_iload_n (pc := 42) (dd bX0_lastOpened dX0_lastOpened_42) rfl).trans ?_
        refine (rg_icmp_ne (t := 48) (pc := 43) (dd bX0_lastOpened dX0_lastOpened_43) rfl).trans (itec (fun c4 => ?_) (fun c4 => ?_))
        · refine (rn_iload_n (pc := 46) (dd bX0_lastOpened dX0_lastOpened_46) rfl).trans ?_
          exact rn_ireturn (pc := 47) (dd bX0_lastOpened dX0_lastOpened_47) (Or.inl rfl)
        · refine (rg_iinc (pc := 48) (dd bX0_lastOpened dX0_lastOpened_48) rfl (Nat.le_of_ble_eq_true rfl) (by have z0 := p2 c1; omega) (by have z0 := p2 c1; omega) rfl).trans ?_
          refine (rn_goto (t := 10) (pc := 51) (dd bX0_lastOpened dX0_lastOpened_51) rfl).trans ?_
          rfl
theorem bX0_setCloser : vmB mX0_setCloser = cX0_setCloser := rfl
theorem rX0_setCloser_0 {x0 : Int} {x1 : Int} {x2 : Int} {h : vH} (s1 : shDirections h x0) : vrun mX0_setCloser 0 [(1, x0), (0, x1), (0, x2)] [] h = some (.inl none, (if x1 < 0 then h else (if 131 ≤ x1 then h else vup h 2 (x0 + 6) x1 x2))) := by
  refine (rn_iload_n (pc := 0) (dd bX0_setCloser dX0_setCloser_0) rfl).trans ?_
  have e2 : vrun mX0_setCloser 1 [(1, x0), (0, x1), (0, x2)] [(0, x1)] h = vrun mX0_setCloser 18 [(1, x0), (0, x1), (0, x2)] [] (if x1 < 0 then h else (if 131 ≤ x1 then h else vup h 2 (x0 + 6) x1 x2)) := by
    refine (rn_if_lt (t := 18) (pc := 1) (dd bX0_setCloser dX0_setCloser_1) rfl).trans ?_
    by_cases c1 : x1 < 0
    · refine (if_pos c1).trans ?_
      refine Eq.trans (b := vrun mX0_setCloser 18 [(1, x0), (0, x1), (0, x2)] [] h) rfl ?_
      simp only [if_pos c1]
    · refine (if_neg c1).trans ?_
      refine (rn_iload_n (pc := 4) (dd bX0_setCloser dX0_setCloser_4) rfl).trans ?_
      refine (rn_sipush (pc := 5) (dd bX0_setCloser dX0_setCloser_5) (by decide)).trans ?_
      have e1 : vrun mX0_setCloser 8 [(1, x0), (0, x1), (0, x2)] [(0, 131), (0, x1)] h = vrun mX0_setCloser 18 [(1, x0), (0, x1), (0, x2)] [] (if 131 ≤ x1 then h else vup h 2 (x0 + 6) x1 x2) := by
        refine (rn_icmp_ge (t := 18) (pc := 8) (dd bX0_setCloser dX0_setCloser_8) rfl).trans ?_
        by_cases c2 : 131 ≤ x1
        · refine (if_pos c2).trans ?_
          refine Eq.trans (b := vrun mX0_setCloser 18 [(1, x0), (0, x1), (0, x2)] [] h) rfl ?_
          simp only [if_pos c2]
        · refine (if_neg c2).trans ?_
          refine (rn_aload_n (pc := 11) (dd bX0_setCloser dX0_setCloser_11) rfl).trans ?_
          refine (rg_gf (pc := 12) (dd bX0_setCloser dX0_setCloser_12) (ci := 1) (j := 5) rfl rfl (key := 205) rfl (kc := 21) rfl s1.1 s1.2.2.2.2.2.2.2.2.2.2.2.2.2.2.2.2.1).trans ?_
          refine (rn_iload_n (pc := 15) (dd bX0_setCloser dX0_setCloser_15) rfl).trans ?_
          refine (rn_iload_n (pc := 16) (dd bX0_setCloser dX0_setCloser_16) rfl).trans ?_
          refine (rg_iastore (pc := 17) (dd bX0_setCloser dX0_setCloser_17) s1.2.2.2.2.2.2.2.2.2.2.2.2.2.2.2.2.2.1 s1.2.2.2.2.2.2.2.2.2.2.2.2.2.2.2.2.2.2.1 (Int.not_lt.mp c1) (Int.not_le.mp c2)).trans ?_
          refine Eq.trans (b := vrun mX0_setCloser 18 [(1, x0), (0, x1), (0, x2)] [] (vup h 2 (x0 + 6) x1 x2)) rfl ?_
          simp only [if_neg c2]
      refine e1.trans ?_
      refine Eq.trans (b := vrun mX0_setCloser 18 [(1, x0), (0, x1), (0, x2)] [] (if 131 ≤ x1 then h else vup h 2 (x0 + 6) x1 x2)) rfl ?_
      simp only [if_neg c1]
  refine e2.trans ?_
  exact rn_return (pc := 18) (dd bX0_setCloser dX0_setCloser_18) rfl
theorem bX0_pairBrackets : vmB mX0_pairBrackets = cX0_pairBrackets := rfl
theorem rX0_pairBrackets_0 {x0 : Int} {h : vH} : vrun mX0_pairBrackets 0 [(1, x0), (9, 0), (9, 0), (9, 0), (9, 0)] [] h = vrun mX0_pairBrackets 4 [(1, x0), (0, 0), (0, 0), (9, 0), (9, 0)] [] h := by
  refine (rn_iconst (pc := 0) (dd bX0_pairBrackets dX0_pairBrackets_0) (by decide)).trans ?_
  refine (rn_istore_n (pc := 1) (dd bX0_pairBrackets dX0_pairBrackets_1) (Nat.le_of_ble_eq_true rfl) rfl).trans ?_
  refine (rn_iconst (pc := 2) (dd bX0_pairBrackets dX0_pairBrackets_2) (by decide)).trans ?_
  refine (rn_istore_n (pc := 3) (dd bX0_pairBrackets dX0_pairBrackets_3) (Nat.le_of_ble_eq_true rfl) rfl).trans ?_
  rfl
theorem rX0_pairBrackets_4 {x0 : Int} {x1 : Int} {x2 : Int} {v3 : vv} {v4 : vv} {h : vH} (s1 : shDirections h x0) (p2 : ¬ (h 207 x0 0 ≤ x2) → ¬ (131 ≤ x2) → 0 ≤ x2) (p3 : ¬ (h 207 x0 0 ≤ x2) → ¬ (131 ≤ x2) → h 2 (x0 + 4) x2 = 40 → ¬ (131 ≤ x1) → 0 ≤ x1) (p4 : ¬ (h 207 x0 0 ≤ x2) → ¬ (131 ≤ x2) → ¬ (h 2 (x0 + 4) x2 = 40) → h 2 (x0 + 4) x2 = 91 → ¬ (131 ≤ x1) → 0 ≤ x1) : vrun mX0_pairBrackets 4 [(1, x0), (0, x1), (0, x2), v3, v4] [] h = if h 207 x0 0 ≤ x2 then some (.inl none, h) else if 131 ≤ x2 then some (.inl none, h) else if h 2 (x0 + 4) x2 = 40 then if 131 ≤ x1 then if h 2 (x0 + 4) x2 = 41 then vret vrun mX0_pairBrackets 85 [(1, x0), (0, x1), (0, x2), (0, h 2 (x0 + 4) x2), v4] [] (vcl mX0_lastOpened [(1, x0), (0, x1), (0, (if h 2 (x0 + 4) x2 = 41 then 40 else 91))] h) else if h 2 (x0 + 4) x2 = 93 then vret vrun mX0_pairBrackets 85 [(1, x0), (0, x1), (0, x2), (0, h 2 (x0 + 4) x2), v4] [] (vcl mX0_lastOpened [(1, x0), (0, x1), (0, (if h 2 (x0 + 4) x2 = 41 then 40 else 91))] h) else vrun mX0_pairBrackets 4 [(1, x0), (0, x1), (0, x2 + 1), (0, h 2 (x0 + 4) x2), v4] [] h else vrun mX0_pairBrackets 4 [(1, x0), (0, x1 + 1), (0, x2 + 1), (0, h 2 (x0 + 4) x2), v4] [] (vup h 2 (x0 + 7) x1 x2) else if h 2 (x0 + 4) x2 = 91 then if 131 ≤ x1 then if h 2 (x0 + 4) x2 = 41 then vret vrun mX0_pairBrackets 85 [(1, x0), (0, x1), (0, x2), (0, h 2 (x0 + 4) x2), v4] [] (vcl mX0_lastOpened [(1, x0), (0, x1), (0, (if h 2 (x0 + 4) x2 = 41 then 40 else 91))] h) else if h 2 (x0 + 4) x2 = 93 then vret vrun mX0_pairBrackets 85 [(1, x0), (0, x1), (0, x2), (0, h 2 (x0 + 4) x2), v4] [] (vcl mX0_lastOpened [(1, x0), (0, x1), (0, (if h 2 (x0 + 4) x2 = 41 then 40 else 91))] h) else vrun mX0_pairBrackets 4 [(1, x0), (0, x1), (0, x2 + 1), (0, h 2 (x0 + 4) x2), v4] [] h else vrun mX0_pairBrackets 4 [(1, x0), (0, x1 + 1), (0, x2 + 1), (0, h 2 (x0 + 4) x2), v4] [] (vup h 2 (x0 + 7) x1 x2) else if h 2 (x0 + 4) x2 = 41 then vret vrun mX0_pairBrackets 85 [(1, x0), (0, x1), (0, x2), (0, h 2 (x0 + 4) x2), v4] [] (vcl mX0_lastOpened [(1, x0), (0, x1), (0, (if h 2 (x0 + 4) x2 = 41 then 40 else 91))] h) else if h 2 (x0 + 4) x2 = 93 then vret vrun mX0_pairBrackets 85 [(1, x0), (0, x1), (0, x2), (0, h 2 (x0 + 4) x2), v4] [] (vcl mX0_lastOpened [(1, x0), (0, x1), (0, (if h 2 (x0 + 4) x2 = 41 then 40 else 91))] h) else vrun mX0_pairBrackets 4 [(1, x0), (0, x1), (0, x2 + 1), (0, h 2 (x0 + 4) x2), v4] [] h := by
  refine (rn_iload_n (pc := 4) (dd bX0_pairBrackets dX0_pairBrackets_4) rfl).trans ?_
  refine (rn_aload_n (pc := 5) (dd bX0_pairBrackets dX0_pairBrackets_5) rfl).trans ?_
  refine (rg_gf (pc := 6) (dd bX0_pairBrackets dX0_pairBrackets_6) (ci := 1) (j := 7) rfl rfl (key := 207) rfl (kc := 21) rfl s1.1 rfl).trans ?_
  refine (rn_icmp_ge (t := 124) (pc := 9) (dd bX0_pairBrackets dX0_pairBrackets_9) rfl).trans (itec (fun c1 => ?_) (fun c1 => ?_))
  · exact rn_return (pc := 124) (dd bX0_pairBrackets dX0_pairBrackets_124) rfl
  · refine (rn_iload_n (pc := 12) (dd bX0_pairBrackets dX0_pairBrackets_12) rfl).trans ?_
    refine (rn_sipush (pc := 13) (dd bX0_pairBrackets dX0_pairBrackets_13) (by decide)).trans ?_
    refine (rn_icmp_ge (t := 124) (pc := 16) (dd bX0_pairBrackets dX0_pairBrackets_16) rfl).trans (itec (fun c2 => ?_) (fun c2 => ?_))
    · exact rn_return (pc := 124) (dd bX0_pairBrackets dX0_pairBrackets_124) rfl
    · refine (rn_aload_n (pc := 19) (dd bX0_pairBrackets dX0_pairBrackets_19) rfl).trans ?_
      refine (rg_gf (pc := 20) (dd bX0_pairBrackets dX0_pairBrackets_20) (ci := 1) (j := 3) rfl rfl (key := 203) rfl (kc := 21) rfl s1.1 s1.2.2.2.2.2.2.2.2.2.2.1).trans ?_
      refine (rn_iload_n (pc := 23) (dd bX0_pairBrackets dX0_pairBrackets_23) rfl).trans ?_
      refine (rg_iaload (pc := 24) (dd bX0_pairBrackets dX0_pairBrackets_24) s1.2.2.2.2.2.2.2.2.2.2.2.1 s1.2.2.2.2.2.2.2.2.2.2.2.2.1 (p2 c1 c2) (Int.not_le.mp c2) rfl).trans ?_
      refine (rn_istore_n (pc := 25) (dd bX0_pairBrackets dX0_pairBrackets_25) (Nat.le_of_ble_eq_true rfl) rfl).trans ?_
      refine (rn_iload_n (pc := 26) (dd bX0_pairBrackets dX0_pairBrackets_26) rfl).trans ?_
      refine (rn_bipush (pc := 27) (dd bX0_pairBrackets dX0_pairBrackets_27) (by decide)).trans ?_
      refine (rn_icmp_eq (t := 38) (pc := 29) (dd bX0_pairBrackets dX0_pairBrackets_29) rfl).trans (itec (fun c3 => ?_) (fun c3 => ?_))
      · refine (rn_iload_n (pc := 38) (dd bX0_pairBrackets dX0_pairBrackets_38) rfl).trans ?_
        refine (rn_sipush (pc := 39) (dd bX0_pairBrackets dX0_pairBrackets_39) (by decide)).trans ?_
        refine (rn_icmp_ge (t := 58) (pc := 42) (dd bX0_pairBrackets dX0_pairBrackets_42) rfl).trans (itec (fun c4 => ?_) (fun c4 => ?_))
        · refine (rn_iload_n (pc := 58) (dd bX0_pairBrackets dX0_pairBrackets_58) rfl).trans ?_
          refine (rn_bipush (pc := 59) (dd bX0_pairBrackets dX0_pairBrackets_59) (by decide)).trans ?_
          refine (rn_icmp_eq (t := 70) (pc := 61) (dd bX0_pairBrackets dX0_pairBrackets_61) rfl).trans (itec (fun c5 => ?_) (fun c5 => ?_))
          · refine (rn_aload_n (pc := 70) (dd bX0_pairBrackets dX0_pairBrackets_70) rfl).trans ?_
            refine (rn_iload_n (pc := 71) (dd bX0_pairBrackets dX0_pairBrackets_71) rfl).trans ?_
            refine (rn_iload_n (pc := 72) (dd bX0_pairBrackets dX0_pairBrackets_72) rfl).trans ?_
            refine (rn_bipush (pc := 73) (dd bX0_pairBrackets dX0_pairBrackets_73) (by decide)).trans ?_
            have e1 : vrun mX0_pairBrackets 75 [(1, x0), (0, x1), (0, x2), (0, h 2 (x0 + 4) x2), v4] [(0, 41), (0, h 2 (x0 + 4) x2), (0, x1), (1, x0)] h = vrun mX0_pairBrackets 85 [(1, x0), (0, x1), (0, x2), (0, h 2 (x0 + 4) x2), v4] [(0, (if h 2 (x0 + 4) x2 = 41 then 40 else 91)), (0, x1), (1, x0)] h := by
              refine (rg_icmp_ne (t := 83) (pc := 75) (dd bX0_pairBrackets dX0_pairBrackets_75) rfl).trans ?_
              by_cases c6 : h 2 (x0 + 4) x2 = 41
              · refine (if_pos c6).trans ?_
                refine (rn_bipush (pc := 78) (dd bX0_pairBrackets dX0_pairBrackets_78) (by decide)).trans ?_
                refine (rn_goto (t := 85) (pc := 80) (dd bX0_pairBrackets dX0_pairBrackets_80) rfl).trans ?_
                refine Eq.trans (b := vrun mX0_pairBrackets 85 [(1, x0), (0, x1), (0, x2), (0, h 2 (x0 + 4) x2), v4] [(0, 40), (0, x1), (1, x0)] h) rfl ?_
                simp only [if_pos c6]
              · refine (if_neg c6).trans ?_
                refine (rn_bipush (pc := 83) (dd bX0_pairBrackets dX0_pairBrackets_83) (by decide)).trans ?_
                refine Eq.trans (b := vrun mX0_pairBrackets 85 [(1, x0), (0, x1), (0, x2), (0, h 2 (x0 + 4) x2), v4] [(0, 91), (0, x1), (1, x0)] h) rfl ?_
                simp only [if_neg c6]
            refine e1.trans ?_
            exact rg_virtual (pc := 85) (dd bX0_pairBrackets dX0_pairBrackets_85) rfl rfl (by decide) (kc := 21) rfl s1.1 (as := [(1, x0), (0, x1), (0, (if h 2 (x0 + 4) x2 = 41 then 40 else 91))]) rfl ⟨Nat.le_of_ble_eq_true rfl, Nat.le_of_ble_eq_true rfl, Nat.le_of_ble_eq_true rfl, Nat.le_of_ble_eq_true rfl⟩
          · refine (rn_iload_n (pc := 64) (dd bX0_pairBrackets dX0_pairBrackets_64) rfl).trans ?_
            refine (rn_bipush (pc := 65) (dd bX0_pairBrackets dX0_pairBrackets_65) (by decide)).trans ?_
            refine (rg_icmp_ne (t := 118) (pc := 67) (dd bX0_pairBrackets dX0_pairBrackets_67) rfl).trans (itec (fun c7 => ?_) (fun c7 => ?_))
            · refine (rn_aload_n (pc := 70) (dd bX0_pairBrackets dX0_pairBrackets_70) rfl).trans ?_
              refine (rn_iload_n (pc := 71) (dd bX0_pairBrackets dX0_pairBrackets_71) rfl).trans ?_
              refine (rn_iload_n (pc := 72) (dd bX0_pairBrackets dX0_pairBrackets_72) rfl).trans ?_
              refine (rn_bipush (pc := 73) (dd bX0_pairBrackets dX0_pairBrackets_73) (by decide)).trans ?_
              have e2 : vrun mX0_pairBrackets 75 [(1, x0), (0, x1), (0, x2), (0, h 2 (x0 + 4) x2), v4] [(0, 41), (0, h 2 (x0 + 4) x2), (0, x1), (1, x0)] h = vrun mX0_pairBrackets 85 [(1, x0), (0, x1), (0, x2), (0, h 2 (x0 + 4) x2), v4] [(0, (if h 2 (x0 + 4) x2 = 41 then 40 else 91)), (0, x1), (1, x0)] h := by
                refine (rg_icmp_ne (t := 83) (pc := 75) (dd bX0_pairBrackets dX0_pairBrackets_75) rfl).trans ?_
                by_cases c8 : h 2 (x0 + 4) x2 = 41
                · refine (if_pos c8).trans ?_
                  refine (rn_bipush (pc := 78) (dd bX0_pairBrackets dX0_pairBrackets_78) (by decide)).trans ?_
                  refine (rn_goto (t := 85) (pc := 80) (dd bX0_pairBrackets dX0_pairBrackets_80) rfl).trans ?_
                  refine Eq.trans (b := vrun mX0_pairBrackets 85 [(1, x0), (0, x1), (0, x2), (0, h 2 (x0 + 4) x2), v4] [(0, 40), (0, x1), (1, x0)] h) rfl ?_
                  simp only [if_pos c8]
                · refine (if_neg c8).trans ?_
                  refine (rn_bipush (pc := 83) (dd bX0_pairBrackets dX0_pairBrackets_83) (by decide)).trans ?_
                  refine Eq.trans (b := vrun mX0_pairBrackets 85 [(1, x0), (0, x1), (0, x2), (0, h 2 (x0 + 4) x2), v4] [(0, 91), (0, x1), (1, x0)] h) rfl ?_
                  simp only [if_neg c8]
              refine e2.trans ?_
              exact rg_virtual (pc := 85) (dd bX0_pairBrackets dX0_pairBrackets_85) rfl rfl (by decide) (kc := 21) rfl s1.1 (as := [(1, x0), (0, x1), (0, (if h 2 (x0 + 4) x2 = 41 then 40 else 91))]) rfl ⟨Nat.le_of_ble_eq_true rfl, Nat.le_of_ble_eq_true rfl, Nat.le_of_ble_eq_true rfl, Nat.le_of_ble_eq_true rfl⟩
            · refine (rg_iinc (pc := 118) (dd bX0_pairBrackets dX0_pairBrackets_118) rfl (Nat.le_of_ble_eq_true rfl) (by have z0 := p2 c1 c2; omega) (by have z0 := p2 c1 c2; omega) rfl).trans ?_
              refine (rn_goto (t := 4) (pc := 121) (dd bX0_pairBrackets dX0_pairBrackets_121) rfl).trans ?_
              rfl
        · refine (rn_aload_n (pc := 45) (dd bX0_pairBrackets dX0_pairBrackets_45) rfl).trans ?_
          refine (rg_gf (pc := 46) (dd bX0_pairBrackets dX0_pairBrackets_46) (ci := 1) (j := 6) rfl rfl (key := 206) rfl (kc := 21) rfl s1.1 s1.2.2.2.2.2.2.2.2.2.2.2.2.2.2.2.2.2.2.2.1).trans ?_
          refine (rn_iload_n (pc := 49) (dd bX0_pairBrackets dX0_pairBrackets_49) rfl).trans ?_
          refine (rn_iload_n (pc := 50) (dd bX0_pairBrackets dX0_pairBrackets_50) rfl).trans ?_
          refine (rg_iastore (pc := 51) (dd bX0_pairBrackets dX0_pairBrackets_51) s1.2.2.2.2.2.2.2.2.2.2.2.2.2.2.2.2.2.2.2.2.1 s1.2.2.2.2.2.2.2.2.2.2.2.2.2.2.2.2.2.2.2.2.2 (p3 c1 c2 c3 c4) (Int.not_le.mp c4)).trans ?_
          refine (rg_iinc (pc := 52) (dd bX0_pairBrackets dX0_pairBrackets_52) rfl (Nat.le_of_ble_eq_true rfl) (by have z0 := p3 c1 c2 c3 c4; omega) (by have z0 := p3 c1 c2 c3 c4; omega) rfl).trans ?_
          refine (rn_goto (t := 118) (pc := 55) (dd bX0_pairBrackets dX0_pairBrackets_55) rfl).trans ?_
          refine (rg_iinc (pc := 118) (dd bX0_pairBrackets dX0_pairBrackets_118) rfl (Nat.le_of_ble_eq_true rfl) (by have z0 := p2 c1 c2; omega) (by have z0 := p2 c1 c2; omega) rfl).trans ?_
          refine (rn_goto (t := 4) (pc := 121) (dd bX0_pairBrackets dX0_pairBrackets_121) rfl).trans ?_
          rfl
      · refine (rn_iload_n (pc := 32) (dd bX0_pairBrackets dX0_pairBrackets_32) rfl).trans ?_
        refine (rn_bipush (pc := 33) (dd bX0_pairBrackets dX0_pairBrackets_33) (by decide)).trans ?_
        refine (rg_icmp_ne (t := 58) (pc := 35) (dd bX0_pairBrackets dX0_pairBrackets_35) rfl).trans (itec (fun c9 => ?_) (fun c9 => ?_))
        · refine (rn_iload_n (pc := 38) (dd bX0_pairBrackets dX0_pairBrackets_38) rfl).trans ?_
          refine (rn_sipush (pc := 39) (dd bX0_pairBrackets dX0_pairBrackets_39) (by decide)).trans ?_
          refine (rn_icmp_ge (t := 58) (pc := 42) (dd bX0_pairBrackets dX0_pairBrackets_42) rfl).trans (itec (fun c10 => ?_) (fun c10 => ?_))
          · refine (rn_iload_n (pc := 58) (dd bX0_pairBrackets dX0_pairBrackets_58) rfl).trans ?_
            refine (rn_bipush (pc := 59) (dd bX0_pairBrackets dX0_pairBrackets_59) (by decide)).trans ?_
            refine (rn_icmp_eq (t := 70) (pc := 61) (dd bX0_pairBrackets dX0_pairBrackets_61) rfl).trans (itec (fun c11 => ?_) (fun c11 => ?_))
            · refine (rn_aload_n (pc := 70) (dd bX0_pairBrackets dX0_pairBrackets_70) rfl).trans ?_
              refine (rn_iload_n (pc := 71) (dd bX0_pairBrackets dX0_pairBrackets_71) rfl).trans ?_
              refine (rn_iload_n (pc := 72) (dd bX0_pairBrackets dX0_pairBrackets_72) rfl).trans ?_
              refine (rn_bipush (pc := 73) (dd bX0_pairBrackets dX0_pairBrackets_73) (by decide)).trans ?_
              have e3 : vrun mX0_pairBrackets 75 [(1, x0), (0, x1), (0, x2), (0, h 2 (x0 + 4) x2), v4] [(0, 41), (0, h 2 (x0 + 4) x2), (0, x1), (1, x0)] h = vrun mX0_pairBrackets 85 [(1, x0), (0, x1), (0, x2), (0, h 2 (x0 + 4) x2), v4] [(0, (if h 2 (x0 + 4) x2 = 41 then 40 else 91)), (0, x1), (1, x0)] h := by
                refine (rg_icmp_ne (t := 83) (pc := 75) (dd bX0_pairBrackets dX0_pairBrackets_75) rfl).trans ?_
                by_cases c12 : h 2 (x0 + 4) x2 = 41
                · refine (if_pos c12).trans ?_
                  refine (rn_bipush (pc := 78) (dd bX0_pairBrackets dX0_pairBrackets_78) (by decide)).trans ?_
                  refine (rn_goto (t := 85) (pc := 80) (dd bX0_pairBrackets dX0_pairBrackets_80) rfl).trans ?_
                  refine Eq.trans (b := vrun mX0_pairBrackets 85 [(1, x0), (0, x1), (0, x2), (0, h 2 (x0 + 4) x2), v4] [(0, 40), (0, x1), (1, x0)] h) rfl ?_
                  simp only [if_pos c12]
                · refine (if_neg c12).trans ?_
                  refine (rn_bipush (pc := 83) (dd bX0_pairBrackets dX0_pairBrackets_83) (by decide)).trans ?_
                  refine Eq.trans (b := vrun mX0_pairBrackets 85 [(1, x0), (0, x1), (0, x2), (0, h 2 (x0 + 4) x2), v4] [(0, 91), (0, x1), (1, x0)] h) rfl ?_
                  simp only [if_neg c12]
              refine e3.trans ?_
              exact rg_virtual (pc := 85) (dd bX0_pairBrackets dX0_pairBrackets_85) rfl rfl (by decide) (kc := 21) rfl s1.1 (as := [(1, x0), (0, x1), (0, (if h 2 (x0 + 4) x2 = 41 then 40 else 91))]) rfl ⟨Nat.le_of_ble_eq_true rfl, Nat.le_of_ble_eq_true rfl, Nat.le_of_ble_eq_true rfl, Nat.le_of_ble_eq_true rfl⟩
            · refine (rn_iload_n (pc := 64) (dd bX0_pairBrackets dX0_pairBrackets_64) rfl).trans ?_
              refine (rn_bipush (pc := 65) (dd bX0_pairBrackets dX0_pairBrackets_65) (by decide)).trans ?_
              refine (rg_icmp_ne (t := 118) (pc := 67) (dd bX0_pairBrackets dX0_pairBrackets_67) rfl).trans (itec (fun c13 => ?_) (fun c13 => ?_))
              · refine (rn_aload_n (pc := 70) (dd bX0_pairBrackets dX0_pairBrackets_70) rfl).trans ?_
                refine (rn_iload_n (pc := 71) (dd bX0_pairBrackets dX0_pairBrackets_71) rfl).trans ?_
                refine (rn_iload_n (pc := 72) (dd bX0_pairBrackets dX0_pairBrackets_72) rfl).trans ?_
                refine (rn_bipush (pc := 73) (dd bX0_pairBrackets dX0_pairBrackets_73) (by decide)).trans ?_
                have e4 : vrun mX0_pairBrackets 75 [(1, x0), (0, x1), (0, x2), (0, h 2 (x0 + 4) x2), v4] [(0, 41), (0, h 2 (x0 + 4) x2), (0, x1), (1, x0)] h = vrun mX0_pairBrackets 85 [(1, x0), (0, x1), (0, x2), (0, h 2 (x0 + 4) x2), v4] [(0, (if h 2 (x0 + 4) x2 = 41 then 40 else 91)), (0, x1), (1, x0)] h := by
                  refine (rg_icmp_ne (t := 83) (pc := 75) (dd bX0_pairBrackets dX0_pairBrackets_75) rfl).trans ?_
                  by_cases c14 : h 2 (x0 + 4) x2 = 41
                  · refine (if_pos c14).trans ?_
                    refine (rn_bipush (pc := 78) (dd bX0_pairBrackets dX0_pairBrackets_78) (by decide)).trans ?_
                    refine (rn_goto (t := 85) (pc := 80) (dd bX0_pairBrackets dX0_pairBrackets_80) rfl).trans ?_
                    refine Eq.trans (b := vrun mX0_pairBrackets 85 [(1, x0), (0, x1), (0, x2), (0, h 2 (x0 + 4) x2), v4] [(0, 40), (0, x1), (1, x0)] h) rfl ?_
                    simp only [if_pos c14]
                  · refine (if_neg c14).trans ?_
                    refine (rn_bipush (pc := 83) (dd bX0_pairBrackets dX0_pairBrackets_83) (by decide)).trans ?_
                    refine Eq.trans (b := vrun mX0_pairBrackets 85 [(1, x0), (0, x1), (0, x2), (0, h 2 (x0 + 4) x2), v4] [(0, 91), (0, x1), (1, x0)] h) rfl ?_
                    simp only [if_neg c14]
                refine e4.trans ?_
                exact rg_virtual (pc := 85) (dd bX0_pairBrackets dX0_pairBrackets_85) rfl rfl (by decide) (kc := 21) rfl s1.1 (as := [(1, x0), (0, x1), (0, (if h 2 (x0 + 4) x2 = 41 then 40 else 91))]) rfl ⟨Nat.le_of_ble_eq_true rfl, Nat.le_of_ble_eq_true rfl, Nat.le_of_ble_eq_true rfl, Nat.le_of_ble_eq_true rfl⟩
              · refine (rg_iinc (pc := 118) (dd bX0_pairBrackets dX0_pairBrackets_118) rfl (Nat.le_of_ble_eq_true rfl) (by have z0 := p2 c1 c2; omega) (by have z0 := p2 c1 c2; omega) rfl).trans ?_
                refine (rn_goto (t := 4) (pc := 121) (dd bX0_pairBrackets dX0_pairBrackets_121) rfl).trans ?_
                rfl
          · refine (rn_aload_n (pc := 45) (dd bX0_pairBrackets dX0_pairBrackets_45) rfl).trans ?_
            refine (rg_gf (pc := 46) (dd bX0_pairBrackets dX0_pairBrackets_46) (ci := 1) (j := 6) rfl rfl (key := 206) rfl (kc := 21) rfl s1.1 s1.2.2.2.2.2.2.2.2.2.2.2.2.2.2.2.2.2.2.2.1).trans ?_
            refine (rn_iload_n (pc := 49) (dd bX0_pairBrackets dX0_pairBrackets_49) rfl).trans ?_
            refine (rn_iload_n (pc := 50) (dd bX0_pairBrackets dX0_pairBrackets_50) rfl).trans ?_
            refine (rg_iastore (pc := 51) (dd bX0_pairBrackets dX0_pairBrackets_51) s1.2.2.2.2.2.2.2.2.2.2.2.2.2.2.2.2.2.2.2.2.1 s1.2.2.2.2.2.2.2.2.2.2.2.2.2.2.2.2.2.2.2.2.2 (p4 c1 c2 c3 c9 c10) (Int.not_le.mp c10)).trans ?_
            refine (rg_iinc (pc := 52) (dd bX0_pairBrackets dX0_pairBrackets_52) rfl (Nat.le_of_ble_eq_true rfl) (by have z0 := p4 c1 c2 c3 c9 c10; omega) (by have z0 := p4 c1 c2 c3 c9 c10; omega) rfl).trans ?_
            refine (rn_goto (t := 118) (pc := 55) (dd bX0_pairBrackets dX0_pairBrackets_55) rfl).trans ?_
            refine (rg_iinc (pc := 118) (dd bX0_pairBrackets dX0_pairBrackets_118) rfl (Nat.le_of_ble_eq_true rfl) (by have z0 := p2 c1 c2; omega) (by have z0 := p2 c1 c2; omega) rfl).trans ?_
            refine (rn_goto (t := 4) (pc := 121) (dd bX0_pairBrackets dX0_pairBrackets_121) rfl).trans ?_
            rfl
        · refine (rn_iload_n (pc := 58) (dd bX0_pairBrackets dX0_pairBrackets_58) rfl).trans ?_
          refine (rn_bipush (pc := 59) (dd bX0_pairBrackets dX0_pairBrackets_59) (by decide)).trans ?_
          refine (rn_icmp_eq (t := 70) (pc := 61) (dd bX0_pairBrackets dX0_pairBrackets_61) rfl).trans (itec (fun c15 => ?_) (fun c15 => ?_))
          · refine (rn_aload_n (pc := 70) (dd bX0_pairBrackets dX0_pairBrackets_70) rfl).trans ?_
            refine (rn_iload_n (pc := 71) (dd bX0_pairBrackets dX0_pairBrackets_71) rfl).trans ?_
            refine (rn_iload_n (pc := 72) (dd bX0_pairBrackets dX0_pairBrackets_72) rfl).trans ?_
            refine (rn_bipush (pc := 73) (dd bX0_pairBrackets dX0_pairBrackets_73) (by decide)).trans ?_
            have e5 : vrun mX0_pairBrackets 75 [(1, x0), (0, x1), (0, x2), (0, h 2 (x0 + 4) x2), v4] [(0, 41), (0, h 2 (x0 + 4) x2), (0, x1), (1, x0)] h = vrun mX0_pairBrackets 85 [(1, x0), (0, x1), (0, x2), (0, h 2 (x0 + 4) x2), v4] [(0, (if h 2 (x0 + 4) x2 = 41 then 40 else 91)), (0, x1), (1, x0)] h := by
              refine (rg_icmp_ne (t := 83) (pc := 75) (dd bX0_pairBrackets dX0_pairBrackets_75) rfl).trans ?_
              by_cases c16 : h 2 (x0 + 4) x2 = 41
              · refine (if_pos c16).trans ?_
                refine (rn_bipush (pc := 78) (dd bX0_pairBrackets dX0_pairBrackets_78) (by decide)).trans ?_
                refine (rn_goto (t := 85) (pc := 80) (dd bX0_pairBrackets dX0_pairBrackets_80) rfl).trans ?_
                refine Eq.trans (b := vrun mX0_pairBrackets 85 [(1, x0), (0, x1), (0, x2), (0, h 2 (x0 + 4) x2), v4] [(0, 40), (0, x1), (1, x0)] h) rfl ?_
                simp only [if_pos c16]
              · refine (if_neg c16).trans ?_
                refine (rn_bipush (pc := 83) (dd bX0_pairBrackets dX0_pairBrackets_83) (by decide)).trans ?_
                refine Eq.trans (b := vrun mX0_pairBrackets 85 [(1, x0), (0, x1), (0, x2), (0, h 2 (x0 + 4) x2), v4] [(0, 91), (0, x1), (1, x0)] h) rfl ?_
                simp only [if_neg c16]
            refine e5.trans ?_
            exact rg_virtual (pc := 85) (dd bX0_pairBrackets dX0_pairBrackets_85) rfl rfl (by decide) (kc := 21) rfl s1.1 (as := [(1, x0), (0, x1), (0, (if h 2 (x0 + 4) x2 = 41 then 40 else 91))]) rfl ⟨Nat.le_of_ble_eq_true rfl, Nat.le_of_ble_eq_true rfl, Nat.le_of_ble_eq_true rfl, Nat.le_of_ble_eq_true rfl⟩
          · refine (rn_iload_n (pc := 64) (dd bX0_pairBrackets dX0_pairBrackets_64) rfl).trans ?_
            refine (rn_bipush (pc := 65) (dd bX0_pairBrackets dX0_pairBrackets_65) (by decide)).trans ?_
            refine (rg_icmp_ne (t := 118) (pc := 67) (dd bX0_pairBrackets dX0_pairBrackets_67) rfl).trans (itec (fun c17 => ?_) (fun c17 => ?_))
            · refine (rn_aload_n (pc := 70) (dd bX0_pairBrackets dX0_pairBrackets_70) rfl).trans ?_
              refine (rn_iload_n (pc := 71) (dd bX0_pairBrackets dX0_pairBrackets_71) rfl).trans ?_
              refine (rn_iload_n (pc := 72) (dd bX0_pairBrackets dX0_pairBrackets_72) rfl).trans ?_
              refine (rn_bipush (pc := 73) (dd bX0_pairBrackets dX0_pairBrackets_73) (by decide)).trans ?_
              have e6 : vrun mX0_pairBrackets 75 [(1, x0), (0, x1), (0, x2), (0, h 2 (x0 + 4) x2), v4] [(0, 41), (0, h 2 (x0 + 4) x2), (0, x1), (1, x0)] h = vrun mX0_pairBrackets 85 [(1, x0), (0, x1), (0, x2), (0, h 2 (x0 + 4) x2), v4] [(0, (if h 2 (x0 + 4) x2 = 41 then 40 else 91)), (0, x1), (1, x0)] h := by
                refine (rg_icmp_ne (t := 83) (pc := 75) (dd bX0_pairBrackets dX0_pairBrackets_75) rfl).trans ?_
                by_cases c18 : h 2 (x0 + 4) x2 = 41
                · refine (if_pos c18).trans ?_
                  refine (rn_bipush (pc := 78) (dd bX0_pairBrackets dX0_pairBrackets_78) (by decide)).trans ?_
                  refine (rn_goto (t := 85) (pc := 80) (dd bX0_pairBrackets dX0_pairBrackets_80) rfl).trans ?_
                  refine Eq.trans (b := vrun mX0_pairBrackets 85 [(1, x0), (0, x1), (0, x2), (0, h 2 (x0 + 4) x2), v4] [(0, 40), (0, x1), (1, x0)] h) rfl ?_
                  simp only [if_pos c18]
                · refine (if_neg c18).trans ?_
                  refine (rn_bipush (pc := 83) (dd bX0_pairBrackets dX0_pairBrackets_83) (by decide)).trans ?_
                  refine Eq.trans (b := vrun mX0_pairBrackets 85 [(1, x0), (0, x1), (0, x2), (0, h 2 (x0 + 4) x2), v4] [(0, 91), (0, x1), (1, x0)] h) rfl ?_
                  simp only [if_neg c18]
              refine e6.trans ?_
              exact rg_virtual (pc := 85) (dd bX0_pairBrackets dX0_pairBrackets_85) rfl rfl (by decide) (kc := 21) rfl s1.1 (as := [(1, x0), (0, x1), (0, (if h 2 (x0 + 4) x2 = 41 then 40 else 91))]) rfl ⟨Nat.le_of_ble_eq_true rfl, Nat.le_of_ble_eq_true rfl, Nat.le_of_ble_eq_true rfl, Nat.le_of_ble_eq_true rfl⟩
            · refine (rg_iinc (pc := 118) (dd bX0_pairBrackets dX0_pairBrackets_118) rfl (Nat.le_of_ble_eq_true rfl) (by have z0 := p2 c1 c2; omega) (by have z0 := p2 c1 c2; omega) rfl).trans ?_
              refine (rn_goto (t := 4) (pc := 121) (dd bX0_pairBrackets dX0_pairBrackets_121) rfl).trans ?_
              rfl
theorem rX0_pairBrackets_88 {x0 : Int} {x1 : Int} {x2 : Int} {x3 : Int} {v4 : vv} {y0 : Int} {h : vH} (p1 : y0 < 0 → (-2147483648) ≤ x2 + 1) (p2 : y0 < 0 → x2 + 1 < 2147483648) (p3 : ¬ (y0 < 0) → 131 ≤ y0 → (-2147483648) ≤ x2 + 1) (p4 : ¬ (y0 < 0) → 131 ≤ y0 → x2 + 1 < 2147483648) (s5 : shDirections h x0) : vrun mX0_pairBrackets 88 [(1, x0), (0, x1), (0, x2), (0, x3), v4] [(0, y0)] h = if y0 < 0 then vrun mX0_pairBrackets 4 [(1, x0), (0, x1), (0, x2 + 1), (0, x3), (0, y0)] [] h else if 131 ≤ y0 then vrun mX0_pairBrackets 4 [(1, x0), (0, x1), (0, x2 + 1), (0, x3), (0, y0)] [] h else vret vrun mX0_pairBrackets 112 [(1, x0), (0, x1), (0, x2), (0, x3), (0, y0)] [] (vcl mX0_setCloser [(1, x0), (0, h 2 (x0 + 7) y0), (0, x2)] h) := by
  refine (rn_istore (pc := 88) (dd bX0_pairBrackets dX0_pairBrackets_88) (Nat.le_of_ble_eq_true rfl) rfl).trans ?_
  refine (rn_iload (pc := 90) (dd bX0_pairBrackets dX0_pairBrackets_90) rfl).trans ?_
  refine (rn_if_lt (t := 118) (pc := 92) (dd bX0_pairBrackets dX0_pairBrackets_92) rfl).trans (itec (fun c1 => ?_) (fun c1 => ?_))
  · refine (rg_iinc (pc := 118) (dd bX0_pairBrackets dX0_pairBrackets_118) rfl (Nat.le_of_ble_eq_true rfl) (p1 c1) (p2 c1) rfl).trans ?_
    refine (rn_goto (t := 4) (pc := 121) (dd bX0_pairBrackets dX0_pairBrackets_121) rfl).trans ?_
    rfl
  · refine (rn_iload (pc := 95) (dd bX0_pairBrackets dX0_pairBrackets_95) rfl).trans ?_
    refine (rn_sipush (pc := 97) (dd bX0_pairBrackets dX0_pairBrackets_97) (by decide)).trans ?_
    refine (rn_icmp_ge (t := 118) (pc := 100) (dd bX0_pairBrackets dX0_pairBrackets_100) rfl).trans (itec (fun c2 => ?_) (fun c2 => ?_))
    · refine (rg_iinc (pc := 118) (dd bX0_pairBrackets dX0_pairBrackets_118) rfl (Nat.le_of_ble_eq_true rfl) (p3 c1 c2) (p4 c1 c2) rfl).trans ?_
      refine (rn_goto (t := 4) (pc := 121) (dd bX0_pairBrackets dX0_pairBrackets_121) rfl).trans ?_
      rfl
    · refine (rn_aload_n (pc := 103) (dd bX0_pairBrackets dX0_pairBrackets_103) rfl).trans ?_
      refine (rn_aload_n (pc := 104) (dd bX0_pairBrackets dX0_pairBrackets_104) rfl).trans ?_
      refine (rg_gf (pc := 105) (dd bX0_pairBrackets dX0_pairBrackets_105) (ci := 1) (j := 6) rfl rfl (key := 206) rfl (kc := 21) rfl s5.1 s5.2.2.2.2.2.2.2.2.2.2.2.2.2.2.2.2.2.2.2.1).trans ?_
      refine (rn_iload (pc := 108) (dd bX0_pairBrackets dX0_pairBrackets_108) rfl).trans ?_
      refine (rg_iaload (pc := 110) (dd bX0_pairBrackets dX0_pairBrackets_110) s5.2.2.2.2.2.2.2.2.2.2.2.2.2.2.2.2.2.2.2.2.1 s5.2.2.2.2.2.2.2.2.2.2.2.2.2.2.2.2.2.2.2.2.2 (Int.not_lt.mp c1) (Int.not_le.mp c2) rfl).trans ?_
      refine (rn_iload_n (pc := 111) (dd bX0_pairBrackets dX0_pairBrackets_111) rfl).trans ?_
      exact rg_virtual (pc := 112) (dd bX0_pairBrackets dX0_pairBrackets_112) rfl rfl (by decide) (kc := 21) rfl s5.1 (as := [(1, x0), (0, h 2 (x0 + 7) y0), (0, x2)]) rfl ⟨Nat.le_of_ble_eq_true rfl, Nat.le_of_ble_eq_true rfl, Nat.le_of_ble_eq_true rfl, Nat.le_of_ble_eq_true rfl⟩
theorem rX0_pairBrackets_115 {x0 : Int} {x1 : Int} {x2 : Int} {x3 : Int} {x4 : Int} {h : vH} (p1 : (-2147483648) ≤ x2 + 1) (p2 : x2 + 1 < 2147483648) : vrun mX0_pairBrackets 115 [(1, x0), (0, x1), (0, x2), (0, x3), (0, x4)] [] h = vrun mX0_pairBrackets 4 [(1, x0), (0, x4), (0, x2 + 1), (0, x3), (0, x4)] [] h := by
  refine (rn_iload (pc := 115) (dd bX0_pairBrackets dX0_pairBrackets_115) rfl).trans ?_
  refine (rn_istore_n (pc := 117) (dd bX0_pairBrackets dX0_pairBrackets_117) (Nat.le_of_ble_eq_true rfl) rfl).trans ?_
  refine (rg_iinc (pc := 118) (dd bX0_pairBrackets dX0_pairBrackets_118) rfl (Nat.le_of_ble_eq_true rfl) p1 p2 rfl).trans ?_
  refine (rn_goto (t := 4) (pc := 121) (dd bX0_pairBrackets dX0_pairBrackets_121) rfl).trans ?_
  rfl
theorem bX0_wayOfPair : vmB mX0_wayOfPair = cX0_wayOfPair := rfl
theorem rX0_wayOfPair_0 {x0 : Int} {x1 : Int} {x2 : Int} {h : vH} (s1 : shDirections h x0) (p2 : 0 ≤ h 208 x0 0) (p3 : (-2147483648) ≤ x1 + 1) (p4 : x1 + 1 < 2147483648) : vrun mX0_wayOfPair 0 [(1, x0), (0, x1), (0, x2), (9, 0), (9, 0), (9, 0), (9, 0)] [] h = vrun mX0_wayOfPair 22 [(1, x0), (0, x1), (0, x2), (0, h 208 x0 0 % 2), (0, 0), (0, 0), (0, max (x1 + 1) 0)] [] h := by
  refine (rn_aload_n (pc := 0) (dd bX0_wayOfPair dX0_wayOfPair_0) rfl).trans ?_
  refine (rg_gf (pc := 1) (dd bX0_wayOfPair dX0_wayOfPair_1) (ci := 1) (j := 8) rfl rfl (key := 208) rfl (kc := 21) rfl s1.1 rfl).trans ?_
  refine (rn_iconst (pc := 4) (dd bX0_wayOfPair dX0_wayOfPair_4) (by decide)).trans ?_
  refine (rg_irem (pc := 5) (dd bX0_wayOfPair dX0_wayOfPair_5) (by decide) p2).trans ?_
  refine (rn_istore_n (pc := 6) (dd bX0_wayOfPair dX0_wayOfPair_6) (Nat.le_of_ble_eq_true rfl) rfl).trans ?_
  refine (rn_iconst (pc := 7) (dd bX0_wayOfPair dX0_wayOfPair_7) (by decide)).trans ?_
  refine (rn_istore (pc := 8) (dd bX0_wayOfPair dX0_wayOfPair_8) (Nat.le_of_ble_eq_true rfl) rfl).trans ?_
  refine (rn_iconst (pc := 10) (dd bX0_wayOfPair dX0_wayOfPair_10) (by decide)).trans ?_
  refine (rn_istore (pc := 11) (dd bX0_wayOfPair dX0_wayOfPair_11) (Nat.le_of_ble_eq_true rfl) rfl).trans ?_
  refine (rn_iload_n (pc := 13) (dd bX0_wayOfPair dX0_wayOfPair_13) rfl).trans ?_
  refine (rn_iconst (pc := 14) (dd bX0_wayOfPair dX0_wayOfPair_14) (by decide)).trans ?_
  refine (rg_iadd (pc := 15) (dd bX0_wayOfPair dX0_wayOfPair_15) p3 p4).trans ?_
  refine (rn_iconst (pc := 16) (dd bX0_wayOfPair dX0_wayOfPair_16) (by decide)).trans ?_
  refine (rg_max (pc := 17) (dd bX0_wayOfPair dX0_wayOfPair_17) rfl ⟨Nat.le_of_ble_eq_true rfl, Nat.le_of_ble_eq_true rfl, Nat.le_of_ble_eq_true rfl⟩).trans ?_
  refine (rn_istore (pc := 20) (dd bX0_wayOfPair dX0_wayOfPair_20) (Nat.le_of_ble_eq_true rfl) rfl).trans ?_
  rfl
theorem rX0_wayOfPair_22 {x0 : Int} {x1 : Int} {x2 : Int} {x3 : Int} {x4 : Int} {x5 : Int} {x6 : Int} {h : vH} (p1 : x2 ≤ x6 → x4 = 0 → ¬ (x5 = 0) → (-2147483648) ≤ min x1 131 - 1) (p2 : ¬ (x2 ≤ x6) → 131 ≤ x6 → x4 = 0 → ¬ (x5 = 0) → (-2147483648) ≤ min x1 131 - 1) (s3 : shDirections h x0) (p4 : ¬ (x2 ≤ x6) → ¬ (131 ≤ x6) → x4 = 0 → 0 ≤ x6) (p5 : ¬ (x2 ≤ x6) → ¬ (131 ≤ x6) → x5 = 0 → 0 ≤ x6) (p6 : ¬ (x2 ≤ x6) → ¬ (131 ≤ x6) → x5 = 0 → (-2147483648) ≤ 1 - x3) (p7 : ¬ (x2 ≤ x6) → ¬ (131 ≤ x6) → x5 = 0 → 1 - x3 < 2147483648) (p8 : ¬ (x2 ≤ x6) → ¬ (131 ≤ x6) → (-2147483648) ≤ x6 + 1) : vrun mX0_wayOfPair 22 [(1, x0), (0, x1), (0, x2), (0, x3), (0, x4), (0, x5), (0, x6)] [] h = if x2 ≤ x6 then if x4 = 0 then if x5 = 0 then some (.inl (some (0, (if x4 = 0 then (-1) else x3))), h) else vrun mX0_wayOfPair 122 [(1, x0), (0, x1), (0, x2), (0, x3), (0, x4), (0, x5), (0, min x1 131 - 1)] [] h else some (.inl (some (0, (if x4 = 0 then (-1) else x3))), h) else if 131 ≤ x6 then if x4 = 0 then if x5 = 0 then some (.inl (some (0, (if x4 = 0 then (-1) else x3))), h) else vrun mX0_wayOfPair 122 [(1, x0), (0, x1), (0, x2), (0, x3), (0, x4), (0, x5), (0, min x1 131 - 1)] [] h else some (.inl (some (0, (if x4 = 0 then (-1) else x3))), h) else vrun mX0_wayOfPair 22 [(1, x0), (0, x1), (0, x2), (0, x3), (0, (if ¬ (x4 = 0) ∨ h 2 (x0 + 5) x6 = x3 then 1 else 0)), (0, (if ¬ (x5 = 0) ∨ h 2 (x0 + 5) x6 = 1 - x3 then 1 else 0)), (0, x6 + 1)] [] h := by
  refine (rn_iload (pc := 22) (dd bX0_wayOfPair dX0_wayOfPair_22) rfl).trans ?_
  refine (rn_iload_n (pc := 24) (dd bX0_wayOfPair dX0_wayOfPair_24) rfl).trans ?_
  refine (rn_icmp_ge (t := 90) (pc := 25) (dd bX0_wayOfPair dX0_wayOfPair_25) rfl).trans (itec (fun c1 => ?_) (fun c1 => ?_))
  · refine (rn_iload (pc := 90) (dd bX0_wayOfPair dX0_wayOfPair_90) rfl).trans ?_
    refine (rg_if_ne (t := 100) (pc := 92) (dd bX0_wayOfPair dX0_wayOfPair_92) rfl).trans (itec (fun c2 => ?_) (fun c2 => ?_))
    · refine (rn_iload (pc := 95) (dd bX0_wayOfPair dX0_wayOfPair_95) rfl).trans ?_
      refine (rg_if_ne (t := 111) (pc := 97) (dd bX0_wayOfPair dX0_wayOfPair_97) rfl).trans (itec (fun c3 => ?_) (fun c3 => ?_))
      · refine (rn_iload (pc := 100) (dd bX0_wayOfPair dX0_wayOfPair_100) rfl).trans ?_
        have e1 : vrun mX0_wayOfPair 102 [(1, x0), (0, x1), (0, x2), (0, x3), (0, x4), (0, x5), (0, x6)] [(0, x4)] h = vrun mX0_wayOfPair 110 [(1, x0), (0, x1), (0, x2), (0, x3), (0, x4), (0, x5), (0, x6)] [(0, (if x4 = 0 then (-1) else x3))] h := by
          refine (rn_if_eq (t := 109) (pc := 102) (dd bX0_wayOfPair dX0_wayOfPair_102) rfl).trans ?_
          by_cases c4 : x4 = 0
          · refine (if_pos c4).trans ?_
            refine (rn_iconst (pc := 109) (dd bX0_wayOfPair dX0_wayOfPair_109) (by decide)).trans ?_
            refine Eq.trans (b := vrun mX0_wayOfPair 110 [(1, x0), (0, x1), (0, x2), (0, x3), (0, x4), (0, x5), (0, x6)] [(0, (-1))] h) rfl ?_
            simp only [if_pos c4]
          · refine (if_neg c4).trans ?_
            refine (rn_iload_n (pc := 105) (dd bX0_wayOfPair dX0_wayOfPair_105) rfl).trans ?_
            refine (rn_goto (t := 110) (pc := 106) (dd bX0_wayOfPair dX0_wayOfPair_106) rfl).trans ?_
            refine Eq.trans (b := vrun mX0_wayOfPair 110 [(1, x0), (0, x1), (0, x2), (0, x3), (0, x4), (0, x5), (0, x6)] [(0, x3)] h) rfl ?_
            simp only [if_neg c4]
        refine e1.trans ?_
        exact rn_ireturn (pc := 110) (dd bX0_wayOfPair dX0_wayOfPair_110) (Or.inl rfl)
      · refine (rn_iload_n (pc := 111) (dd bX0_wayOfPair dX0_wayOfPair_111) rfl).trans ?_
        refine (rn_sipush (pc := 112) (dd bX0_wayOfPair dX0_wayOfPair_112) (by decide)).trans ?_
        refine (rg_min (pc := 115) (dd bX0_wayOfPair dX0_wayOfPair_115) rfl ⟨Nat.le_of_ble_eq_true rfl, Nat.le_of_ble_eq_true rfl, Nat.le_of_ble_eq_true rfl⟩).trans ?_
        refine (rn_iconst (pc := 118) (dd bX0_wayOfPair dX0_wayOfPair_118) (by decide)).trans ?_
        refine (rg_isub (pc := 119) (dd bX0_wayOfPair dX0_wayOfPair_119) (p1 c1 c2 c3) (by have z0 := p1 c1 c2 c3; omega)).trans ?_
        refine (rn_istore (pc := 120) (dd bX0_wayOfPair dX0_wayOfPair_120) (Nat.le_of_ble_eq_true rfl) rfl).trans ?_
        rfl
    · refine (rn_iload (pc := 100) (dd bX0_wayOfPair dX0_wayOfPair_100) rfl).trans ?_
      have e2 : vrun mX0_wayOfPair 102 [(1, x0), (0, x1), (0, x2), (0, x3), (0, x4), (0, x5), (0, x6)] [(0, x4)] h = vrun mX0_wayOfPair 110 [(1, x0), (0, x1), (0, x2), (0, x3), (0, x4), (0, x5), (0, x6)] [(0, (if x4 = 0 then (-1) else x3))] h := by
        refine (rn_if_eq (t := 109) (pc := 102) (dd bX0_wayOfPair dX0_wayOfPair_102) rfl).trans ?_
        by_cases c5 : x4 = 0
        · refine (if_pos c5).trans ?_
          refine (rn_iconst (pc := 109) (dd bX0_wayOfPair dX0_wayOfPair_109) (by decide)).trans ?_
          refine Eq.trans (b := vrun mX0_wayOfPair 110 [(1, x0), (0, x1), (0, x2), (0, x3), (0, x4), (0, x5), (0, x6)] [(0, (-1))] h) rfl ?_
          simp only [if_pos c5]
        · refine (if_neg c5).trans ?_
          refine (rn_iload_n (pc := 105) (dd bX0_wayOfPair dX0_wayOfPair_105) rfl).trans ?_
          refine (rn_goto (t := 110) (pc := 106) (dd bX0_wayOfPair dX0_wayOfPair_106) rfl).trans ?_
          refine Eq.trans (b := vrun mX0_wayOfPair 110 [(1, x0), (0, x1), (0, x2), (0, x3), (0, x4), (0, x5), (0, x6)] [(0, x3)] h) rfl ?_
          simp only [if_neg c5]
      refine e2.trans ?_
      exact rn_ireturn (pc := 110) (dd bX0_wayOfPair dX0_wayOfPair_110) (Or.inl rfl)
  · refine (rn_iload (pc := 28) (dd bX0_wayOfPair dX0_wayOfPair_28) rfl).trans ?_
    refine (rn_sipush (pc := 30) (dd bX0_wayOfPair dX0_wayOfPair_30) (by decide)).trans ?_
    refine (rn_icmp_ge (t := 90) (pc := 33) (dd bX0_wayOfPair dX0_wayOfPair_33) rfl).trans (itec (fun c6 => ?_) (fun c6 => ?_))
    · refine (rn_iload (pc := 90) (dd bX0_wayOfPair dX0_wayOfPair_90) rfl).trans ?_
      refine (rg_if_ne (t := 100) (pc := 92) (dd bX0_wayOfPair dX0_wayOfPair_92) rfl).trans (itec (fun c7 => ?_) (fun c7 => ?_))
      · refine (rn_iload (pc := 95) (dd bX0_wayOfPair dX0_wayOfPair_95) rfl).trans ?_
        refine (rg_if_ne (t := 111) (pc := 97) (dd bX0_wayOfPair dX0_wayOfPair_97) rfl).trans (itec (fun c8 => ?_) (fun c8 => ?_))
        · refine (rn_iload (pc := 100) (dd bX0_wayOfPair dX0_wayOfPair_100) rfl).trans ?_
          have e3 : vrun mX0_wayOfPair 102 [(1, x0), (0, x1), (0, x2), (0, x3), (0, x4), (0, x5), (0, x6)] [(0, x4)] h = vrun mX0_wayOfPair 110 [(1, x0), (0, x1), (0, x2), (0, x3), (0, x4), (0, x5), (0, x6)] [(0, (if x4 = 0 then (-1) else x3))] h := by
            refine (rn_if_eq (t := 109) (pc := 102) (dd bX0_wayOfPair dX0_wayOfPair_102) rfl).trans ?_
            by_cases c9 : x4 = 0
            · refine (if_pos c9).trans ?_
              refine (rn_iconst (pc := 109) (dd bX0_wayOfPair dX0_wayOfPair_109) (by decide)).trans ?_
              refine Eq.trans (b := vrun mX0_wayOfPair 110 [(1, x0), (0, x1), (0, x2), (0, x3), (0, x4), (0, x5), (0, x6)] [(0, (-1))] h) rfl ?_
              simp only [if_pos c9]
            · refine (if_neg c9).trans ?_
              refine (rn_iload_n (pc := 105) (dd bX0_wayOfPair dX0_wayOfPair_105) rfl).trans ?_
              refine (rn_goto (t := 110) (pc := 106) (dd bX0_wayOfPair dX0_wayOfPair_106) rfl).trans ?_
              refine Eq.trans (b := vrun mX0_wayOfPair 110 [(1, x0), (0, x1), (0, x2), (0, x3), (0, x4), (0, x5), (0, x6)] [(0, x3)] h) rfl ?_
              simp only [if_neg c9]
          refine e3.trans ?_
          exact rn_ireturn (pc := 110) (dd bX0_wayOfPair dX0_wayOfPair_110) (Or.inl rfl)
        · refine (rn_iload_n (pc := 111) (dd bX0_wayOfPair dX0_wayOfPair_111) rfl).trans ?_
          refine (rn_sipush (pc := 112) (dd bX0_wayOfPair dX0_wayOfPair_112) (by decide)).trans ?_
          refine (rg_min (pc := 115) (dd bX0_wayOfPair dX0_wayOfPair_115) rfl ⟨Nat.le_of_ble_eq_true rfl, Nat.le_of_ble_eq_true rfl, Nat.le_of_ble_eq_true rfl⟩).trans ?_
          refine (rn_iconst (pc := 118) (dd bX0_wayOfPair dX0_wayOfPair_118) (by decide)).trans ?_
          refine (rg_isub (pc := 119) (dd bX0_wayOfPair dX0_wayOfPair_119) (p2 c1 c6 c7 c8) (by have z0 := p2 c1 c6 c7 c8; omega)).trans ?_
          refine (rn_istore (pc := 120) (dd bX0_wayOfPair dX0_wayOfPair_120) (Nat.le_of_ble_eq_true rfl) rfl).trans ?_
          rfl
      · refine (rn_iload (pc := 100) (dd bX0_wayOfPair dX0_wayOfPair_100) rfl).trans ?_
        have e4 : vrun mX0_wayOfPair 102 [(1, x0), (0, x1), (0, x2), (0, x3), (0, x4), (0, x5), (0, x6)] [(0, x4)] h = vrun mX0_wayOfPair 110 [(1, x0), (0, x1), (0, x2), (0, x3), (0, x4), (0, x5), (0, x6)] [(0, (if x4 = 0 then (-1) else x3))] h := by
          refine (rn_if_eq (t := 109) (pc := 102) (dd bX0_wayOfPair dX0_wayOfPair_102) rfl).trans ?_
          by_cases c10 : x4 = 0
          · refine (if_pos c10).trans ?_
            refine (rn_iconst (pc := 109) (dd bX0_wayOfPair dX0_wayOfPair_109) (by decide)).trans ?_
            refine Eq.trans (b := vrun mX0_wayOfPair 110 [(1, x0), (0, x1), (0, x2), (0, x3), (0, x4), (0, x5), (0, x6)] [(0, (-1))] h) rfl ?_
            simp only [if_pos c10]
          · refine (if_neg c10).trans ?_
            refine (rn_iload_n (pc := 105) (dd bX0_wayOfPair dX0_wayOfPair_105) rfl).trans ?_
            refine (rn_goto (t := 110) (pc := 106) (dd bX0_wayOfPair dX0_wayOfPair_106) rfl).trans ?_
            refine Eq.trans (b := vrun mX0_wayOfPair 110 [(1, x0), (0, x1), (0, x2), (0, x3), (0, x4), (0, x5), (0, x6)] [(0, x3)] h) rfl ?_
            simp only [if_neg c10]
        refine e4.trans ?_
        exact rn_ireturn (pc := 110) (dd bX0_wayOfPair dX0_wayOfPair_110) (Or.inl rfl)
    · refine (rn_iload (pc := 36) (dd bX0_wayOfPair dX0_wayOfPair_36) rfl).trans ?_
      have e6 : vrun mX0_wayOfPair 38 [(1, x0), (0, x1), (0, x2), (0, x3), (0, x4), (0, x5), (0, x6)] [(0, x4)] h = vrun mX0_wayOfPair 57 [(1, x0), (0, x1), (0, x2), (0, x3), (0, x4), (0, x5), (0, x6)] [(0, (if ¬ (x4 = 0) ∨ h 2 (x0 + 5) x6 = x3 then 1 else 0))] h := by
        refine (rg_if_ne (t := 52) (pc := 38) (dd bX0_wayOfPair dX0_wayOfPair_38) rfl).trans ?_
        by_cases c11 : x4 = 0
        · refine (if_pos c11).trans ?_
          refine (rn_aload_n (pc := 41) (dd bX0_wayOfPair dX0_wayOfPair_41) rfl).trans ?_
          refine (rg_gf (pc := 42) (dd bX0_wayOfPair dX0_wayOfPair_42) (ci := 1) (j := 4) rfl rfl (key := 204) rfl (kc := 21) rfl s3.1 s3.2.2.2.2.2.2.2.2.2.2.2.2.2.1).trans ?_
          refine (rn_iload (pc := 45) (dd bX0_wayOfPair dX0_wayOfPair_45) rfl).trans ?_
          refine (rg_iaload (pc := 47) (dd bX0_wayOfPair dX0_wayOfPair_47) s3.2.2.2.2.2.2.2.2.2.2.2.2.2.2.1 s3.2.2.2.2.2.2.2.2.2.2.2.2.2.2.2.1 (p4 c1 c6 c11) (Int.not_le.mp c6) rfl).trans ?_
          refine (rn_iload_n (pc := 48) (dd bX0_wayOfPair dX0_wayOfPair_48) rfl).trans ?_
          have e5 : vrun mX0_wayOfPair 49 [(1, x0), (0, x1), (0, x2), (0, x3), (0, x4), (0, x5), (0, x6)] [(0, x3), (0, h 2 (x0 + 5) x6)] h = vrun mX0_wayOfPair 57 [(1, x0), (0, x1), (0, x2), (0, x3), (0, x4), (0, x5), (0, x6)] [(0, (if h 2 (x0 + 5) x6 = x3 then 1 else 0))] h := by
            refine (rg_icmp_ne (t := 56) (pc := 49) (dd bX0_wayOfPair dX0_wayOfPair_49) rfl).trans ?_
            by_cases c12 : h 2 (x0 + 5) x6 = x3
            · refine (if_pos c12).trans ?_
              refine (rn_iconst (pc := 52) (dd bX0_wayOfPair dX0_wayOfPair_52) (by decide)).trans ?_
              refine (rn_goto (t := 57) (pc := 53) (dd bX0_wayOfPair dX0_wayOfPair_53) rfl).trans ?_
              refine Eq.trans (b := vrun mX0_wayOfPair 57 [(1, x0), (0, x1), (0, x2), (0, x3), (0, x4), (0, x5), (0, x6)] [(0, 1)] h) rfl ?_
              simp only [c12, true_or, false_or, or_true, or_false, true_and, false_and, and_true, and_false, not_true_eq_false, not_false_eq_true, ne_eq, if_true, if_false, ↓reduceIte]
            · refine (if_neg c12).trans ?_
              refine (rn_iconst (pc := 56) (dd bX0_wayOfPair dX0_wayOfPair_56) (by decide)).trans ?_
              refine Eq.trans (b := vrun mX0_wayOfPair 57 [(1, x0), (0, x1), (0, x2), (0, x3), (0, x4), (0, x5), (0, x6)] [(0, 0)] h) rfl ?_
              simp only [c12, true_or, false_or, or_true, or_false, true_and, false_and, and_true, and_false, not_true_eq_false, not_false_eq_true, ne_eq, if_true, if_false, ↓reduceIte]
          refine e5.trans ?_
          refine Eq.trans (b := vrun mX0_wayOfPair 57 [(1, x0), (0, x1), (0, x2), (0, x3), (0, x4), (0, x5), (0, x6)] [(0, (if h 2 (x0 + 5) x6 = x3 then 1 else 0))] h) rfl ?_
          simp only [c11, true_or, false_or, or_true, or_false, true_and, false_and, and_true, and_false, not_true_eq_false, not_false_eq_true, ne_eq, if_true, if_false, ↓reduceIte]
        · refine (if_neg c11).trans ?_
          refine (rn_iconst (pc := 52) (dd bX0_wayOfPair dX0_wayOfPair_52) (by decide)).trans ?_
          refine (rn_goto (t := 57) (pc := 53) (dd bX0_wayOfPair dX0_wayOfPair_53) rfl).trans ?_
          refine Eq.trans (b := vrun mX0_wayOfPair 57 [(1, x0), (0, x1), (0, x2), (0, x3), (0, x4), (0, x5), (0, x6)] [(0, 1)] h) rfl ?_
          simp only [c11, true_or, false_or, or_true, or_false, true_and, false_and, and_true, and_false, not_true_eq_false, not_false_eq_true, ne_eq, if_true, if_false, ↓reduceIte]
      refine e6.trans ?_
      refine (rn_istore (pc := 57) (dd bX0_wayOfPair dX0_wayOfPair_57) (Nat.le_of_ble_eq_true rfl) rfl).trans ?_
      refine (rn_iload (pc := 59) (dd bX0_wayOfPair dX0_wayOfPair_59) rfl).trans ?_
      have e8 : vrun mX0_wayOfPair 61 [(1, x0), (0, x1), (0, x2), (0, x3), (0, (if ¬ (x4 = 0) ∨ h 2 (x0 + 5) x6 = x3 then 1 else 0)), (0, x5), (0, x6)] [(0, x5)] h = vrun mX0_wayOfPair 82 [(1, x0), (0, x1), (0, x2), (0, x3), (0, (if ¬ (x4 = 0) ∨ h 2 (x0 + 5) x6 = x3 then 1 else 0)), (0, x5), (0, x6)] [(0, (if ¬ (x5 = 0) ∨ h 2 (x0 + 5) x6 = 1 - x3 then 1 else 0))] h := by
        refine (rg_if_ne (t := 77) (pc := 61) (dd bX0_wayOfPair dX0_wayOfPair_61) rfl).trans ?_
        by_cases c13 : x5 = 0
        · refine (if_pos c13).trans ?_
          refine (rn_aload_n (pc := 64) (dd bX0_wayOfPair dX0_wayOfPair_64) rfl).trans ?_
          refine (rg_gf (pc := 65) (dd bX0_wayOfPair dX0_wayOfPair_65) (ci := 1) (j := 4) rfl rfl (key := 204) rfl (kc := 21) rfl s3.1 s3.2.2.2.2.2.2.2.2.2.2.2.2.2.1).trans ?_
          refine (rn_iload (pc := 68) (dd bX0_wayOfPair dX0_wayOfPair_68) rfl).trans ?_
          refine (rg_iaload (pc := 70) (dd bX0_wayOfPair dX0_wayOfPair_70) s3.2.2.2.2.2.2.2.2.2.2.2.2.2.2.1 s3.2.2.2.2.2.2.2.2.2.2.2.2.2.2.2.1 (p5 c1 c6 c13) (Int.not_le.mp c6) rfl).trans ?_
          refine (rn_iconst (pc := 71) (dd bX0_wayOfPair dX0_wayOfPair_71) (by decide)).trans ?_
          refine (rn_iload_n (pc := 72) (dd bX0_wayOfPair dX0_wayOfPair_72) rfl).trans ?_
          refine (rg_isub (pc := 73) (dd bX0_wayOfPair dX0_wayOfPair_73) (p6 c1 c6 c13) (p7 c1 c6 c13)).trans ?_
          have e7 : vrun mX0_wayOfPair 74 [(1, x0), (0, x1), (0, x2), (0, x3), (0, (if ¬ (x4 = 0) ∨ h 2 (x0 + 5) x6 = x3 then 1 else 0)), (0, x5), (0, x6)] [(0, 1 - x3), (0, h 2 (x0 + 5) x6)] h = vrun mX0_wayOfPair 82 [(1, x0), (0, x1), (0, x2), (0, x3), (0, (if ¬ (x4 = 0) ∨ h 2 (x0 + 5) x6 = x3 then 1 else 0)), (0, x5), (0, x6)] [(0, (if h 2 (x0 + 5) x6 = 1 - x3 then 1 else 0))] h := by
            refine (rg_icmp_ne (t := 81) (pc := 74) (dd bX0_wayOfPair dX0_wayOfPair_74) rfl).trans ?_
            by_cases c14 : h 2 (x0 + 5) x6 = 1 - x3
            · refine (if_pos c14).trans ?_
              refine (rn_iconst (pc := 77) (dd bX0_wayOfPair dX0_wayOfPair_77) (by decide)).trans ?_
              refine (rn_goto (t := 82) (pc := 78) (dd bX0_wayOfPair dX0_wayOfPair_78) rfl).trans ?_
              refine Eq.trans (b := vrun mX0_wayOfPair 82 [(1, x0), (0, x1), (0, x2), (0, x3), (0, (if ¬ (x4 = 0) ∨ h 2 (x0 + 5) x6 = x3 then 1 else 0)), (0, x5), (0, x6)] [(0, 1)] h) rfl ?_
              simp only [c14, true_or, false_or, or_true, or_false, true_and, false_and, and_true, and_false, not_true_eq_false, not_false_eq_true, ne_eq, if_true, if_false, ↓reduceIte]
            · refine (if_neg c14).trans ?_
              refine (rn_iconst (pc := 81) (dd bX0_wayOfPair dX0_wayOfPair_81) (by decide)).trans ?_
              refine Eq.trans (b := vrun mX0_wayOfPair 82 [(1, x0), (0, x1), (0, x2), (0, x3), (0, (if ¬ (x4 = 0) ∨ h 2 (x0 + 5) x6 = x3 then 1 else 0)), (0, x5), (0, x6)] [(0, 0)] h) rfl ?_
              simp only [c14, true_or, false_or, or_true, or_false, true_and, false_and, and_true, and_false, not_true_eq_false, not_false_eq_true, ne_eq, if_true, if_false, ↓reduceIte]
          refine e7.trans ?_
          refine Eq.trans (b := vrun mX0_wayOfPair 82 [(1, x0), (0, x1), (0, x2), (0, x3), (0, (if ¬ (x4 = 0) ∨ h 2 (x0 + 5) x6 = x3 then 1 else 0)), (0, x5), (0, x6)] [(0, (if h 2 (x0 + 5) x6 = 1 - x3 then 1 else 0))] h) rfl ?_
          simp only [c13, true_or, false_or, or_true, or_false, true_and, false_and, and_true, and_false, not_true_eq_false, not_false_eq_true, ne_eq, if_true, if_false, ↓reduceIte]
        · refine (if_neg c13).trans ?_
          refine (rn_iconst (pc := 77) (dd bX0_wayOfPair dX0_wayOfPair_77) (by decide)).trans ?_
          refine (rn_goto (t := 82) (pc := 78) (dd bX0_wayOfPair dX0_wayOfPair_78) rfl).trans ?_
          refine Eq.trans (b := vrun mX0_wayOfPair 82 [(1, x0), (0, x1), (0, x2), (0, x3), (0, (if ¬ (x4 = 0) ∨ h 2 (x0 + 5) x6 = x3 then 1 else 0)), (0, x5), (0, x6)] [(0, 1)] h) rfl ?_
          simp only [c13, true_or, false_or, or_true, or_false, true_and, false_and, and_true, and_false, not_true_eq_false, not_false_eq_true, ne_eq, if_true, if_false, ↓reduceIte]
      refine e8.trans ?_
      refine (rn_istore (pc := 82) (dd bX0_wayOfPair dX0_wayOfPair_82) (Nat.le_of_ble_eq_true rfl) rfl).trans ?_
      refine (rg_iinc (pc := 84) (dd bX0_wayOfPair dX0_wayOfPair_84) rfl (Nat.le_of_ble_eq_true rfl) (p8 c1 c6) (by have z0 := p8 c1 c6; omega) rfl).trans ?_
      refine (rn_goto (t := 22) (pc := 87) (dd bX0_wayOfPair dX0_wayOfPair_87) rfl).trans ?_
      rfl
theorem rX0_wayOfPair_122 {x0 : Int} {x1 : Int} {x2 : Int} {x3 : Int} {x4 : Int} {x5 : Int} {x6 : Int} {h : vH} (s1 : shDirections h x0) (p2 : x6 < 0 → ¬ (x6 < 0) → (-2147483648) ≤ 1 - x3) (p3 : x6 < 0 → ¬ (x6 < 0) → 1 - x3 < 2147483648) (p4 : ¬ (x6 < 0) → x6 < 131) (p5 : ¬ (x6 < 0) → ¬ (h 2 (x0 + 5) x6 = (-1)) → ¬ (x6 < 0) → (-2147483648) ≤ 1 - x3) (p6 : ¬ (x6 < 0) → ¬ (h 2 (x0 + 5) x6 = (-1)) → ¬ (x6 < 0) → 1 - x3 < 2147483648) : vrun mX0_wayOfPair 122 [(1, x0), (0, x1), (0, x2), (0, x3), (0, x4), (0, x5), (0, x6)] [] h = if x6 < 0 then some (.inl (some (0, (if x6 < 0 then x3 else (if h 2 (x0 + 5) x6 = 1 - x3 then 1 - x3 else x3)))), h) else if h 2 (x0 + 5) x6 = (-1) then vrun mX0_wayOfPair 122 [(1, x0), (0, x1), (0, x2), (0, x3), (0, x4), (0, x5), (0, x6 + (-1))] [] h else some (.inl (some (0, (if x6 < 0 then x3 else (if h 2 (x0 + 5) x6 = 1 - x3 then 1 - x3 else x3)))), h) := by
  refine (rn_iload (pc := 122) (dd bX0_wayOfPair dX0_wayOfPair_122) rfl).trans ?_
  refine (rn_if_lt (t := 144) (pc := 124) (dd bX0_wayOfPair dX0_wayOfPair_124) rfl).trans (itec (fun c1 => ?_) (fun c1 => ?_))
  · refine (rn_iload (pc := 144) (dd bX0_wayOfPair dX0_wayOfPair_144) rfl).trans ?_
    have e2 : vrun mX0_wayOfPair 146 [(1, x0), (0, x1), (0, x2), (0, x3), (0, x4), (0, x5), (0, x6)] [(0, x6)] h = vrun mX0_wayOfPair 169 [(1, x0), (0, x1), (0, x2), (0, x3), (0, x4), (0, x5), (0, x6)] [(0, (if x6 < 0 then x3 else (if h 2 (x0 + 5) x6 = 1 - x3 then 1 - x3 else x3)))] h := by
      refine (rn_if_lt (t := 168) (pc := 146) (dd bX0_wayOfPair dX0_wayOfPair_146) rfl).trans ?_
      by_cases c2 : x6 < 0
      · refine (if_pos c2).trans ?_
        refine (rn_iload_n (pc := 168) (dd bX0_wayOfPair dX0_wayOfPair_168) rfl).trans ?_
        refine Eq.trans (b := vrun mX0_wayOfPair 169 [(1, x0), (0, x1), (0, x2), (0, x3), (0, x4), (0, x5), (0, x6)] [(0, x3)] h) rfl ?_
        simp only [if_pos c2]
      · refine (if_neg c2).trans ?_
        refine (rn_aload_n (pc := 149) (dd bX0_wayOfPair dX0_wayOfPair_149) rfl).trans ?_
        refine (rg_gf (pc := 150) (dd bX0_wayOfPair dX0_wayOfPair_150) (ci := 1) (j := 4) rfl rfl (key := 204) rfl (kc := 21) rfl s1.1 s1.2.2.2.2.2.2.2.2.2.2.2.2.2.1).trans ?_
        refine (rn_iload (pc := 153) (dd bX0_wayOfPair dX0_wayOfPair_153) rfl).trans ?_
        refine (rg_iaload (pc := 155) (dd bX0_wayOfPair dX0_wayOfPair_155) s1.2.2.2.2.2.2.2.2.2.2.2.2.2.2.1 s1.2.2.2.2.2.2.2.2.2.2.2.2.2.2.2.1 (Int.not_lt.mp c2) (by omega) rfl).trans ?_
        refine (rn_iconst (pc := 156) (dd bX0_wayOfPair dX0_wayOfPair_156) (by decide)).trans ?_
        refine (rn_iload_n (pc := 157) (dd bX0_wayOfPair dX0_wayOfPair_157) rfl).trans ?_
        refine (rg_isub (pc := 158) (dd bX0_wayOfPair dX0_wayOfPair_158) (p2 c1 c2) (p3 c1 c2)).trans ?_
        have e1 : vrun mX0_wayOfPair 159 [(1, x0), (0, x1), (0, x2), (0, x3), (0, x4), (0, x5), (0, x6)] [(0, 1 - x3), (0, h 2 (x0 + 5) x6)] h = vrun mX0_wayOfPair 169 [(1, x0), (0, x1), (0, x2), (0, x3), (0, x4), (0, x5), (0, x6)] [(0, (if h 2 (x0 + 5) x6 = 1 - x3 then 1 - x3 else x3))] h := by
          refine (rg_icmp_ne (t := 168) (pc := 159) (dd bX0_wayOfPair dX0_wayOfPair_159) rfl).trans ?_
          by_cases c3 : h 2 (x0 + 5) x6 = 1 - x3
          · refine (if_pos c3).trans ?_
            refine (rn_iconst (pc := 162) (dd bX0_wayOfPair dX0_wayOfPair_162) (by decide)).trans ?_
            refine (rn_iload_n (pc := 163) (dd bX0_wayOfPair dX0_wayOfPair_163) rfl).trans ?_
            refine (rg_isub (pc := 164) (dd bX0_wayOfPair dX0_wayOfPair_164) (by have z0 := p2 c1 c2; have z1 := p3 c1 c2; omega) (by have z0 := p2 c1 c2; have z1 := p3 c1 c2; omega)).trans ?_
            refine (rn_goto (t := 169) (pc := 165) (dd bX0_wayOfPair dX0_wayOfPair_165) rfl).trans ?_
            refine Eq.trans (b := vrun mX0_wayOfPair 169 [(1, x0), (0, x1), (0, x2), (0, x3), (0, x4), (0, x5), (0, x6)] [(0, 1 - x3)] h) rfl ?_
            simp only [if_pos c3]
          · refine (if_neg c3).trans ?_
            refine (rn_iload_n (pc := 168) (dd bX0_wayOfPair dX0_wayOfPair_168) rfl).trans ?_
            refine Eq.trans (b := vrun mX0_wayOfPair 169 [(1, x0), (0, x1), (0, x2), (0, x3), (0, x4), (0, x5), (0, x6)] [(0, x3)] h) rfl ?_
            simp only [if_neg c3]
        refine e1.trans ?_
        refine Eq.trans (b := vrun mX0_wayOfPair 169 [(1, x0), (0, x1), (0, x2), (0, x3), (0, x4), (0, x5), (0, x6)] [(0, (if h 2 (x0 + 5) x6 = 1 - x3 then 1 - x3 else x3))] h) rfl ?_
        simp only [if_neg c2]
    refine e2.trans ?_
    exact rn_ireturn (pc := 169) (dd bX0_wayOfPair dX0_wayOfPair_169) (Or.inl rfl)
  · refine (rn_aload_n (pc := 127) (dd bX0_wayOfPair dX0_wayOfPair_127) rfl).trans ?_
    refine (rg_gf (pc := 128) (dd bX0_wayOfPair dX0_wayOfPair_128) (ci := 1) (j := 4) rfl rfl (key := 204) rfl (kc := 21) rfl s1.1 s1.2.2.2.2.2.2.2.2.2.2.2.2.2.1).trans ?_
    refine (rn_iload (pc := 131) (dd bX0_wayOfPair dX0_wayOfPair_131) rfl).trans ?_
    refine (rg_iaload (pc := 133) (dd bX0_wayOfPair dX0_wayOfPair_133) s1.2.2.2.2.2.2.2.2.2.2.2.2.2.2.1 s1.2.2.2.2.2.2.2.2.2.2.2.2.2.2.2.1 (Int.not_lt.mp c1) (p4 c1) rfl).trans ?_
    refine (rn_iconst (pc := 134) (dd bX0_wayOfPair dX0_wayOfPair_134) (by decide)).trans ?_
    refine (rg_icmp_ne (t := 144) (pc := 135) (dd bX0_wayOfPair dX0_wayOfPair_135) rfl).trans (itec (fun c4 => ?_) (fun c4 => ?_))
    · refine (rg_iinc (pc := 138) (dd bX0_wayOfPair dX0_wayOfPair_138) rfl (Nat.le_of_ble_eq_true rfl) (by have z0 := p4 c1; omega) (by have z0 := p4 c1; omega) rfl).trans ?_
      refine (rn_goto (t := 122) (pc := 141) (dd bX0_wayOfPair dX0_wayOfPair_141) rfl).trans ?_
      rfl
    · refine (rn_iload (pc := 144) (dd bX0_wayOfPair dX0_wayOfPair_144) rfl).trans ?_
      have e4 : vrun mX0_wayOfPair 146 [(1, x0), (0, x1), (0, x2), (0, x3), (0, x4), (0, x5), (0, x6)] [(0, x6)] h = vrun mX0_wayOfPair 169 [(1, x0), (0, x1), (0, x2), (0, x3), (0, x4), (0, x5), (0, x6)] [(0, (if x6 < 0 then x3 else (if h 2 (x0 + 5) x6 = 1 - x3 then 1 - x3 else x3)))] h := by
        refine (rn_if_lt (t := 168) (pc := 146) (dd bX0_wayOfPair dX0_wayOfPair_146) rfl).trans ?_
        by_cases c5 : x6 < 0
        · refine (if_pos c5).trans ?_
          refine (rn_iload_n (pc := 168) (dd bX0_wayOfPair dX0_wayOfPair_168) rfl).trans ?_
          refine Eq.trans (b := vrun mX0_wayOfPair 169 [(1, x0), (0, x1), (0, x2), (0, x3), (0, x4), (0, x5), (0, x6)] [(0, x3)] h) rfl ?_
          simp only [if_pos c5]
        · refine (if_neg c5).trans ?_
          refine (rn_aload_n (pc := 149) (dd bX0_wayOfPair dX0_wayOfPair_149) rfl).trans ?_
          refine (rg_gf (pc := 150) (dd bX0_wayOfPair dX0_wayOfPair_150) (ci := 1) (j := 4) rfl rfl (key := 204) rfl (kc := 21) rfl s1.1 s1.2.2.2.2.2.2.2.2.2.2.2.2.2.1).trans ?_
          refine (rn_iload (pc := 153) (dd bX0_wayOfPair dX0_wayOfPair_153) rfl).trans ?_
          refine (rg_iaload (pc := 155) (dd bX0_wayOfPair dX0_wayOfPair_155) s1.2.2.2.2.2.2.2.2.2.2.2.2.2.2.1 s1.2.2.2.2.2.2.2.2.2.2.2.2.2.2.2.1 (Int.not_lt.mp c1) (by have z0 := p4 c1; omega) rfl).trans ?_
          refine (rn_iconst (pc := 156) (dd bX0_wayOfPair dX0_wayOfPair_156) (by decide)).trans ?_
          refine (rn_iload_n (pc := 157) (dd bX0_wayOfPair dX0_wayOfPair_157) rfl).trans ?_
          refine (rg_isub (pc := 158) (dd bX0_wayOfPair dX0_wayOfPair_158) (p5 c1 c4 c5) (p6 c1 c4 c5)).trans ?_
          have e3 : vrun mX0_wayOfPair 159 [(1, x0), (0, x1), (0, x2), (0, x3), (0, x4), (0, x5), (0, x6)] [(0, 1 - x3), (0, h 2 (x0 + 5) x6)] h = vrun mX0_wayOfPair 169 [(1, x0), (0, x1), (0, x2), (0, x3), (0, x4), (0, x5), (0, x6)] [(0, (if h 2 (x0 + 5) x6 = 1 - x3 then 1 - x3 else x3))] h := by
            refine (rg_icmp_ne (t := 168) (pc := 159) (dd bX0_wayOfPair dX0_wayOfPair_159) rfl).trans ?_
            by_cases c6 : h 2 (x0 + 5) x6 = 1 - x3
            · refine (if_pos c6).trans ?_
              refine (rn_iconst (pc := 162) (dd bX0_wayOfPair dX0_wayOfPair_162) (by decide)).trans ?_
              refine (rn_iload_n (pc := 163) (dd bX0_wayOfPair dX0_wayOfPair_163) rfl).trans ?_
              refine (rg_isub (pc := 164) (dd bX0_wayOfPair dX0_wayOfPair_164) (by have z0 := p5 c1 c4 c5; have z1 := p6 c1 c4 c5; omega) (by have z0 := p5 c1 c4 c5; have z1 := p6 c1 c4 c5; omega)).trans ?_
              refine (rn_goto (t := 169) (pc := 165) (dd bX0_wayOfPair dX0_wayOfPair_165) rfl).trans ?_
              refine Eq.trans (b := vrun mX0_wayOfPair 169 [(1, x0), (0, x1), (0, x2), (0, x3), (0, x4), (0, x5), (0, x6)] [(0, 1 - x3)] h) rfl ?_
              simp only [if_pos c6]
            · refine (if_neg c6).trans ?_
              refine (rn_iload_n (pc := 168) (dd bX0_wayOfPair dX0_wayOfPair_168) rfl).trans ?_
              refine Eq.trans (b := vrun mX0_wayOfPair 169 [(1, x0), (0, x1), (0, x2), (0, x3), (0, x4), (0, x5), (0, x6)] [(0, x3)] h) rfl ?_
              simp only [if_neg c6]
          refine e3.trans ?_
          refine Eq.trans (b := vrun mX0_wayOfPair 169 [(1, x0), (0, x1), (0, x2), (0, x3), (0, x4), (0, x5), (0, x6)] [(0, (if h 2 (x0 + 5) x6 = 1 - x3 then 1 - x3 else x3))] h) rfl ?_
          simp only [if_neg c5]
      refine e4.trans ?_
      exact rn_ireturn (pc := 169) (dd bX0_wayOfPair dX0_wayOfPair_169) (Or.inl rfl)
theorem bX0_turnPairs : vmB mX0_turnPairs = cX0_turnPairs := rfl
theorem rX0_turnPairs_0 {x0 : Int} {h : vH} : vrun mX0_turnPairs 0 [(1, x0), (9, 0), (9, 0)] [] h = vrun mX0_turnPairs 2 [(1, x0), (0, 0), (9, 0)] [] h := by
  refine (rn_iconst (pc := 0) (dd bX0_turnPairs dX0_turnPairs_0) (by decide)).trans ?_
  refine (rn_istore_n (pc := 1) (dd bX0_turnPairs dX0_turnPairs_1) (Nat.le_of_ble_eq_true rfl) rfl).trans ?_
  rfl
theorem rX0_turnPairs_2 {x0 : Int} {x1 : Int} {v2 : vv} {h : vH} (s1 : shDirections h x0) (p2 : ¬ (h 207 x0 0 ≤ x1) → ¬ (131 ≤ x1) → 0 ≤ x1) : vrun mX0_turnPairs 2 [(1, x0), (0, x1), v2] [] h = if h 207 x0 0 ≤ x1 then some (.inl none, h) else if 131 ≤ x1 then some (.inl none, h) else if h 2 (x0 + 6) x1 < 0 then vrun mX0_turnPairs 2 [(1, x0), (0, x1 + 1), (0, h 2 (x0 + 6) x1)] [] h else if 131 ≤ h 2 (x0 + 6) x1 then vrun mX0_turnPairs 2 [(1, x0), (0, x1 + 1), (0, h 2 (x0 + 6) x1)] [] h else vret vrun mX0_turnPairs 43 [(1, x0), (0, x1), (0, h 2 (x0 + 6) x1)] [(0, x1), (1, x0 + 5)] (vcl mX0_wayOfPair [(1, x0), (0, x1), (0, h 2 (x0 + 6) x1)] h) := by
  refine (rn_iload_n (pc := 2) (dd bX0_turnPairs dX0_turnPairs_2) rfl).trans ?_
  refine (rn_aload_n (pc := 3) (dd bX0_turnPairs dX0_turnPairs_3) rfl).trans ?_
  refine (rg_gf (pc := 4) (dd bX0_turnPairs dX0_turnPairs_4) (ci := 1) (j := 7) rfl rfl (key := 207) rfl (kc := 21) rfl s1.1 rfl).trans ?_
  refine (rn_icmp_ge (t := 65) (pc := 7) (dd bX0_turnPairs dX0_turnPairs_7) rfl).trans (itec (fun c1 => ?_) (fun c1 => ?_))
  · exact rn_return (pc := 65) (dd bX0_turnPairs dX0_turnPairs_65) rfl
  · refine (rn_iload_n (pc := 10) (dd bX0_turnPairs dX0_turnPairs_10) rfl).trans ?_
    refine (rn_sipush (pc := 11) (dd bX0_turnPairs dX0_turnPairs_11) (by decide)).trans ?_
    refine (rn_icmp_ge (t := 65) (pc := 14) (dd bX0_turnPairs dX0_turnPairs_14) rfl).trans (itec (fun c2 => ?_) (fun c2 => ?_))
    · exact rn_return (pc := 65) (dd bX0_turnPairs dX0_turnPairs_65) rfl
    · refine (rn_aload_n (pc := 17) (dd bX0_turnPairs dX0_turnPairs_17) rfl).trans ?_
      refine (rg_gf (pc := 18) (dd bX0_turnPairs dX0_turnPairs_18) (ci := 1) (j := 5) rfl rfl (key := 205) rfl (kc := 21) rfl s1.1 s1.2.2.2.2.2.2.2.2.2.2.2.2.2.2.2.2.1).trans ?_
      refine (rn_iload_n (pc := 21) (dd bX0_turnPairs dX0_turnPairs_21) rfl).trans ?_
      refine (rg_iaload (pc := 22) (dd bX0_turnPairs dX0_turnPairs_22) s1.2.2.2.2.2.2.2.2.2.2.2.2.2.2.2.2.2.1 s1.2.2.2.2.2.2.2.2.2.2.2.2.2.2.2.2.2.2.1 (p2 c1 c2) (Int.not_le.mp c2) rfl).trans ?_
      refine (rn_istore_n (pc := 23) (dd bX0_turnPairs dX0_turnPairs_23) (Nat.le_of_ble_eq_true rfl) rfl).trans ?_
      refine (rn_iload_n (pc := 24) (dd bX0_turnPairs dX0_turnPairs_24) rfl).trans ?_
      refine (rn_if_lt (t := 59) (pc := 25) (dd bX0_turnPairs dX0_turnPairs_25) rfl).trans (itec (fun c3 => ?_) (fun c3 => ?_))
      · refine (rg_iinc (pc := 59) (dd bX0_turnPairs dX0_turnPairs_59) rfl (Nat.le_of_ble_eq_true rfl) (by have z0 := p2 c1 c2; omega) (by have z0 := p2 c1 c2; omega) rfl).trans ?_
        refine (rn_goto (t := 2) (pc := 62) (dd bX0_turnPairs dX0_turnPairs_62) rfl).trans ?_
        rfl
      · refine (rn_iload_n (pc := 28) (dd bX0_turnPairs dX0_turnPairs_28) rfl).trans ?_
        refine (rn_sipush (pc := 29) (dd bX0_turnPairs dX0_turnPairs_29) (by decide)).trans ?_
        refine (rn_icmp_ge (t := 59) (pc := 32) (dd bX0_turnPairs dX0_turnPairs_32) rfl).trans (itec (fun c4 => ?_) (fun c4 => ?_))
        · refine (rg_iinc (pc := 59) (dd bX0_turnPairs dX0_turnPairs_59) rfl (Nat.le_of_ble_eq_true rfl) (by have z0 := p2 c1 c2; omega) (by have z0 := p2 c1 c2; omega) rfl).trans ?_
          refine (rn_goto (t := 2) (pc := 62) (dd bX0_turnPairs dX0_turnPairs_62) rfl).trans ?_
          rfl
        · refine (rn_aload_n (pc := 35) (dd bX0_turnPairs dX0_turnPairs_35) rfl).trans ?_
          refine (rg_gf (pc := 36) (dd bX0_turnPairs dX0_turnPairs_36) (ci := 1) (j := 4) rfl rfl (key := 204) rfl (kc := 21) rfl s1.1 s1.2.2.2.2.2.2.2.2.2.2.2.2.2.1).trans ?_
          refine (rn_iload_n (pc := 39) (dd bX0_turnPairs dX0_turnPairs_39) rfl).trans ?_
          refine (rn_aload_n (pc := 40) (dd bX0_turnPairs dX0_turnPairs_40) rfl).trans ?_
          refine (rn_iload_n (pc := 41) (dd bX0_turnPairs dX0_turnPairs_41) rfl).trans ?_
          refine (rn_iload_n (pc := 42) (dd bX0_turnPairs dX0_turnPairs_42) rfl).trans ?_
          exact rg_virtual (pc := 43) (dd bX0_turnPairs dX0_turnPairs_43) rfl rfl (by decide) (kc := 21) rfl s1.1 (as := [(1, x0), (0, x1), (0, h 2 (x0 + 6) x1)]) rfl ⟨Nat.le_of_ble_eq_true rfl, Nat.le_of_ble_eq_true rfl, Nat.le_of_ble_eq_true rfl, Nat.le_of_ble_eq_true rfl⟩
theorem rX0_turnPairs_46 {x0 : Int} {x1 : Int} {x2 : Int} {y0 : Int} {y1 : Int} {y2 : Int} {h : vH} (p1 : h 0 y2 0 = 1) (p2 : 0 ≤ y1) (p3 : y1 < h 1 y2 0) (s4 : shDirections h x0) (p5 : 0 ≤ x1) (p6 : x1 < 131) (p7 : 0 ≤ x2) (p8 : x2 < 131) : vrun mX0_turnPairs 46 [(1, x0), (0, x1), (0, x2)] [(0, y0), (0, y1), (1, y2)] h = vrun mX0_turnPairs 2 [(1, x0), (0, x1 + 1), (0, x2)] [] (vup (vup h 2 y2 y1 y0) 2 (x0 + 5) x2 ((vup h 2 y2 y1 y0) 2 (x0 + 5) x1)) := by
  refine (rg_iastore (pc := 46) (dd bX0_turnPairs dX0_turnPairs_46) p1 rfl p2 p3).trans ?_
  refine (rn_aload_n (pc := 47) (dd bX0_turnPairs dX0_turnPairs_47) rfl).trans ?_
  refine (rg_gf (pc := 48) (dd bX0_turnPairs dX0_turnPairs_48) (ci := 1) (j := 4) rfl rfl (key := 204) rfl (kc := 21) rfl ((vup_k (by decide)).trans s4.1) ((vup_k (by decide)).trans s4.2.2.2.2.2.2.2.2.2.2.2.2.2.1)).trans ?_
  refine (rn_iload_n (pc := 51) (dd bX0_turnPairs dX0_turnPairs_51) rfl).trans ?_
  refine (rn_aload_n (pc := 52) (dd bX0_turnPairs dX0_turnPairs_52) rfl).trans ?_
  refine (rg_gf (pc := 53) (dd bX0_turnPairs dX0_turnPairs_53) (ci := 1) (j := 4) rfl rfl (key := 204) rfl (kc := 21) rfl ((vup_k (by decide)).trans s4.1) ((vup_k (by decide)).trans s4.2.2.2.2.2.2.2.2.2.2.2.2.2.1)).trans ?_
  refine (rn_iload_n (pc := 56) (dd bX0_turnPairs dX0_turnPairs_56) rfl).trans ?_
  refine (rg_iaload (pc := 57) (dd bX0_turnPairs dX0_turnPairs_57) ((vup_k (by decide)).trans s4.2.2.2.2.2.2.2.2.2.2.2.2.2.2.1) ((vup_k (by decide)).trans s4.2.2.2.2.2.2.2.2.2.2.2.2.2.2.2.1) p5 p6 rfl).trans ?_
  refine (rg_iastore (pc := 58) (dd bX0_turnPairs dX0_turnPairs_58) ((vup_k (by decide)).trans s4.2.2.2.2.2.2.2.2.2.2.2.2.2.2.1) ((vup_k (by decide)).trans s4.2.2.2.2.2.2.2.2.2.2.2.2.2.2.2.1) p7 p8).trans ?_
  refine (rg_iinc (pc := 59) (dd bX0_turnPairs dX0_turnPairs_59) rfl (Nat.le_of_ble_eq_true rfl) (by omega) (by omega) rfl).trans ?_
  refine (rn_goto (t := 2) (pc := 62) (dd bX0_turnPairs dX0_turnPairs_62) rfl).trans ?_
  rfl
theorem bX0_endOfNeutral : vmB mX0_endOfNeutral = cX0_endOfNeutral := rfl
theorem rX0_endOfNeutral_0 {x0 : Int} {x1 : Int} {h : vH} : vrun mX0_endOfNeutral 0 [(1, x0), (0, x1), (9, 0)] [] h = vrun mX0_endOfNeutral 6 [(1, x0), (0, x1), (0, max x1 0)] [] h := by
  refine (rn_iload_n (pc := 0) (dd bX0_endOfNeutral dX0_endOfNeutral_0) rfl).trans ?_
  refine (rn_iconst (pc := 1) (dd bX0_endOfNeutral dX0_endOfNeutral_1) (by decide)).trans ?_
  refine (rg_max (pc := 2) (dd bX0_endOfNeutral dX0_endOfNeutral_2) rfl ⟨Nat.le_of_ble_eq_true rfl, Nat.le_of_ble_eq_true rfl, Nat.le_of_ble_eq_true rfl⟩).trans ?_
  refine (rn_istore_n (pc := 5) (dd bX0_endOfNeutral dX0_endOfNeutral_5) (Nat.le_of_ble_eq_true rfl) rfl).trans ?_
  rfl
theorem rX0_endOfNeutral_6 {x0 : Int} {x1 : Int} {x2 : Int} {h : vH} (s1 : shDirections h x0) (p2 : ¬ (h 207 x0 0 ≤ x2) → ¬ (131 ≤ x2) → 0 ≤ x2) : vrun mX0_endOfNeutral 6 [(1, x0), (0, x1), (0, x2)] [] h = if h 207 x0 0 ≤ x2 then some (.inl (some (0, x2)), h) else if 131 ≤ x2 then some (.inl (some (0, x2)), h) else if h 2 (x0 + 5) x2 = (-1) then vrun mX0_endOfNeutral 6 [(1, x0), (0, x1), (0, x2 + 1)] [] h else some (.inl (some (0, x2)), h) := by
  refine (rn_iload_n (pc := 6) (dd bX0_endOfNeutral dX0_endOfNeutral_6) rfl).trans ?_
  refine (rn_aload_n (pc := 7) (dd bX0_endOfNeutral dX0_endOfNeutral_7) rfl).trans ?_
  refine (rg_gf (pc := 8) (dd bX0_endOfNeutral dX0_endOfNeutral_8) (ci := 1) (j := 7) rfl rfl (key := 207) rfl (kc := 21) rfl s1.1 rfl).trans ?_
  refine (rn_icmp_ge (t := 37) (pc := 11) (dd bX0_endOfNeutral dX0_endOfNeutral_11) rfl).trans (itec (fun c1 => ?_) (fun c1 => ?_))
  · refine (rn_iload_n (pc := 37) (dd bX0_endOfNeutral dX0_endOfNeutral_37) rfl).trans ?_
    exact rn_ireturn (pc := 38) (dd bX0_endOfNeutral dX0_endOfNeutral_38) (Or.inl rfl)
  · refine (rn_iload_n (pc := 14) (dd bX0_endOfNeutral dX0_endOfNeutral_14) rfl).trans ?_
    refine (rn_sipush (pc := 15) (dd bX0_endOfNeutral dX0_endOfNeutral_15) (by decide)).trans ?_
    refine (rn_icmp_ge (t := 37) (pc := 18) (dd bX0_endOfNeutral dX0_endOfNeutral_18) rfl).trans (itec (fun c2 => ?_) (fun c2 => ?_))
    · refine (rn_iload_n (pc := 37) (dd bX0_endOfNeutral dX0_endOfNeutral_37) rfl).trans ?_
      exact rn_ireturn (pc := 38) (dd bX0_endOfNeutral dX0_endOfNeutral_38) (Or.inl rfl)
    · refine (rn_aload_n (pc := 21) (dd bX0_endOfNeutral dX0_endOfNeutral_21) rfl).trans ?_
      refine (rg_gf (pc := 22) (dd bX0_endOfNeutral dX0_endOfNeutral_22) (ci := 1) (j := 4) rfl rfl (key := 204) rfl (kc := 21) rfl s1.1 s1.2.2.2.2.2.2.2.2.2.2.2.2.2.1).trans ?_
      refine (rn_iload_n (pc := 25) (dd bX0_endOfNeutral dX0_endOfNeutral_25) rfl).trans ?_
      refine (rg_iaload (pc := 26) (dd bX0_endOfNeutral dX0_endOfNeutral_26) s1.2.2.2.2.2.2.2.2.2.2.2.2.2.2.1 s1.2.2.2.2.2.2.2.2.2.2.2.2.2.2.2.1 (p2 c1 c2) (Int.not_le.mp c2) rfl).trans ?_
      refine (rn_iconst (pc := 27) (dd bX0_endOfNeutral dX0_endOfNeutral_27) (by decide)).trans ?_
      refine (rg_icmp_ne (t := 37) (pc := 28) (dd bX0_endOfNeutral dX0_endOfNeutral_28) rfl).trans (itec (fun c3 => ?_) (fun c3 => ?_))
      · refine (rg_iinc (pc := 31) (dd bX0_endOfNeutral dX0_endOfNeutral_31) rfl (Nat.le_of_ble_eq_true rfl) (by have z0 := p2 c1 c2; omega) (by have z0 := p2 c1 c2; omega) rfl).trans ?_
        refine (rn_goto (t := 6) (pc := 34) (dd bX0_endOfNeutral dX0_endOfNeutral_34) rfl).trans ?_
        rfl
      · refine (rn_iload_n (pc := 37) (dd bX0_endOfNeutral dX0_endOfNeutral_37) rfl).trans ?_
        exact rn_ireturn (pc := 38) (dd bX0_endOfNeutral dX0_endOfNeutral_38) (Or.inl rfl)
theorem bX0_fillWays : vmB mX0_fillWays = cX0_fillWays := rfl
theorem rX0_fillWays_0 {x0 : Int} {x1 : Int} {x2 : Int} {x3 : Int} {h : vH} : vrun mX0_fillWays 0 [(1, x0), (0, x1), (0, x2), (0, x3), (9, 0)] [] h = vrun mX0_fillWays 7 [(1, x0), (0, x1), (0, x2), (0, x3), (0, max x1 0)] [] h := by
  refine (rn_iload_n (pc := 0) (dd bX0_fillWays dX0_fillWays_0) rfl).trans ?_
  refine (rn_iconst (pc := 1) (dd bX0_fillWays dX0_fillWays_1) (by decide)).trans ?_
  refine (rg_max (pc := 2) (dd bX0_fillWays dX0_fillWays_2) rfl ⟨Nat.le_of_ble_eq_true rfl, Nat.le_of_ble_eq_true rfl, Nat.le_of_ble_eq_true rfl⟩).trans ?_
  refine (rn_istore (pc := 5) (dd bX0_fillWays dX0_fillWays_5) (Nat.le_of_ble_eq_true rfl) rfl).trans ?_
  rfl
theorem rX0_fillWays_7 {x0 : Int} {x1 : Int} {x2 : Int} {x3 : Int} {x4 : Int} {h : vH} (s1 : shDirections h x0) (p2 : ¬ (x2 ≤ x4) → ¬ (131 ≤ x4) → 0 ≤ x4) : vrun mX0_fillWays 7 [(1, x0), (0, x1), (0, x2), (0, x3), (0, x4)] [] h = if x2 ≤ x4 then some (.inl none, h) else if 131 ≤ x4 then some (.inl none, h) else vrun mX0_fillWays 7 [(1, x0), (0, x1), (0, x2), (0, x3), (0, x4 + 1)] [] (vup h 2 (x0 + 5) x4 x3) := by
  refine (rn_iload (pc := 7) (dd bX0_fillWays dX0_fillWays_7) rfl).trans ?_
  refine (rn_iload_n (pc := 9) (dd bX0_fillWays dX0_fillWays_9) rfl).trans ?_
  refine (rn_icmp_ge (t := 35) (pc := 10) (dd bX0_fillWays dX0_fillWays_10) rfl).trans (itec (fun c1 => ?_) (fun c1 => ?_))
  · exact rn_return (pc := 35) (dd bX0_fillWays dX0_fillWays_35) rfl
  · refine (rn_iload (pc := 13) (dd bX0_fillWays dX0_fillWays_13) rfl).trans ?_
    refine (rn_sipush (pc := 15) (dd bX0_fillWays dX0_fillWays_15) (by decide)).trans ?_
    refine (rn_icmp_ge (t := 35) (pc := 18) (dd bX0_fillWays dX0_fillWays_18) rfl).trans (itec (fun c2 => ?_) (fun c2 => ?_))
    · exact rn_return (pc := 35) (dd bX0_fillWays dX0_fillWays_35) rfl
    · refine (rn_aload_n (pc := 21) (dd bX0_fillWays dX0_fillWays_21) rfl).trans ?_
      refine (rg_gf (pc := 22) (dd bX0_fillWays dX0_fillWays_22) (ci := 1) (j := 4) rfl rfl (key := 204) rfl (kc := 21) rfl s1.1 s1.2.2.2.2.2.2.2.2.2.2.2.2.2.1).trans ?_
      refine (rn_iload (pc := 25) (dd bX0_fillWays dX0_fillWays_25) rfl).trans ?_
      refine (rn_iload_n (pc := 27) (dd bX0_fillWays dX0_fillWays_27) rfl).trans ?_
      refine (rg_iastore (pc := 28) (dd bX0_fillWays dX0_fillWays_28) s1.2.2.2.2.2.2.2.2.2.2.2.2.2.2.1 s1.2.2.2.2.2.2.2.2.2.2.2.2.2.2.2.1 (p2 c1 c2) (Int.not_le.mp c2)).trans ?_
      refine (rg_iinc (pc := 29) (dd bX0_fillWays dX0_fillWays_29) rfl (Nat.le_of_ble_eq_true rfl) (by have z0 := p2 c1 c2; omega) (by have z0 := p2 c1 c2; omega) rfl).trans ?_
      refine (rn_goto (t := 7) (pc := 32) (dd bX0_fillWays dX0_fillWays_32) rfl).trans ?_
      rfl
theorem bX0_turnNeutral : vmB mX0_turnNeutral = cX0_turnNeutral := rfl
theorem rX0_turnNeutral_0 {x0 : Int} {h : vH} (s1 : shDirections h x0) (p2 : 0 ≤ h 208 x0 0) : vrun mX0_turnNeutral 0 [(1, x0), (9, 0), (9, 0), (9, 0), (9, 0), (9, 0)] [] h = vrun mX0_turnNeutral 11 [(1, x0), (0, h 208 x0 0 % 2), (0, h 208 x0 0 % 2), (0, 0), (9, 0), (9, 0)] [] h := by
  refine (rn_aload_n (pc := 0) (dd bX0_turnNeutral dX0_turnNeutral_0) rfl).trans ?_
  refine (rg_gf (pc := 1) (dd bX0_turnNeutral dX0_turnNeutral_1) (ci := 1) (j := 8) rfl rfl (key := 208) rfl (kc := 21) rfl s1.1 rfl).trans ?_
  refine (rn_iconst (pc := 4) (dd bX0_turnNeutral dX0_turnNeutral_4) (by decide)).trans ?_
  refine (rg_irem (pc := 5) (dd bX0_turnNeutral dX0_turnNeutral_5) (by decide) p2).trans ?_
  refine (rn_istore_n (pc := 6) (dd bX0_turnNeutral dX0_turnNeutral_6) (Nat.le_of_ble_eq_true rfl) rfl).trans ?_
  refine (rn_iload_n (pc := 7) (dd bX0_turnNeutral dX0_turnNeutral_7) rfl).trans ?_
  refine (rn_istore_n (pc := 8) (dd bX0_turnNeutral dX0_turnNeutral_8) (Nat.le_of_ble_eq_true rfl) rfl).trans ?_
  refine (rn_iconst (pc := 9) (dd bX0_turnNeutral dX0_turnNeutral_9) (by decide)).trans ?_
  refine (rn_istore_n (pc := 10) (dd bX0_turnNeutral dX0_turnNeutral_10) (Nat.le_of_ble_eq_true rfl) rfl).trans ?_
  rfl
theorem rX0_turnNeutral_11 {x0 : Int} {x1 : Int} {x2 : Int} {x3 : Int} {v4 : vv} {v5 : vv} {h : vH} (s1 : shDirections h x0) : vrun mX0_turnNeutral 11 [(1, x0), (0, x1), (0, x2), (0, x3), v4, v5] [] h = if x3 < 0 then some (.inl none, h) else if h 207 x0 0 ≤ x3 then some (.inl none, h) else if 131 ≤ x3 then some (.inl none, h) else if h 2 (x0 + 5) x3 = (-1) then vret vrun mX0_turnNeutral 55 [(1, x0), (0, x1), (0, x2), (0, x3), v4, v5] [] (vcl mX0_endOfNeutral [(1, x0), (0, x3)] h) else vrun mX0_turnNeutral 11 [(1, x0), (0, x1), (0, h 2 (x0 + 5) x3), (0, x3 + 1), v4, v5] [] h := by
  refine (rn_iload_n (pc := 11) (dd bX0_turnNeutral dX0_turnNeutral_11) rfl).trans ?_
  refine (rn_if_lt (t := 125) (pc := 12) (dd bX0_turnNeutral dX0_turnNeutral_12) rfl).trans (itec (fun c1 => ?_) (fun c1 => ?_))
  · exact rn_return (pc := 125) (dd bX0_turnNeutral dX0_turnNeutral_125) rfl
  · refine (rn_iload_n (pc := 15) (dd bX0_turnNeutral dX0_turnNeutral_15) rfl).trans ?_
    refine (rn_aload_n (pc := 16) (dd bX0_turnNeutral dX0_turnNeutral_16) rfl).trans ?_
    refine (rg_gf (pc := 17) (dd bX0_turnNeutral dX0_turnNeutral_17) (ci := 1) (j := 7) rfl rfl (key := 207) rfl (kc := 21) rfl s1.1 rfl).trans ?_
    refine (rn_icmp_ge (t := 125) (pc := 20) (dd bX0_turnNeutral dX0_turnNeutral_20) rfl).trans (itec (fun c2 => ?_) (fun c2 => ?_))
    · exact rn_return (pc := 125) (dd bX0_turnNeutral dX0_turnNeutral_125) rfl
    · refine (rn_iload_n (pc := 23) (dd bX0_turnNeutral dX0_turnNeutral_23) rfl).trans ?_
      refine (rn_sipush (pc := 24) (dd bX0_turnNeutral dX0_turnNeutral_24) (by decide)).trans ?_
      refine (rn_icmp_ge (t := 125) (pc := 27) (dd bX0_turnNeutral dX0_turnNeutral_27) rfl).trans (itec (fun c3 => ?_) (fun c3 => ?_))
      · exact rn_return (pc := 125) (dd bX0_turnNeutral dX0_turnNeutral_125) rfl
      · refine (rn_aload_n (pc := 30) (dd bX0_turnNeutral dX0_turnNeutral_30) rfl).trans ?_
        refine (rg_gf (pc := 31) (dd bX0_turnNeutral dX0_turnNeutral_31) (ci := 1) (j := 4) rfl rfl (key := 204) rfl (kc := 21) rfl s1.1 s1.2.2.2.2.2.2.2.2.2.2.2.2.2.1).trans ?_
        refine (rn_iload_n (pc := 34) (dd bX0_turnNeutral dX0_turnNeutral_34) rfl).trans ?_
        refine (rg_iaload (pc := 35) (dd bX0_turnNeutral dX0_turnNeutral_35) s1.2.2.2.2.2.2.2.2.2.2.2.2.2.2.1 s1.2.2.2.2.2.2.2.2.2.2.2.2.2.2.2.1 (Int.not_lt.mp c1) (Int.not_le.mp c3) rfl).trans ?_
        refine (rn_iconst (pc := 36) (dd bX0_turnNeutral dX0_turnNeutral_36) (by decide)).trans ?_
        refine (rn_icmp_eq (t := 53) (pc := 37) (dd bX0_turnNeutral dX0_turnNeutral_37) rfl).trans (itec (fun c4 => ?_) (fun c4 => ?_))
        · refine (rn_aload_n (pc := 53) (dd bX0_turnNeutral dX0_turnNeutral_53) rfl).trans ?_
          refine (rn_iload_n (pc := 54) (dd bX0_turnNeutral dX0_turnNeutral_54) rfl).trans ?_
          exact rg_virtual (pc := 55) (dd bX0_turnNeutral dX0_turnNeutral_55) rfl rfl (by decide) (kc := 21) rfl s1.1 (as := [(1, x0), (0, x3)]) rfl ⟨Nat.le_of_ble_eq_true rfl, Nat.le_of_ble_eq_true rfl, Nat.le_of_ble_eq_true rfl, Nat.le_of_ble_eq_true rfl⟩
        · refine (rn_aload_n (pc := 40) (dd bX0_turnNeutral dX0_turnNeutral_40) rfl).trans ?_
          refine (rg_gf (pc := 41) (dd bX0_turnNeutral dX0_turnNeutral_41) (ci := 1) (j := 4) rfl rfl (key := 204) rfl (kc := 21) rfl s1.1 s1.2.2.2.2.2.2.2.2.2.2.2.2.2.1).trans ?_
          refine (rn_iload_n (pc := 44) (dd bX0_turnNeutral dX0_turnNeutral_44) rfl).trans ?_
          refine (rg_iaload (pc := 45) (dd bX0_turnNeutral dX0_turnNeutral_45) s1.2.2.2.2.2.2.2.2.2.2.2.2.2.2.1 s1.2.2.2.2.2.2.2.2.2.2.2.2.2.2.2.1 (Int.not_lt.mp c1) (Int.not_le.mp c3) rfl).trans ?_
          refine (rn_istore_n (pc := 46) (dd bX0_turnNeutral dX0_turnNeutral_46) (Nat.le_of_ble_eq_true rfl) rfl).trans ?_
          refine (rg_iinc (pc := 47) (dd bX0_turnNeutral dX0_turnNeutral_47) rfl (Nat.le_of_ble_eq_true rfl) (by omega) (by omega) rfl).trans ?_
          refine (rn_goto (t := 11) (pc := 50) (dd bX0_turnNeutral dX0_turnNeutral_50) rfl).trans ?_
          rfl
theorem rX0_turnNeutral_58 {x0 : Int} {x1 : Int} {x2 : Int} {x3 : Int} {v4 : vv} {v5 : vv} {y0 : Int} {h : vH} (s1 : shDirections h x0) : vrun mX0_turnNeutral 58 [(1, x0), (0, x1), (0, x2), (0, x3), v4, v5] [(0, y0)] h = vret vrun mX0_turnNeutral 110 [(1, x0), (0, x1), (0, x2), (0, x3), (0, y0), (0, (if y0 < 0 then x1 else (if h 207 x0 0 ≤ y0 then x1 else (if 131 ≤ y0 then x1 else h 2 (x0 + 5) y0))))] [] (vcl mX0_fillWays [(1, x0), (0, x3), (0, y0), (0, (if x2 = (if y0 < 0 then x1 else (if h 207 x0 0 ≤ y0 then x1 else (if 131 ≤ y0 then x1 else h 2 (x0 + 5) y0))) then x2 else x1))] h) := by
  refine (rn_istore (pc := 58) (dd bX0_turnNeutral dX0_turnNeutral_58) (Nat.le_of_ble_eq_true rfl) rfl).trans ?_
  refine (rn_iload (pc := 60) (dd bX0_turnNeutral dX0_turnNeutral_60) rfl).trans ?_
  have e3 : vrun mX0_turnNeutral 62 [(1, x0), (0, x1), (0, x2), (0, x3), (0, y0), v5] [(0, y0)] h = vrun mX0_turnNeutral 93 [(1, x0), (0, x1), (0, x2), (0, x3), (0, y0), v5] [(0, (if y0 < 0 then x1 else (if h 207 x0 0 ≤ y0 then x1 else (if 131 ≤ y0 then x1 else h 2 (x0 + 5) y0))))] h := by
    refine (rn_if_lt (t := 92) (pc := 62) (dd bX0_turnNeutral dX0_turnNeutral_62) rfl).trans ?_
    by_cases c1 : y0 < 0
    · refine (if_pos c1).trans ?_
      refine (rn_iload_n (pc := 92) (dd bX0_turnNeutral dX0_turnNeutral_92) rfl).trans ?_
      refine Eq.trans (b := vrun mX0_turnNeutral 93 [(1, x0), (0, x1), (0, x2), (0, x3), (0, y0), v5] [(0, x1)] h) rfl ?_
      simp only [if_pos c1]
    · refine (if_neg c1).trans ?_
      refine (rn_iload (pc := 65) (dd bX0_turnNeutral dX0_turnNeutral_65) rfl).trans ?_
      refine (rn_aload_n (pc := 67) (dd bX0_turnNeutral dX0_turnNeutral_67) rfl).trans ?_
      refine (rg_gf (pc := 68) (dd bX0_turnNeutral dX0_turnNeutral_68) (ci := 1) (j := 7) rfl rfl (key := 207) rfl (kc := 21) rfl s1.1 rfl).trans ?_
      have e2 : vrun mX0_turnNeutral 71 [(1, x0), (0, x1), (0, x2), (0, x3), (0, y0), v5] [(0, h 207 x0 0), (0, y0)] h = vrun mX0_turnNeutral 93 [(1, x0), (0, x1), (0, x2), (0, x3), (0, y0), v5] [(0, (if h 207 x0 0 ≤ y0 then x1 else (if 131 ≤ y0 then x1 else h 2 (x0 + 5) y0)))] h := by
        refine (rn_icmp_ge (t := 92) (pc := 71) (dd bX0_turnNeutral dX0_turnNeutral_71) rfl).trans ?_
        by_cases c2 : h 207 x0 0 ≤ y0
        · refine (if_pos c2).trans ?_
          refine (rn_iload_n (pc := 92) (dd bX0_turnNeutral dX0_turnNeutral_92) rfl).trans ?_
          refine Eq.trans (b := vrun mX0_turnNeutral 93 [(1, x0), (0, x1), (0, x2), (0, x3), (0, y0), v5] [(0, x1)] h) rfl ?_
          simp only [if_pos c2]
        · refine (if_neg c2).trans ?_
          refine (rn_iload (pc := 74) (dd bX0_turnNeutral dX0_turnNeutral_74) rfl).trans ?_
          refine (rn_sipush (pc := 76) (dd bX0_turnNeutral dX0_turnNeutral_76) (by decide)).trans ?_
          have e1 : vrun mX0_turnNeutral 79 [(1, x0), (0, x1), (0, x2), (0, x3), (0, y0), v5] [(0, 131), (0, y0)] h = vrun mX0_turnNeutral 93 [(1, x0), (0, x1), (0, x2), (0, x3), (0, y0), v5] [(0, (if 131 ≤ y0 then x1 else h 2 (x0 + 5) y0))] h := by
            refine (rn_icmp_ge (t := 92) (pc := 79) (dd bX0_turnNeutral dX0_turnNeutral_79) rfl).trans ?_
            by_cases c3 : 131 ≤ y0
            · refine (if_pos c3).trans ?_
              refine (rn_iload_n (pc := 92) (dd bX0_turnNeutral dX0_turnNeutral_92) rfl).trans ?_
              refine Eq.trans (b := vrun mX0_turnNeutral 93 [(1, x0), (0, x1), (0, x2), (0, x3), (0, y0), v5] [(0, x1)] h) rfl ?_
              simp only [if_pos c3]
            · refine (if_neg c3).trans ?_
              refine (rn_aload_n (pc := 82) (dd bX0_turnNeutral dX0_turnNeutral_82) rfl).trans ?_
              refine (rg_gf (pc := 83) (dd bX0_turnNeutral dX0_turnNeutral_83) (ci := 1) (j := 4) rfl rfl (key := 204) rfl (kc := 21) rfl s1.1 s1.2.2.2.2.2.2.2.2.2.2.2.2.2.1).trans ?_
              refine (rn_iload (pc := 86) (dd bX0_turnNeutral dX0_turnNeutral_86) rfl).trans ?_
              refine (rg_iaload (pc := 88) (dd bX0_turnNeutral dX0_turnNeutral_88) s1.2.2.2.2.2.2.2.2.2.2.2.2.2.2.1 s1.2.2.2.2.2.2.2.2.2.2.2.2.2.2.2.1 (Int.not_lt.mp c1) (Int.not_le.mp c3) rfl).trans ?_
              refine (rn_goto (t := 93) (pc := 89) (dd bX0_turnNeutral dX0_turnNeutral_89) rfl).trans ?_
              refine Eq.trans (b := vrun mX0_turnNeutral 93 [(1, x0), (0, x1), (0, x2), (0, x3), (0, y0), v5] [(0, h 2 (x0 + 5) y0)] h) rfl ?_
              simp only [if_neg c3]
          refine e1.trans ?_
          refine Eq.trans (b := vrun mX0_turnNeutral 93 [(1, x0), (0, x1), (0, x2), (0, x3), (0, y0), v5] [(0, (if 131 ≤ y0 then x1 else h 2 (x0 + 5) y0))] h) rfl ?_
          simp only [if_neg c2]
      refine e2.trans ?_
      refine Eq.trans (b := vrun mX0_turnNeutral 93 [(1, x0), (0, x1), (0, x2), (0, x3), (0, y0), v5] [(0, (if h 207 x0 0 ≤ y0 then x1 else (if 131 ≤ y0 then x1 else h 2 (x0 + 5) y0)))] h) rfl ?_
      simp only [if_neg c1]
  refine e3.trans ?_
  refine (rn_istore (pc := 93) (dd bX0_turnNeutral dX0_turnNeutral_93) (Nat.le_of_ble_eq_true rfl) rfl).trans ?_
  refine (rn_aload_n (pc := 95) (dd bX0_turnNeutral dX0_turnNeutral_95) rfl).trans ?_
  refine (rn_iload_n (pc := 96) (dd bX0_turnNeutral dX0_turnNeutral_96) rfl).trans ?_
  refine (rn_iload (pc := 97) (dd bX0_turnNeutral dX0_turnNeutral_97) rfl).trans ?_
  refine (rn_iload_n (pc := 99) (dd bX0_turnNeutral dX0_turnNeutral_99) rfl).trans ?_
  refine (rn_iload (pc := 100) (dd bX0_turnNeutral dX0_turnNeutral_100) rfl).trans ?_
  have e4 : vrun mX0_turnNeutral 102 [(1, x0), (0, x1), (0, x2), (0, x3), (0, y0), (0, (if y0 < 0 then x1 else (if h 207 x0 0 ≤ y0 then x1 else (if 131 ≤ y0 then x1 else h 2 (x0 + 5) y0))))] [(0, (if y0 < 0 then x1 else (if h 207 x0 0 ≤ y0 then x1 else (if 131 ≤ y0 then x1 else h 2 (x0 + 5) y0)))), (0, x2), (0, y0), (0, x3), (1, x0)] h = vrun mX0_turnNeutral 110 [(1, x0), (0, x1), (0, x2), (0, x3), (0, y0), (0, (if y0 < 0 then x1 else (if h 207 x0 0 ≤ y0 then x1 else (if 131 ≤ y0 then x1 else h 2 (x0 + 5) y0))))] [(0, (if x2 = (if y0 < 0 then x1 else (if h 207 x0 0 ≤ y0 then x1 else (if 131 ≤ y0 then x1 else h 2 (x0 + 5) y0))) then x2 else x1)), (0, y0), (0, x3), (1, x0)] h := by
    refine (rg_icmp_ne (t := 109) (pc := 102) (dd bX0_turnNeutral dX0_turnNeutral_102) rfl).trans ?_
    by_cases c4 : x2 = (if y0 < 0 then x1 else (if h 207 x0 0 ≤ y0 then x1 else (if 131 ≤ y0 then x1 else h 2 (x0 + 5) y0)))
    · refine (if_pos c4).trans ?_
      refine (rn_iload_n (pc := 105) (dd bX0_turnNeutral dX0_turnNeutral_105) rfl).trans ?_
      refine (rn_goto (t := 110) (pc := 106) (dd bX0_turnNeutral dX0_turnNeutral_106) rfl).trans ?_
      refine Eq.trans (b := vrun mX0_turnNeutral 110 [(1, x0), (0, x1), (0, x2), (0, x3), (0, y0), (0, (if y0 < 0 then x1 else (if h 207 x0 0 ≤ y0 then x1 else (if 131 ≤ y0 then x1 else h 2 (x0 + 5) y0))))] [(0, x2), (0, y0), (0, x3), (1, x0)] h) rfl ?_
      simp only [if_pos c4]
    · refine (if_neg c4).trans ?_
      refine (rn_iload_n (pc := 109) (dd bX0_turnNeutral dX0_turnNeutral_109) rfl).trans ?_
      refine Eq.trans (b := vrun mX0_turnNeutral 110 [(1, x0), (0, x1), (0, x2), (0, x3), (0, y0), (0, (if y0 < 0 then x1 else (if h 207 x0 0 ≤ y0 then x1 else (if 131 ≤ y0 then x1 else h 2 (x0 + 5) y0))))] [(0, x1), (0, y0), (0, x3), (1, x0)] h) rfl ?_
      simp only [if_neg c4]
  refine e4.trans ?_
  exact rg_virtual (pc := 110) (dd bX0_turnNeutral dX0_turnNeutral_110) rfl rfl (by decide) (kc := 21) rfl s1.1 (as := [(1, x0), (0, x3), (0, y0), (0, (if x2 = (if y0 < 0 then x1 else (if h 207 x0 0 ≤ y0 then x1 else (if 131 ≤ y0 then x1 else h 2 (x0 + 5) y0))) then x2 else x1))]) rfl ⟨Nat.le_of_ble_eq_true rfl, Nat.le_of_ble_eq_true rfl, Nat.le_of_ble_eq_true rfl, Nat.le_of_ble_eq_true rfl⟩
theorem rX0_turnNeutral_113 {x0 : Int} {x1 : Int} {x2 : Int} {x3 : Int} {x4 : Int} {x5 : Int} {h : vH} (p1 : (-2147483648) ≤ x3 + 1) (p2 : x3 + 1 < 2147483648) : vrun mX0_turnNeutral 113 [(1, x0), (0, x1), (0, x2), (0, x3), (0, x4), (0, x5)] [] h = vrun mX0_turnNeutral 11 [(1, x0), (0, x1), (0, x2), (0, max x4 (x3 + 1)), (0, x4), (0, x5)] [] h := by
  refine (rn_iload (pc := 113) (dd bX0_turnNeutral dX0_turnNeutral_113) rfl).trans ?_
  refine (rn_iload_n (pc := 115) (dd bX0_turnNeutral dX0_turnNeutral_115) rfl).trans ?_
  refine (rn_iconst (pc := 116) (dd bX0_turnNeutral dX0_turnNeutral_116) (by decide)).trans ?_
  refine (rg_iadd (pc := 117) (dd bX0_turnNeutral dX0_turnNeutral_117) p1 p2).trans ?_
  refine (rg_max (pc := 118) (dd bX0_turnNeutral dX0_turnNeutral_118) rfl ⟨Nat.le_of_ble_eq_true rfl, Nat.le_of_ble_eq_true rfl, Nat.le_of_ble_eq_true rfl⟩).trans ?_
  refine (rn_istore_n (pc := 121) (dd bX0_turnNeutral dX0_turnNeutral_121) (Nat.le_of_ble_eq_true rfl) rfl).trans ?_
  refine (rn_goto (t := 11) (pc := 122) (dd bX0_turnNeutral dX0_turnNeutral_122) rfl).trans ?_
  rfl
theorem bX0_setLevels : vmB mX0_setLevels = cX0_setLevels := rfl
theorem rX0_setLevels_0 {x0 : Int} {x1 : Int} {h : vH} : vrun mX0_setLevels 0 [(1, x0), (1, x1), (9, 0), (9, 0), (9, 0)] [] h = vrun mX0_setLevels 2 [(1, x0), (1, x1), (0, 0), (9, 0), (9, 0)] [] h := by
  refine (rn_iconst (pc := 0) (dd bX0_setLevels dX0_setLevels_0) (by decide)).trans ?_
  refine (rn_istore_n (pc := 1) (dd bX0_setLevels dX0_setLevels_1) (Nat.le_of_ble_eq_true rfl) rfl).trans ?_
  rfl
theorem rX0_setLevels_2 {x0 : Int} {x1 : Int} {x2 : Int} {v3 : vv} {v4 : vv} {h : vH} (s1 : shDirections h x0) (p2 : ¬ (h 207 x0 0 ≤ x2) → ¬ (131 ≤ x2) → 0 ≤ x2) (s3 : shLayout h x1) (p4 : ¬ (h 207 x0 0 ≤ x2) → ¬ (131 ≤ x2) → ¬ (h 2 (x0 + 3) x2 < 0) → ¬ (131 ≤ h 2 (x0 + 3) x2) → 0 ≤ h 208 x0 0) (p5 : ¬ (h 207 x0 0 ≤ x2) → ¬ (131 ≤ x2) → ¬ (h 2 (x0 + 3) x2 < 0) → ¬ (131 ≤ h 2 (x0 + 3) x2) → ¬ (h 208 x0 0 % 2 = h 2 (x0 + 5) x2) → h 208 x0 0 + 1 < 2147483648) (p6 : ¬ (h 207 x0 0 ≤ x2) → ¬ (131 ≤ x2) → ¬ (h 2 (x0 + 3) x2 < 0) → ¬ (131 ≤ h 2 (x0 + 3) x2) → (if h 208 x0 0 % 2 = h 2 (x0 + 5) x2 then h 208 x0 0 else h 208 x0 0 + 1) + (if (¬ (h 2 (x0 + 4) x2 < 48) ∧ ¬ (57 < h 2 (x0 + 4) x2)) ∧ h 2 (x0 + 5) x2 = 1 then 1 else 0) < 2147483648) : vrun mX0_setLevels 2 [(1, x0), (1, x1), (0, x2), v3, v4] [] h = if h 207 x0 0 ≤ x2 then some (.inl none, h) else if 131 ≤ x2 then some (.inl none, h) else vrun mX0_setLevels 2 [(1, x0), (1, x1), (0, x2 + 1), (0, h 2 (x0 + 3) x2), (if h 2 (x0 + 3) x2 < 0 then v4 else (if 131 ≤ h 2 (x0 + 3) x2 then v4 else (0, (if (¬ (h 2 (x0 + 4) x2 < 48) ∧ ¬ (57 < h 2 (x0 + 4) x2)) ∧ h 2 (x0 + 5) x2 = 1 then 1 else 0))))] [] (if h 2 (x0 + 3) x2 < 0 then h else (if 131 ≤ h 2 (x0 + 3) x2 then h else vup (vup h 2 (x1 + 7) (h 2 (x0 + 3) x2) ((if h 208 x0 0 % 2 = h 2 (x0 + 5) x2 then h 208 x0 0 else h 208 x0 0 + 1) + (if (¬ (h 2 (x0 + 4) x2 < 48) ∧ ¬ (57 < h 2 (x0 + 4) x2)) ∧ h 2 (x0 + 5) x2 = 1 then 1 else 0))) 2 (x0 + 2) (h 2 (x0 + 3) x2) (h 208 x0 0))) := by
  refine (rn_iload_n (pc := 2) (dd bX0_setLevels dX0_setLevels_2) rfl).trans ?_
  refine (rn_aload_n (pc := 3) (dd bX0_setLevels dX0_setLevels_3) rfl).trans ?_
  refine (rg_gf (pc := 4) (dd bX0_setLevels dX0_setLevels_4) (ci := 1) (j := 7) rfl rfl (key := 207) rfl (kc := 21) rfl s1.1 rfl).trans ?_
  refine (rn_icmp_ge (t := 104) (pc := 7) (dd bX0_setLevels dX0_setLevels_7) rfl).trans (itec (fun c1 => ?_) (fun c1 => ?_))
  · exact rn_return (pc := 104) (dd bX0_setLevels dX0_setLevels_104) rfl
  · refine (rn_iload_n (pc := 10) (dd bX0_setLevels dX0_setLevels_10) rfl).trans ?_
    refine (rn_sipush (pc := 11) (dd bX0_setLevels dX0_setLevels_11) (by decide)).trans ?_
    refine (rn_icmp_ge (t := 104) (pc := 14) (dd bX0_setLevels dX0_setLevels_14) rfl).trans (itec (fun c2 => ?_) (fun c2 => ?_))
    · exact rn_return (pc := 104) (dd bX0_setLevels dX0_setLevels_104) rfl
    · refine (rn_aload_n (pc := 17) (dd bX0_setLevels dX0_setLevels_17) rfl).trans ?_
      refine (rg_gf (pc := 18) (dd bX0_setLevels dX0_setLevels_18) (ci := 1) (j := 2) rfl rfl (key := 202) rfl (kc := 21) rfl s1.1 s1.2.2.2.2.2.2.2.1).trans ?_
      refine (rn_iload_n (pc := 21) (dd bX0_setLevels dX0_setLevels_21) rfl).trans ?_
      refine (rg_iaload (pc := 22) (dd bX0_setLevels dX0_setLevels_22) s1.2.2.2.2.2.2.2.2.1 s1.2.2.2.2.2.2.2.2.2.1 (p2 c1 c2) (Int.not_le.mp c2) rfl).trans ?_
      refine (rn_istore_n (pc := 23) (dd bX0_setLevels dX0_setLevels_23) (Nat.le_of_ble_eq_true rfl) rfl).trans ?_
      refine (rn_iload_n (pc := 24) (dd bX0_setLevels dX0_setLevels_24) rfl).trans ?_
      have e4 : vrun mX0_setLevels 25 [(1, x0), (1, x1), (0, x2), (0, h 2 (x0 + 3) x2), v4] [(0, h 2 (x0 + 3) x2)] h = vrun mX0_setLevels 98 [(1, x0), (1, x1), (0, x2), (0, h 2 (x0 + 3) x2), (if h 2 (x0 + 3) x2 < 0 then v4 else (if 131 ≤ h 2 (x0 + 3) x2 then v4 else (0, (if (¬ (h 2 (x0 + 4) x2 < 48) ∧ ¬ (57 < h 2 (x0 + 4) x2)) ∧ h 2 (x0 + 5) x2 = 1 then 1 else 0))))] [] (if h 2 (x0 + 3) x2 < 0 then h else (if 131 ≤ h 2 (x0 + 3) x2 then h else vup (vup h 2 (x1 + 7) (h 2 (x0 + 3) x2) ((if h 208 x0 0 % 2 = h 2 (x0 + 5) x2 then h 208 x0 0 else h 208 x0 0 + 1) + (if (¬ (h 2 (x0 + 4) x2 < 48) ∧ ¬ (57 < h 2 (x0 + 4) x2)) ∧ h 2 (x0 + 5) x2 = 1 then 1 else 0))) 2 (x0 + 2) (h 2 (x0 + 3) x2) (h 208 x0 0))) := by
        refine (rn_if_lt (t := 98) (pc := 25) (dd bX0_setLevels dX0_setLevels_25) rfl).trans ?_
        by_cases c3 : h 2 (x0 + 3) x2 < 0
        · refine (if_pos c3).trans ?_
          refine Eq.trans (b := vrun mX0_setLevels 98 [(1, x0), (1, x1), (0, x2), (0, h 2 (x0 + 3) x2), v4] [] h) rfl ?_
          simp only [if_pos c3]
        · refine (if_neg c3).trans ?_
          refine (rn_iload_n (pc := 28) (dd bX0_setLevels dX0_setLevels_28) rfl).trans ?_
          refine (rn_sipush (pc := 29) (dd bX0_setLevels dX0_setLevels_29) (by decide)).trans ?_
          have e3 : vrun mX0_setLevels 32 [(1, x0), (1, x1), (0, x2), (0, h 2 (x0 + 3) x2), v4] [(0, 131), (0, h 2 (x0 + 3) x2)] h = vrun mX0_setLevels 98 [(1, x0), (1, x1), (0, x2), (0, h 2 (x0 + 3) x2), (if 131 ≤ h 2 (x0 + 3) x2 then v4 else (0, (if (¬ (h 2 (x0 + 4) x2 < 48) ∧ ¬ (57 < h 2 (x0 + 4) x2)) ∧ h 2 (x0 + 5) x2 = 1 then 1 else 0)))] [] (if 131 ≤ h 2 (x0 + 3) x2 then h else vup (vup h 2 (x1 + 7) (h 2 (x0 + 3) x2) ((if h 208 x0 0 % 2 = h 2 (x0 + 5) x2 then h 208 x0 0 else h 208 x0 0 + 1) + (if (¬ (h 2 (x0 + 4) x2 < 48) ∧ ¬ (57 < h 2 (x0 + 4) x2)) ∧ h 2 (x0 + 5) x2 = 1 then 1 else 0))) 2 (x0 + 2) (h 2 (x0 + 3) x2) (h 208 x0 0)) := by
            refine (rn_icmp_ge (t := 98) (pc := 32) (dd bX0_setLevels dX0_setLevels_32) rfl).trans ?_
            by_cases c4 : 131 ≤ h 2 (x0 + 3) x2
            · refine (if_pos c4).trans ?_
              refine Eq.trans (b := vrun mX0_setLevels 98 [(1, x0), (1, x1), (0, x2), (0, h 2 (x0 + 3) x2), v4] [] h) rfl ?_
              simp only [if_pos c4]
            · refine (if_neg c4).trans ?_
              refine (rn_aload_n (pc := 35) (dd bX0_setLevels dX0_setLevels_35) rfl).trans ?_
              refine (rn_aload_n (pc := 36) (dd bX0_setLevels dX0_setLevels_36) rfl).trans ?_
              refine (rg_gf (pc := 37) (dd bX0_setLevels dX0_setLevels_37) (ci := 1) (j := 3) rfl rfl (key := 203) rfl (kc := 21) rfl s1.1 s1.2.2.2.2.2.2.2.2.2.2.1).trans ?_
              refine (rn_iload_n (pc := 40) (dd bX0_setLevels dX0_setLevels_40) rfl).trans ?_
              refine (rg_iaload (pc := 41) (dd bX0_setLevels dX0_setLevels_41) s1.2.2.2.2.2.2.2.2.2.2.2.1 s1.2.2.2.2.2.2.2.2.2.2.2.2.1 (by have z0 := p2 c1 c2; omega) (Int.not_le.mp c2) rfl).trans ?_
              refine (rg_virtual (pc := 42) (dd bX0_setLevels dX0_setLevels_42) rfl rfl (by decide) (kc := 21) rfl s1.1 (as := [(1, x0), (0, h 2 (x0 + 4) x2)]) rfl ⟨Nat.le_of_ble_eq_true rfl, Nat.le_of_ble_eq_true rfl, Nat.le_of_ble_eq_true rfl, Nat.le_of_ble_eq_true rfl⟩).trans ?_
              refine (vret_v spX0_isDigit).trans ?_
              have e2 : vrun mX0_setLevels 45 [(1, x0), (1, x1), (0, x2), (0, h 2 (x0 + 3) x2), v4] [(0, (if ¬ (h 2 (x0 + 4) x2 < 48) ∧ ¬ (57 < h 2 (x0 + 4) x2) then 1 else 0))] h = vrun mX0_setLevels 63 [(1, x0), (1, x1), (0, x2), (0, h 2 (x0 + 3) x2), v4] [(0, (if (¬ (h 2 (x0 + 4) x2 < 48) ∧ ¬ (57 < h 2 (x0 + 4) x2)) ∧ h 2 (x0 + 5) x2 = 1 then 1 else 0))] h := by
                refine (rg_beq (t := 62) (pc := 45) (dd bX0_setLevels dX0_setLevels_45) rfl).trans ?_
                by_cases c5 : ¬ (h 2 (x0 + 4) x2 < 48) ∧ ¬ (57 < h 2 (x0 + 4) x2)
                · refine (if_pos c5).trans ?_
                  refine (rn_aload_n (pc := 48) (dd bX0_setLevels dX0_setLevels_48) rfl).trans ?_
                  refine (rg_gf (pc := 49) (dd bX0_setLevels dX0_setLevels_49) (ci := 1) (j := 4) rfl rfl (key := 204) rfl (kc := 21) rfl s1.1 s1.2.2.2.2.2.2.2.2.2.2.2.2.2.1).trans ?_
                  refine (rn_iload_n (pc := 52) (dd bX0_setLevels dX0_setLevels_52) rfl).trans ?_
                  refine (rg_iaload (pc := 53) (dd bX0_setLevels dX0_setLevels_53) s1.2.2.2.2.2.2.2.2.2.2.2.2.2.2.1 s1.2.2.2.2.2.2.2.2.2.2.2.2.2.2.2.1 (by have z0 := p2 c1 c2; omega) (Int.not_le.mp c2) rfl).trans ?_
                  refine (rn_iconst (pc := 54) (dd bX0_setLevels dX0_setLevels_54) (by decide)).trans ?_
                  have e1 : vrun mX0_setLevels 55 [(1, x0), (1, x1), (0, x2), (0, h 2 (x0 + 3) x2), v4] [(0, 1), (0, h 2 (x0 + 5) x2)] h = vrun mX0_setLevels 63 [(1, x0), (1, x1), (0, x2), (0, h 2 (x0 + 3) x2), v4] [(0, (if h 2 (x0 + 5) x2 = 1 then 1 else 0))] h := by
                    refine (rg_icmp_ne (t := 62) (pc := 55) (dd bX0_setLevels dX0_setLevels_55) rfl).trans ?_
                    by_cases c6 : h 2 (x0 + 5) x2 = 1
                    · refine (if_pos c6).trans ?_
                      refine (rn_iconst (pc := 58) (dd bX0_setLevels dX0_setLevels_58) (by decide)).trans ?_
                      refine (rn_goto (t := 63) (pc := 59) (dd bX0_setLevels dX0_setLevels_59) rfl).trans ?_
                      refine Eq.trans (b := vrun mX0_setLevels 63 [(1, x0), (1, x1), (0, x2), (0, h 2 (x0 + 3) x2), v4] [(0, 1)] h) rfl ?_
                      simp only [c6, true_or, false_or, or_true, or_false, true_and, false_and, and_true, and_false, not_true_eq_false, not_false_eq_true, ne_eq, if_true, if_false, ↓reduceIte]
                    · refine (if_neg c6).trans ?_
                      refine (rn_iconst (pc := 62) (dd bX0_setLevels dX0_setLevels_62) (by decide)).trans ?_
                      refine Eq.trans (b := vrun mX0_setLevels 63 [(1, x0), (1, x1), (0, x2), (0, h 2 (x0 + 3) x2), v4] [(0, 0)] h) rfl ?_
                      simp only [c6, true_or, false_or, or_true, or_false, true_and, false_and, and_true, and_false, not_true_eq_false, not_false_eq_true, ne_eq, if_true, if_false, ↓reduceIte]
                  refine e1.trans ?_
                  refine Eq.trans (b := vrun mX0_setLevels 63 [(1, x0), (1, x1), (0, x2), (0, h 2 (x0 + 3) x2), v4] [(0, (if h 2 (x0 + 5) x2 = 1 then 1 else 0))] h) rfl ?_
                  simp only [c5, true_or, false_or, or_true, or_false, true_and, false_and, and_true, and_false, not_true_eq_false, not_false_eq_true, ne_eq, if_true, if_false, ↓reduceIte]
                · refine (if_neg c5).trans ?_
                  refine (rn_iconst (pc := 62) (dd bX0_setLevels dX0_setLevels_62) (by decide)).trans ?_
                  refine Eq.trans (b := vrun mX0_setLevels 63 [(1, x0), (1, x1), (0, x2), (0, h 2 (x0 + 3) x2), v4] [(0, 0)] h) rfl ?_
                  simp only [c5, true_or, false_or, or_true, or_false, true_and, false_and, and_true, and_false, not_true_eq_false, not_false_eq_true, ne_eq, if_true, if_false, ↓reduceIte]
              refine e2.trans ?_
              refine (rn_istore (pc := 63) (dd bX0_setLevels dX0_setLevels_63) (Nat.le_of_ble_eq_true rfl) rfl).trans ?_
              refine (rn_aload_n (pc := 65) (dd bX0_setLevels dX0_setLevels_65) rfl).trans ?_
              refine (rg_gf (pc := 66) (dd bX0_setLevels dX0_setLevels_66) (ci := 4) (j := 6) rfl rfl (key := 506) rfl (kc := 24) rfl s3.1 s3.2.2.2.2.2.2.2.2.2.2.2.2.2.2.2.2.2.2.2.1).trans ?_
              refine (rn_iload_n (pc := 69) (dd bX0_setLevels dX0_setLevels_69) rfl).trans ?_
              refine (rn_aload_n (pc := 70) (dd bX0_setLevels dX0_setLevels_70) rfl).trans ?_
              refine (rn_aload_n (pc := 71) (dd bX0_setLevels dX0_setLevels_71) rfl).trans ?_
              refine (rg_gf (pc := 72) (dd bX0_setLevels dX0_setLevels_72) (ci := 1) (j := 8) rfl rfl (key := 208) rfl (kc := 21) rfl s1.1 rfl).trans ?_
              refine (rn_aload_n (pc := 75) (dd bX0_setLevels dX0_setLevels_75) rfl).trans ?_
              refine (rg_gf (pc := 76) (dd bX0_setLevels dX0_setLevels_76) (ci := 1) (j := 4) rfl rfl (key := 204) rfl (kc := 21) rfl s1.1 s1.2.2.2.2.2.2.2.2.2.2.2.2.2.1).trans ?_
              refine (rn_iload_n (pc := 79) (dd bX0_setLevels dX0_setLevels_79) rfl).trans ?_
              refine (rg_iaload (pc := 80) (dd bX0_setLevels dX0_setLevels_80) s1.2.2.2.2.2.2.2.2.2.2.2.2.2.2.1 s1.2.2.2.2.2.2.2.2.2.2.2.2.2.2.2.1 (by have z0 := p2 c1 c2; omega) (Int.not_le.mp c2) rfl).trans ?_
              refine (rg_virtual (pc := 81) (dd bX0_setLevels dX0_setLevels_81) rfl rfl (by decide) (kc := 21) rfl s1.1 (as := [(1, x0), (0, h 208 x0 0), (0, h 2 (x0 + 5) x2)]) rfl ⟨Nat.le_of_ble_eq_true rfl, Nat.le_of_ble_eq_true rfl, Nat.le_of_ble_eq_true rfl, Nat.le_of_ble_eq_true rfl⟩).trans ?_
              refine (vret_v (spX0_leastAbove (p4 c1 c2 c3 c4) (p5 c1 c2 c3 c4))).trans ?_
              refine (rn_iload (pc := 84) (dd bX0_setLevels dX0_setLevels_84) rfl).trans ?_
              refine (rg_iadd (pc := 86) (dd bX0_setLevels dX0_setLevels_86) (by have z0 := p4 c1 c2 c3 c4; omega) (p6 c1 c2 c3 c4)).trans ?_
              refine (rg_iastore (pc := 87) (dd bX0_setLevels dX0_setLevels_87) s3.2.2.2.2.2.2.2.2.2.2.2.2.2.2.2.2.2.2.2.2.1 s3.2.2.2.2.2.2.2.2.2.2.2.2.2.2.2.2.2.2.2.2.2.1 (Int.not_lt.mp c3) (Int.not_le.mp c4)).trans ?_
              refine (rn_aload_n (pc := 88) (dd bX0_setLevels dX0_setLevels_88) rfl).trans ?_
              refine (rg_gf (pc := 89) (dd bX0_setLevels dX0_setLevels_89) (ci := 1) (j := 1) rfl rfl (key := 201) rfl (kc := 21) rfl ((vup_k (by decide)).trans s1.1) ((vup_k (by decide)).trans s1.2.2.2.2.1)).trans ?_
              refine (rn_iload_n (pc := 92) (dd bX0_setLevels dX0_setLevels_92) rfl).trans ?_
              refine (rn_aload_n (pc := 93) (dd bX0_setLevels dX0_setLevels_93) rfl).trans ?_
              refine (rg_gf (pc := 94) (dd bX0_setLevels dX0_setLevels_94) (ci := 1) (j := 8) rfl rfl (key := 208) rfl (kc := 21) rfl ((vup_k (by decide)).trans s1.1) ((vup_k (by decide)).trans rfl)).trans ?_
              refine (rg_iastore (pc := 97) (dd bX0_setLevels dX0_setLevels_97) ((vup_k (by decide)).trans s1.2.2.2.2.2.1) ((vup_k (by decide)).trans s1.2.2.2.2.2.2.1) (Int.not_lt.mp c3) (Int.not_le.mp c4)).trans ?_
              refine Eq.trans (b := vrun mX0_setLevels 98 [(1, x0), (1, x1), (0, x2), (0, h 2 (x0 + 3) x2), (0, (if (¬ (h 2 (x0 + 4) x2 < 48) ∧ ¬ (57 < h 2 (x0 + 4) x2)) ∧ h 2 (x0 + 5) x2 = 1 then 1 else 0))] [] (vup (vup h 2 (x1 + 7) (h 2 (x0 + 3) x2) ((if h 208 x0 0 % 2 = h 2 (x0 + 5) x2 then h 208 x0 0 else h 208 x0 0 + 1) + (if (¬ (h 2 (x0 + 4) x2 < 48) ∧ ¬ (57 < h 2 (x0 + 4) x2)) ∧ h 2 (x0 + 5) x2 = 1 then 1 else 0))) 2 (x0 + 2) (h 2 (x0 + 3) x2) (h 208 x0 0))) rfl ?_
              simp only [if_neg c4]
          refine e3.trans ?_
          refine Eq.trans (b := vrun mX0_setLevels 98 [(1, x0), (1, x1), (0, x2), (0, h 2 (x0 + 3) x2), (if 131 ≤ h 2 (x0 + 3) x2 then v4 else (0, (if (¬ (h 2 (x0 + 4) x2 < 48) ∧ ¬ (57 < h 2 (x0 + 4) x2)) ∧ h 2 (x0 + 5) x2 = 1 then 1 else 0)))] [] (if 131 ≤ h 2 (x0 + 3) x2 then h else vup (vup h 2 (x1 + 7) (h 2 (x0 + 3) x2) ((if h 208 x0 0 % 2 = h 2 (x0 + 5) x2 then h 208 x0 0 else h 208 x0 0 + 1) + (if (¬ (h 2 (x0 + 4) x2 < 48) ∧ ¬ (57 < h 2 (x0 + 4) x2)) ∧ h 2 (x0 + 5) x2 = 1 then 1 else 0))) 2 (x0 + 2) (h 2 (x0 + 3) x2) (h 208 x0 0))) rfl ?_
          simp only [if_neg c3]
      refine e4.trans ?_
      refine (rg_iinc (pc := 98) (dd bX0_setLevels dX0_setLevels_98) rfl (Nat.le_of_ble_eq_true rfl) (by have z0 := p2 c1 c2; omega) (by have z0 := p2 c1 c2; omega) rfl).trans ?_
      refine (rn_goto (t := 2) (pc := 101) (dd bX0_setLevels dX0_setLevels_101) rfl).trans ?_
      rfl
theorem bX0_find : vmB mX0_find = cX0_find := rfl
theorem rX0_find_0 {x0 : Int} {x1 : Int} {h : vH} (s1 : shLayout h x1) (s2 : shDirections h x0) : vrun mX0_find 0 [(1, x0), (1, x1), (9, 0), (9, 0)] [] h = vret vrun mX0_find 16 [(1, x0), (1, x1), (9, 0), (9, 0)] [] (vcl mX0_matchIsolating [(1, x0), (1, x1)] (vup h 209 x0 0 (min (h 509 x1 0) 131))) := by
  refine (rn_aload_n (pc := 0) (dd bX0_find dX0_find_0) rfl).trans ?_
  refine (rn_aload_n (pc := 1) (dd bX0_find dX0_find_1) rfl).trans ?_
  refine (rg_gf (pc := 2) (dd bX0_find dX0_find_2) (ci := 4) (j := 9) rfl rfl (key := 509) rfl (kc := 24) rfl s1.1 rfl).trans ?_
  refine (rn_sipush (pc := 5) (dd bX0_find dX0_find_5) (by decide)).trans ?_
  refine (rg_min (pc := 8) (dd bX0_find dX0_find_8) rfl ⟨Nat.le_of_ble_eq_true rfl, Nat.le_of_ble_eq_true rfl, Nat.le_of_ble_eq_true rfl⟩).trans ?_
  refine (rg_pf (pc := 11) (dd bX0_find dX0_find_11) (ci := 1) (j := 9) rfl (key := 209) rfl (kc := 21) rfl s2.1 rfl (by intro z; cases z) (by decide)).trans ?_
  refine (rn_aload_n (pc := 14) (dd bX0_find dX0_find_14) rfl).trans ?_
  refine (rn_aload_n (pc := 15) (dd bX0_find dX0_find_15) rfl).trans ?_
  exact rg_virtual (pc := 16) (dd bX0_find dX0_find_16) rfl rfl (by decide) (kc := 21) rfl ((vup_k (by decide)).trans s2.1) (as := [(1, x0), (1, x1)]) rfl ⟨Nat.le_of_ble_eq_true rfl, Nat.le_of_ble_eq_true rfl, Nat.le_of_ble_eq_true rfl, Nat.le_of_ble_eq_true rfl⟩
theorem rX0_find_19 {x0 : Int} {x1 : Int} {h : vH} : vrun mX0_find 19 [(1, x0), (1, x1), (9, 0), (9, 0)] [] h = vrun mX0_find 21 [(1, x0), (1, x1), (0, (-1)), (9, 0)] [] h := by
  refine (rn_iconst (pc := 19) (dd bX0_find dX0_find_19) (by decide)).trans ?_
  refine (rn_istore_n (pc := 20) (dd bX0_find dX0_find_20) (Nat.le_of_ble_eq_true rfl) rfl).trans ?_
  rfl
theorem rX0_find_21 {x0 : Int} {x1 : Int} {x2 : Int} {v3 : vv} {h : vH} (s1 : shDirections h x0) (p2 : ¬ (h 209 x0 0 ≤ x2) → fX0_endOfInside h x0 x2 = (-1) → (-2147483648) ≤ x2 + 1) (p3 : ¬ (h 209 x0 0 ≤ x2) → fX0_endOfInside h x0 x2 = (-1) → x2 + 1 < 2147483648) (p4 : ¬ (h 209 x0 0 ≤ x2) → ¬ (fX0_endOfInside h x0 x2 = (-1)) → (-2147483648) ≤ x2 + 1) (p5 : ¬ (h 209 x0 0 ≤ x2) → ¬ (fX0_endOfInside h x0 x2 = (-1)) → x2 + 1 < 2147483648) : vrun mX0_find 21 [(1, x0), (1, x1), (0, x2), v3] [] h = if h 209 x0 0 ≤ x2 then some (.inl none, h) else if fX0_endOfInside h x0 x2 = (-1) then vrun mX0_find 21 [(1, x0), (1, x1), (0, x2 + 1), (0, fX0_endOfInside h x0 x2)] [] h else vret vrun mX0_find 46 [(1, x0), (1, x1), (0, x2), (0, fX0_endOfInside h x0 x2)] [] (vcl mX0_chainUp [(1, x0), (1, x1), (0, x2 + 1), (0, fX0_endOfInside h x0 x2)] h) := by
  refine (rn_iload_n (pc := 21) (dd bX0_find dX0_find_21) rfl).trans ?_
  refine (rn_aload_n (pc := 22) (dd bX0_find dX0_find_22) rfl).trans ?_
  refine (rg_gf (pc := 23) (dd bX0_find dX0_find_23) (ci := 1) (j := 9) rfl rfl (key := 209) rfl (kc := 21) rfl s1.1 rfl).trans ?_
  refine (rn_icmp_ge (t := 117) (pc := 26) (dd bX0_find dX0_find_26) rfl).trans (itec (fun c1 => ?_) (fun c1 => ?_))
  · exact rn_return (pc := 117) (dd bX0_find dX0_find_117) rfl
  · refine (rn_aload_n (pc := 29) (dd bX0_find dX0_find_29) rfl).trans ?_
    refine (rn_iload_n (pc := 30) (dd bX0_find dX0_find_30) rfl).trans ?_
    refine (rg_virtual (pc := 31) (dd bX0_find dX0_find_31) rfl rfl (by decide) (kc := 21) rfl s1.1 (as := [(1, x0), (0, x2)]) rfl ⟨Nat.le_of_ble_eq_true rfl, Nat.le_of_ble_eq_true rfl, Nat.le_of_ble_eq_true rfl, Nat.le_of_ble_eq_true rfl⟩).trans ?_
    refine (vret_v (spX0_endOfInside s1)).trans ?_
    refine (rn_istore_n (pc := 34) (dd bX0_find dX0_find_34) (Nat.le_of_ble_eq_true rfl) rfl).trans ?_
    refine (rn_iload_n (pc := 35) (dd bX0_find dX0_find_35) rfl).trans ?_
    refine (rn_iconst (pc := 36) (dd bX0_find dX0_find_36) (by decide)).trans ?_
    refine (rn_icmp_eq (t := 111) (pc := 37) (dd bX0_find dX0_find_37) rfl).trans (itec (fun c2 => ?_) (fun c2 => ?_))
    · refine (rg_iinc (pc := 111) (dd bX0_find dX0_find_111) rfl (Nat.le_of_ble_eq_true rfl) (p2 c1 c2) (p3 c1 c2) rfl).trans ?_
      refine (rn_goto (t := 21) (pc := 114) (dd bX0_find dX0_find_114) rfl).trans ?_
      rfl
    · refine (rn_aload_n (pc := 40) (dd bX0_find dX0_find_40) rfl).trans ?_
      refine (rn_aload_n (pc := 41) (dd bX0_find dX0_find_41) rfl).trans ?_
      refine (rn_iload_n (pc := 42) (dd bX0_find dX0_find_42) rfl).trans ?_
      refine (rn_iconst (pc := 43) (dd bX0_find dX0_find_43) (by decide)).trans ?_
      refine (rg_iadd (pc := 44) (dd bX0_find dX0_find_44) (p4 c1 c2) (p5 c1 c2)).trans ?_
      refine (rn_iload_n (pc := 45) (dd bX0_find dX0_find_45) rfl).trans ?_
      exact rg_virtual (pc := 46) (dd bX0_find dX0_find_46) rfl rfl (by decide) (kc := 21) rfl s1.1 (as := [(1, x0), (1, x1), (0, x2 + 1), (0, fX0_endOfInside h x0 x2)]) rfl ⟨Nat.le_of_ble_eq_true rfl, Nat.le_of_ble_eq_true rfl, Nat.le_of_ble_eq_true rfl, Nat.le_of_ble_eq_true rfl⟩
theorem rX0_find_49 {x0 : Int} {x1 : Int} {x2 : Int} {x3 : Int} {h : vH} (s1 : shDirections h x0) (p2 : ¬ (x2 < 0) → ¬ (131 ≤ x2) → (-2147483648) ≤ h 2 (x0 + 2) x2 + 1) (p3 : ¬ (x2 < 0) → ¬ (131 ≤ x2) → h 2 (x0 + 2) x2 + 1 < 2147483648) : vrun mX0_find 49 [(1, x0), (1, x1), (0, x2), (0, x3)] [] h = vret vrun mX0_find 57 [(1, x0), (1, x1), (0, x2), (0, x3)] [(0, fX0_leastBase h x0 x2), (1, x0), (1, x0)] (vcl mX0_firstWay [(1, x0)] h) := by
  refine (rn_aload_n (pc := 49) (dd bX0_find dX0_find_49) rfl).trans ?_
  refine (rn_aload_n (pc := 50) (dd bX0_find dX0_find_50) rfl).trans ?_
  refine (rn_aload_n (pc := 51) (dd bX0_find dX0_find_51) rfl).trans ?_
  refine (rn_iload_n (pc := 52) (dd bX0_find dX0_find_52) rfl).trans ?_
  refine (rg_virtual (pc := 53) (dd bX0_find dX0_find_53) rfl rfl (by decide) (kc := 21) rfl s1.1 (as := [(1, x0), (0, x2)]) rfl ⟨Nat.le_of_ble_eq_true rfl, Nat.le_of_ble_eq_true rfl, Nat.le_of_ble_eq_true rfl, Nat.le_of_ble_eq_true rfl⟩).trans ?_
  refine (vret_v (spX0_leastBase s1 p2 p3)).trans ?_
  refine (rn_aload_n (pc := 56) (dd bX0_find dX0_find_56) rfl).trans ?_
  exact rg_virtual (pc := 57) (dd bX0_find dX0_find_57) rfl rfl (by decide) (kc := 21) rfl s1.1 (as := [(1, x0)]) rfl ⟨Nat.le_of_ble_eq_true rfl, Nat.le_of_ble_eq_true rfl, Nat.le_of_ble_eq_true rfl, Nat.le_of_ble_eq_true rfl⟩
theorem rX0_find_60 {x0 : Int} {x1 : Int} {x2 : Int} {x3 : Int} {y0 : Int} {y1 : Int} {y2 : Int} {y3 : Int} {h : vH} (s1 : shDirections h y2) (p2 : 0 ≤ y1) (p3 : ¬ (y1 % 2 = max y0 0) → y1 + 1 < 2147483648) (s4 : shDirections h y3) (s5 : shDirections h x0) (s6 : shLayout h x1) : vrun mX0_find 60 [(1, x0), (1, x1), (0, x2), (0, x3)] [(0, y0), (0, y1), (1, y2), (1, y3)] h = vret vrun mX0_find 91 [(1, x0), (1, x1), (0, x2), (0, x3)] [] (vcl mX0_turnDigits [(1, x0)] (vup (vup h 208 y3 0 (if y1 % 2 = max y0 0 then y1 else y1 + 1)) 511 x1 0 (if x2 = (-1) then (vup h 208 y3 0 (if y1 % 2 = max y0 0 then y1 else y1 + 1)) 208 x0 0 else h 511 x1 0))) := by
  refine (rn_iconst (pc := 60) (dd bX0_find dX0_find_60) (by decide)).trans ?_
  refine (rg_max (pc := 61) (dd bX0_find dX0_find_61) rfl ⟨Nat.le_of_ble_eq_true rfl, Nat.le_of_ble_eq_true rfl, Nat.le_of_ble_eq_true rfl⟩).trans ?_
  refine (rg_virtual (pc := 64) (dd bX0_find dX0_find_64) rfl rfl (by decide) (kc := 21) rfl s1.1 (as := [(1, y2), (0, y1), (0, max y0 0)]) rfl ⟨Nat.le_of_ble_eq_true rfl, Nat.le_of_ble_eq_true rfl, Nat.le_of_ble_eq_true rfl, Nat.le_of_ble_eq_true rfl⟩).trans ?_
  refine (vret_v (spX0_leastAbove p2 p3)).trans ?_
  refine (rg_pf (pc := 67) (dd bX0_find dX0_find_67) (ci := 1) (j := 8) rfl (key := 208) rfl (kc := 21) rfl s4.1 rfl (by intro z; cases z) (by decide)).trans ?_
  refine (rn_aload_n (pc := 70) (dd bX0_find dX0_find_70) rfl).trans ?_
  refine (rn_iload_n (pc := 71) (dd bX0_find dX0_find_71) rfl).trans ?_
  refine (rn_iconst (pc := 72) (dd bX0_find dX0_find_72) (by decide)).trans ?_
  have e1 : vrun mX0_find 73 [(1, x0), (1, x1), (0, x2), (0, x3)] [(0, (-1)), (0, x2), (1, x1)] (vup h 208 y3 0 (if y1 % 2 = max y0 0 then y1 else y1 + 1)) = vrun mX0_find 87 [(1, x0), (1, x1), (0, x2), (0, x3)] [(0, (if x2 = (-1) then (vup h 208 y3 0 (if y1 % 2 = max y0 0 then y1 else y1 + 1)) 208 x0 0 else h 511 x1 0)), (1, x1)] (vup h 208 y3 0 (if y1 % 2 = max y0 0 then y1 else y1 + 1)) := by
    refine (rg_icmp_ne (t := 83) (pc := 73) (dd bX0_find dX0_find_73) rfl).trans ?_
    by_cases c1 : x2 = (-1)
    · refine (if_pos c1).trans ?_
      refine (rn_aload_n (pc := 76) (dd bX0_find dX0_find_76) rfl).trans ?_
      refine (rg_gf (pc := 77) (dd bX0_find dX0_find_77) (ci := 1) (j := 8) rfl rfl (key := 208) rfl (kc := 21) rfl ((vup_k (by decide)).trans s5.1) rfl).trans ?_
      refine (rn_goto (t := 87) (pc := 80) (dd bX0_find dX0_find_80) rfl).trans ?_
      refine Eq.trans (b := vrun mX0_find 87 [(1, x0), (1, x1), (0, x2), (0, x3)] [(0, (vup h 208 y3 0 (if y1 % 2 = max y0 0 then y1 else y1 + 1)) 208 x0 0), (1, x1)] (vup h 208 y3 0 (if y1 % 2 = max y0 0 then y1 else y1 + 1))) rfl ?_
      simp only [if_pos c1]
    · refine (if_neg c1).trans ?_
      refine (rn_aload_n (pc := 83) (dd bX0_find dX0_find_83) rfl).trans ?_
      refine (rg_gf (pc := 84) (dd bX0_find dX0_find_84) (ci := 4) (j := 11) rfl rfl (key := 511) rfl (kc := 24) rfl ((vup_k (by decide)).trans s6.1) ((vup_k (by decide)).trans rfl)).trans ?_
      refine Eq.trans (b := vrun mX0_find 87 [(1, x0), (1, x1), (0, x2), (0, x3)] [(0, h 511 x1 0), (1, x1)] (vup h 208 y3 0 (if y1 % 2 = max y0 0 then y1 else y1 + 1))) rfl ?_
      simp only [if_neg c1]
  refine e1.trans ?_
  refine (rg_pf (pc := 87) (dd bX0_find dX0_find_87) (ci := 4) (j := 11) rfl (key := 511) rfl (kc := 24) rfl ((vup_k (by decide)).trans s6.1) rfl (by intro z; cases z) (by decide)).trans ?_
  refine (rn_aload_n (pc := 90) (dd bX0_find dX0_find_90) rfl).trans ?_
  exact rg_virtual (pc := 91) (dd bX0_find dX0_find_91) rfl rfl (by decide) (kc := 21) rfl ((vup_k (by decide)).trans ((vup_k (by decide)).trans s5.1)) (as := [(1, x0)]) rfl ⟨Nat.le_of_ble_eq_true rfl, Nat.le_of_ble_eq_true rfl, Nat.le_of_ble_eq_true rfl, Nat.le_of_ble_eq_true rfl⟩
theorem rX0_find_94 {x0 : Int} {x1 : Int} {x2 : Int} {x3 : Int} {h : vH} (s1 : shDirections h x0) : vrun mX0_find 94 [(1, x0), (1, x1), (0, x2), (0, x3)] [] h = vret vrun mX0_find 95 [(1, x0), (1, x1), (0, x2), (0, x3)] [] (vcl mX0_pairBrackets [(1, x0)] h) := by
  refine (rn_aload_n (pc := 94) (dd bX0_find dX0_find_94) rfl).trans ?_
  exact rg_virtual (pc := 95) (dd bX0_find dX0_find_95) rfl rfl (by decide) (kc := 21) rfl s1.1 (as := [(1, x0)]) rfl ⟨Nat.le_of_ble_eq_true rfl, Nat.le_of_ble_eq_true rfl, Nat.le_of_ble_eq_true rfl, Nat.le_of_ble_eq_true rfl⟩
theorem rX0_find_98 {x0 : Int} {x1 : Int} {x2 : Int} {x3 : Int} {h : vH} (s1 : shDirections h x0) : vrun mX0_find 98 [(1, x0), (1, x1), (0, x2), (0, x3)] [] h = vret vrun mX0_find 99 [(1, x0), (1, x1), (0, x2), (0, x3)] [] (vcl mX0_turnPairs [(1, x0)] h) := by
  refine (rn_aload_n (pc := 98) (dd bX0_find dX0_find_98) rfl).trans ?_
  exact rg_virtual (pc := 99) (dd bX0_find dX0_find_99) rfl rfl (by decide) (kc := 21) rfl s1.1 (as := [(1, x0)]) rfl ⟨Nat.le_of_ble_eq_true rfl, Nat.le_of_ble_eq_true rfl, Nat.le_of_ble_eq_true rfl, Nat.le_of_ble_eq_true rfl⟩
theorem rX0_find_102 {x0 : Int} {x1 : Int} {x2 : Int} {x3 : Int} {h : vH} (s1 : shDirections h x0) : vrun mX0_find 102 [(1, x0), (1, x1), (0, x2), (0, x3)] [] h = vret vrun mX0_find 103 [(1, x0), (1, x1), (0, x2), (0, x3)] [] (vcl mX0_turnNeutral [(1, x0)] h) := by
  refine (rn_aload_n (pc := 102) (dd bX0_find dX0_find_102) rfl).trans ?_
  exact rg_virtual (pc := 103) (dd bX0_find dX0_find_103) rfl rfl (by decide) (kc := 21) rfl s1.1 (as := [(1, x0)]) rfl ⟨Nat.le_of_ble_eq_true rfl, Nat.le_of_ble_eq_true rfl, Nat.le_of_ble_eq_true rfl, Nat.le_of_ble_eq_true rfl⟩
theorem rX0_find_106 {x0 : Int} {x1 : Int} {x2 : Int} {x3 : Int} {h : vH} (s1 : shDirections h x0) : vrun mX0_find 106 [(1, x0), (1, x1), (0, x2), (0, x3)] [] h = vret vrun mX0_find 108 [(1, x0), (1, x1), (0, x2), (0, x3)] [] (vcl mX0_setLevels [(1, x0), (1, x1)] h) := by
  refine (rn_aload_n (pc := 106) (dd bX0_find dX0_find_106) rfl).trans ?_
  refine (rn_aload_n (pc := 107) (dd bX0_find dX0_find_107) rfl).trans ?_
  exact rg_virtual (pc := 108) (dd bX0_find dX0_find_108) rfl rfl (by decide) (kc := 21) rfl s1.1 (as := [(1, x0), (1, x1)]) rfl ⟨Nat.le_of_ble_eq_true rfl, Nat.le_of_ble_eq_true rfl, Nat.le_of_ble_eq_true rfl, Nat.le_of_ble_eq_true rfl⟩
theorem rX0_find_111 {x0 : Int} {x1 : Int} {x2 : Int} {x3 : Int} {h : vH} (p1 : (-2147483648) ≤ x2 + 1) (p2 : x2 + 1 < 2147483648) : vrun mX0_find 111 [(1, x0), (1, x1), (0, x2), (0, x3)] [] h = vrun mX0_find 21 [(1, x0), (1, x1), (0, x2 + 1), (0, x3)] [] h := by
  refine (rg_iinc (pc := 111) (dd bX0_find dX0_find_111) rfl (Nat.le_of_ble_eq_true rfl) p1 p2 rfl).trans ?_
  refine (rn_goto (t := 21) (pc := 114) (dd bX0_find dX0_find_114) rfl).trans ?_
  rfl

