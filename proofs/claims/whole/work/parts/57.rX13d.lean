theorem bX13_levelsOf : vmB mX13_levelsOf = cX13_levelsOf := rfl
theorem rX13_levelsOf_0 {x1 : Int} {x2 : Int} {h : vH} (p1 : 0 ≤ x2) (s2 : shModel h) : vrun mX13_levelsOf 0 [(1, 282), (0, x1), (0, x2), (9, 0)] [] h = vret vrun mX13_levelsOf 6 [(1, 282), (0, x1), (0, x2), (0, x2 % 2)] [] (vcl mX13_pairs [(1, 282), (0, x1)] h) := by
  refine (rn_iload_n (pc := 0) (dd bX13_levelsOf dX13_levelsOf_0) rfl).trans ?_
  refine (rn_iconst (pc := 1) (dd bX13_levelsOf dX13_levelsOf_1) (by decide)).trans ?_
  refine (rg_irem (pc := 2) (dd bX13_levelsOf dX13_levelsOf_2) (by decide) p1).trans ?_
  refine (rn_istore_n (pc := 3) (dd bX13_levelsOf dX13_levelsOf_3) (Nat.le_of_ble_eq_true rfl) rfl).trans ?_
  refine (rn_aload_n (pc := 4) (dd bX13_levelsOf dX13_levelsOf_4) rfl).trans ?_
  refine (rn_iload_n (pc := 5) (dd bX13_levelsOf dX13_levelsOf_5) rfl).trans ?_
  exact rg_virtual (pc := 6) (dd bX13_levelsOf dX13_levelsOf_6) rfl rfl (by decide) (kc := 34) rfl s2.1 (as := [(1, 282), (0, x1)]) rfl ⟨Nat.le_of_ble_eq_true rfl, Nat.le_of_ble_eq_true rfl, Nat.le_of_ble_eq_true rfl, Nat.le_of_ble_eq_true rfl⟩
theorem rX13_levelsOf_9 {x1 : Int} {x2 : Int} {x3 : Int} {h : vH} (s1 : shModel h) : vrun mX13_levelsOf 9 [(1, 282), (0, x1), (0, x2), (0, x3)] [] h = vret vrun mX13_levelsOf 12 [(1, 282), (0, x1), (0, x2), (0, x3)] [] (vcl mX13_strong [(1, 282), (0, x1), (0, x3)] h) := by
  refine (rn_aload_n (pc := 9) (dd bX13_levelsOf dX13_levelsOf_9) rfl).trans ?_
  refine (rn_iload_n (pc := 10) (dd bX13_levelsOf dX13_levelsOf_10) rfl).trans ?_
  refine (rn_iload_n (pc := 11) (dd bX13_levelsOf dX13_levelsOf_11) rfl).trans ?_
  exact rg_virtual (pc := 12) (dd bX13_levelsOf dX13_levelsOf_12) rfl rfl (by decide) (kc := 34) rfl s1.1 (as := [(1, 282), (0, x1), (0, x3)]) rfl ⟨Nat.le_of_ble_eq_true rfl, Nat.le_of_ble_eq_true rfl, Nat.le_of_ble_eq_true rfl, Nat.le_of_ble_eq_true rfl⟩
theorem rX13_levelsOf_15 {x1 : Int} {x2 : Int} {x3 : Int} {h : vH} (s1 : shModel h) : vrun mX13_levelsOf 15 [(1, 282), (0, x1), (0, x2), (0, x3)] [] h = vret vrun mX13_levelsOf 18 [(1, 282), (0, x1), (0, x2), (0, x3)] [] (vcl mX13_brackets [(1, 282), (0, x1), (0, x3)] h) := by
  refine (rn_aload_n (pc := 15) (dd bX13_levelsOf dX13_levelsOf_15) rfl).trans ?_
  refine (rn_iload_n (pc := 16) (dd bX13_levelsOf dX13_levelsOf_16) rfl).trans ?_
  refine (rn_iload_n (pc := 17) (dd bX13_levelsOf dX13_levelsOf_17) rfl).trans ?_
  exact rg_virtual (pc := 18) (dd bX13_levelsOf dX13_levelsOf_18) rfl rfl (by decide) (kc := 34) rfl s1.1 (as := [(1, 282), (0, x1), (0, x3)]) rfl ⟨Nat.le_of_ble_eq_true rfl, Nat.le_of_ble_eq_true rfl, Nat.le_of_ble_eq_true rfl, Nat.le_of_ble_eq_true rfl⟩
theorem rX13_levelsOf_21 {x1 : Int} {x2 : Int} {x3 : Int} {h : vH} (s1 : shModel h) : vrun mX13_levelsOf 21 [(1, 282), (0, x1), (0, x2), (0, x3)] [] h = vret vrun mX13_levelsOf 25 [(1, 282), (0, x1), (0, x2), (0, x3)] [] (vcl mX13_neutral [(1, 282), (0, x1), (0, x3), (0, x2)] h) := by
  refine (rn_aload_n (pc := 21) (dd bX13_levelsOf dX13_levelsOf_21) rfl).trans ?_
  refine (rn_iload_n (pc := 22) (dd bX13_levelsOf dX13_levelsOf_22) rfl).trans ?_
  refine (rn_iload_n (pc := 23) (dd bX13_levelsOf dX13_levelsOf_23) rfl).trans ?_
  refine (rn_iload_n (pc := 24) (dd bX13_levelsOf dX13_levelsOf_24) rfl).trans ?_
  exact rg_virtual (pc := 25) (dd bX13_levelsOf dX13_levelsOf_25) rfl rfl (by decide) (kc := 34) rfl s1.1 (as := [(1, 282), (0, x1), (0, x3), (0, x2)]) rfl ⟨Nat.le_of_ble_eq_true rfl, Nat.le_of_ble_eq_true rfl, Nat.le_of_ble_eq_true rfl, Nat.le_of_ble_eq_true rfl⟩
theorem rX13_levelsOf_28 {x1 : Int} {x2 : Int} {x3 : Int} {h : vH} : vrun mX13_levelsOf 28 [(1, 282), (0, x1), (0, x2), (0, x3)] [] h = some (.inl none, h) := by
  exact rn_return (pc := 28) (dd bX13_levelsOf dX13_levelsOf_28) rfl
theorem bX13_findsLevels : vmB mX13_findsLevels = cX13_findsLevels := rfl
theorem rX13_findsLevels_0 {h : vH} (s1 : shModel h) : vrun mX13_findsLevels 0 [(1, 282), (9, 0), (9, 0), (9, 0)] [] h = vret vrun mX13_findsLevels 1 [(1, 282), (9, 0), (9, 0), (9, 0)] [] (vcl mX13_encloses [(1, 282)] h) := by
  refine (rn_aload_n (pc := 0) (dd bX13_findsLevels dX13_findsLevels_0) rfl).trans ?_
  exact rg_virtual (pc := 1) (dd bX13_findsLevels dX13_findsLevels_1) rfl rfl (by decide) (kc := 34) rfl s1.1 (as := [(1, 282)]) rfl ⟨Nat.le_of_ble_eq_true rfl, Nat.le_of_ble_eq_true rfl, Nat.le_of_ble_eq_true rfl, Nat.le_of_ble_eq_true rfl⟩
theorem rX13_findsLevels_4 {h : vH} (s1 : shModel h) : vrun mX13_findsLevels 4 [(1, 282), (9, 0), (9, 0), (9, 0)] [] h = vret vrun mX13_findsLevels 7 [(1, 282), (9, 0), (9, 0), (9, 0)] [(1, 282)] (vcl mX13_firstWay [(1, 282), (0, (-1))] h) := by
  refine (rn_aload_n (pc := 4) (dd bX13_findsLevels dX13_findsLevels_4) rfl).trans ?_
  refine (rn_aload_n (pc := 5) (dd bX13_findsLevels dX13_findsLevels_5) rfl).trans ?_
  refine (rn_iconst (pc := 6) (dd bX13_findsLevels dX13_findsLevels_6) (by decide)).trans ?_
  exact rg_virtual (pc := 7) (dd bX13_findsLevels dX13_findsLevels_7) rfl rfl (by decide) (kc := 34) rfl s1.1 (as := [(1, 282), (0, (-1))]) rfl ⟨Nat.le_of_ble_eq_true rfl, Nat.le_of_ble_eq_true rfl, Nat.le_of_ble_eq_true rfl, Nat.le_of_ble_eq_true rfl⟩
theorem rX13_findsLevels_10 {y0 : Int} {h : vH} (s1 : shModel h) : vrun mX13_findsLevels 10 [(1, 282), (9, 0), (9, 0), (9, 0)] [(0, y0), (1, 282)] h = vrun mX13_findsLevels 24 [(1, 282), (0, 0), (9, 0), (9, 0)] [] (vup h 1548 282 0 (if y0 = 1 then 1 else 0)) := by
  refine (rn_iconst (pc := 10) (dd bX13_findsLevels dX13_findsLevels_10) (by decide)).trans ?_
  have e1 : vrun mX13_findsLevels 11 [(1, 282), (9, 0), (9, 0), (9, 0)] [(0, 1), (0, y0), (1, 282)] h = vrun mX13_findsLevels 19 [(1, 282), (9, 0), (9, 0), (9, 0)] [(0, (if y0 = 1 then 1 else 0)), (1, 282)] h := by
    refine (rg_icmp_ne (t := 18) (pc := 11) (dd bX13_findsLevels dX13_findsLevels_11) rfl).trans ?_
    by_cases c1 : y0 = 1
    · refine (if_pos c1).trans ?_
      refine (rn_iconst (pc := 14) (dd bX13_findsLevels dX13_findsLevels_14) (by decide)).trans ?_
      refine (rn_goto (t := 19) (pc := 15) (dd bX13_findsLevels dX13_findsLevels_15) rfl).trans ?_
      refine Eq.trans (b := vrun mX13_findsLevels 19 [(1, 282), (9, 0), (9, 0), (9, 0)] [(0, 1), (1, 282)] h) rfl ?_
      simp only [c1, true_or, false_or, or_true, or_false, true_and, false_and, and_true, and_false, not_true_eq_false, not_false_eq_true, ne_eq, if_true, if_false, ↓reduceIte]
    · refine (if_neg c1).trans ?_
      refine (rn_iconst (pc := 18) (dd bX13_findsLevels dX13_findsLevels_18) (by decide)).trans ?_
      refine Eq.trans (b := vrun mX13_findsLevels 19 [(1, 282), (9, 0), (9, 0), (9, 0)] [(0, 0), (1, 282)] h) rfl ?_
      simp only [c1, true_or, false_or, or_true, or_false, true_and, false_and, and_true, and_false, not_true_eq_false, not_false_eq_true, ne_eq, if_true, if_false, ↓reduceIte]
  refine e1.trans ?_
  refine (rg_pf (pc := 19) (dd bX13_findsLevels dX13_findsLevels_19) (ci := 14) (j := 48) rfl (key := 1548) rfl (kc := 34) rfl s1.1 rfl (by intro z; cases z) (by decide)).trans ?_
  refine (rn_iconst (pc := 22) (dd bX13_findsLevels dX13_findsLevels_22) (by decide)).trans ?_
  refine (rn_istore_n (pc := 23) (dd bX13_findsLevels dX13_findsLevels_23) (Nat.le_of_ble_eq_true rfl) rfl).trans ?_
  rfl
theorem rX13_findsLevels_24 {x1 : Int} {h : vH} (s1 : shModel h) (p2 : ¬ (h 1540 282 0 ≤ x1) → 0 ≤ x1) (p3 : ¬ (h 1540 282 0 ≤ x1) → x1 < 141) : vrun mX13_findsLevels 24 [(1, 282), (0, x1), (9, 0), (9, 0)] [] h = if h 1540 282 0 ≤ x1 then vret vrun mX13_findsLevels 51 [(1, 282), (0, x1), (9, 0), (9, 0)] [] (vcl mX13_levelsOf [(1, 282), (0, (-1)), (0, h 1548 282 0)] h) else vrun mX13_findsLevels 24 [(1, 282), (0, x1 + 1), (9, 0), (9, 0)] [] (vup h 2 324 x1 (-1)) := by
  refine (rn_iload_n (pc := 24) (dd bX13_findsLevels dX13_findsLevels_24) rfl).trans ?_
  refine (rn_aload_n (pc := 25) (dd bX13_findsLevels dX13_findsLevels_25) rfl).trans ?_
  refine (rg_gf (pc := 26) (dd bX13_findsLevels dX13_findsLevels_26) (ci := 14) (j := 40) rfl rfl (key := 1540) rfl (kc := 34) rfl s1.1 rfl).trans ?_
  refine (rn_icmp_ge (t := 45) (pc := 29) (dd bX13_findsLevels dX13_findsLevels_29) rfl).trans (itec (fun c1 => ?_) (fun c1 => ?_))
  · refine (rn_aload_n (pc := 45) (dd bX13_findsLevels dX13_findsLevels_45) rfl).trans ?_
    refine (rn_iconst (pc := 46) (dd bX13_findsLevels dX13_findsLevels_46) (by decide)).trans ?_
    refine (rn_aload_n (pc := 47) (dd bX13_findsLevels dX13_findsLevels_47) rfl).trans ?_
    refine (rg_gf (pc := 48) (dd bX13_findsLevels dX13_findsLevels_48) (ci := 14) (j := 48) rfl rfl (key := 1548) rfl (kc := 34) rfl s1.1 rfl).trans ?_
    exact rg_virtual (pc := 51) (dd bX13_findsLevels dX13_findsLevels_51) rfl rfl (by decide) (kc := 34) rfl s1.1 (as := [(1, 282), (0, (-1)), (0, h 1548 282 0)]) rfl ⟨Nat.le_of_ble_eq_true rfl, Nat.le_of_ble_eq_true rfl, Nat.le_of_ble_eq_true rfl, Nat.le_of_ble_eq_true rfl⟩
  · refine (rn_aload_n (pc := 32) (dd bX13_findsLevels dX13_findsLevels_32) rfl).trans ?_
    refine (rg_gf (pc := 33) (dd bX13_findsLevels dX13_findsLevels_33) (ci := 14) (j := 46) rfl rfl (key := 1546) rfl (kc := 34) rfl s1.1 s1.2.2.2.2.2.2.2.2.2.2.2.2.2.2.2.2.2.2.2.2.2.2.2.2.2.2.2.2.2.2.2.2.2.2.2.2.2.2.2.2.2.2.2.2.2.2.2.2.2.2.2.2.2.2.2.2.2.2.2.2.2.2.2.2.2.2.2.2.2.2.2.2.2.2.2.2.2.2.2.2.2.2.2.2.2.2.2.2.2.2.2.2.2.2.2.2.2.2.2.2.2.2.2.2.2.2.2.2.2.2.2.2.2.2.2.2.2.2.2.2.2.2.2.2.1).trans ?_
    refine (rn_iload_n (pc := 36) (dd bX13_findsLevels dX13_findsLevels_36) rfl).trans ?_
    refine (rn_iconst (pc := 37) (dd bX13_findsLevels dX13_findsLevels_37) (by decide)).trans ?_
    refine (rg_iastore (pc := 38) (dd bX13_findsLevels dX13_findsLevels_38) s1.2.2.2.2.2.2.2.2.2.2.2.2.2.2.2.2.2.2.2.2.2.2.2.2.2.2.2.2.2.2.2.2.2.2.2.2.2.2.2.2.2.2.2.2.2.2.2.2.2.2.2.2.2.2.2.2.2.2.2.2.2.2.2.2.2.2.2.2.2.2.2.2.2.2.2.2.2.2.2.2.2.2.2.2.2.2.2.2.2.2.2.2.2.2.2.2.2.2.2.2.2.2.2.2.2.2.2.2.2.2.2.2.2.2.2.2.2.2.2.2.2.2.2.2.2.1 s1.2.2.2.2.2.2.2.2.2.2.2.2.2.2.2.2.2.2.2.2.2.2.2.2.2.2.2.2.2.2.2.2.2.2.2.2.2.2.2.2.2.2.2.2.2.2.2.2.2.2.2.2.2.2.2.2.2.2.2.2.2.2.2.2.2.2.2.2.2.2.2.2.2.2.2.2.2.2.2.2.2.2.2.2.2.2.2.2.2.2.2.2.2.2.2.2.2.2.2.2.2.2.2.2.2.2.2.2.2.2.2.2.2.2.2.2.2.2.2.2.2.2.2.2.2.2.1 (p2 c1) (p3 c1)).trans ?_
    refine (rg_iinc (pc := 39) (dd bX13_findsLevels dX13_findsLevels_39) rfl (Nat.le_of_ble_eq_true rfl) (by have z0 := p2 c1; have z1 := p3 c1; omega) (by have z0 := p2 c1; have z1 := p3 c1; omega) rfl).trans ?_
    refine (rn_goto (t := 24) (pc := 42) (dd bX13_findsLevels dX13_findsLevels_42) rfl).trans ?_
    rfl
theorem rX13_findsLevels_54 {x1 : Int} {h : vH} : vrun mX13_findsLevels 54 [(1, 282), (0, x1), (9, 0), (9, 0)] [] h = vrun mX13_findsLevels 56 [(1, 282), (0, 0), (9, 0), (9, 0)] [] h := by
  refine (rn_iconst (pc := 54) (dd bX13_findsLevels dX13_findsLevels_54) (by decide)).trans ?_
  refine (rn_istore_n (pc := 55) (dd bX13_findsLevels dX13_findsLevels_55) (Nat.le_of_ble_eq_true rfl) rfl).trans ?_
  rfl
theorem rX13_findsLevels_56 {x1 : Int} {v2 : vv} {v3 : vv} {h : vH} (s1 : shModel h) (p2 : ¬ (h 1540 282 0 ≤ x1) → 0 ≤ x1) (p3 : ¬ (h 1540 282 0 ≤ x1) → x1 < 140) (p4 : ¬ (h 1540 282 0 ≤ x1) → h 2 311 x1 = 60 → ¬ (h 2 323 x1 = (-1)) → ¬ (h 2 322 x1 = (-1)) → 0 ≤ h 2 322 x1) (p5 : ¬ (h 1540 282 0 ≤ x1) → h 2 311 x1 = 60 → ¬ (h 2 323 x1 = (-1)) → ¬ (h 2 322 x1 = (-1)) → h 2 322 x1 < 141) : vrun mX13_findsLevels 56 [(1, 282), (0, x1), v2, v3] [] h = if h 1540 282 0 ≤ x1 then some (.inl none, h) else if h 2 311 x1 = 60 then if h 2 323 x1 = (-1) then vrun mX13_findsLevels 56 [(1, 282), (0, x1 + 1), v2, v3] [] h else vret vrun mX13_findsLevels 116 [(1, 282), (0, x1), (0, (if h 2 322 x1 = (-1) then h 1548 282 0 else h 2 324 (h 2 322 x1))), v3] [] (vcl mX13_firstWay [(1, 282), (0, x1)] h) else vrun mX13_findsLevels 56 [(1, 282), (0, x1 + 1), v2, v3] [] h := by
  refine (rn_iload_n (pc := 56) (dd bX13_findsLevels dX13_findsLevels_56) rfl).trans ?_
  refine (rn_aload_n (pc := 57) (dd bX13_findsLevels dX13_findsLevels_57) rfl).trans ?_
  refine (rg_gf (pc := 58) (dd bX13_findsLevels dX13_findsLevels_58) (ci := 14) (j := 40) rfl rfl (key := 1540) rfl (kc := 34) rfl s1.1 rfl).trans ?_
  refine (rn_icmp_ge (t := 163) (pc := 61) (dd bX13_findsLevels dX13_findsLevels_61) rfl).trans (itec (fun c1 => ?_) (fun c1 => ?_))
  · exact rn_return (pc := 163) (dd bX13_findsLevels dX13_findsLevels_163) rfl
  · refine (rn_aload_n (pc := 64) (dd bX13_findsLevels dX13_findsLevels_64) rfl).trans ?_
    refine (rg_gf (pc := 65) (dd bX13_findsLevels dX13_findsLevels_65) (ci := 14) (j := 30) rfl rfl (key := 1530) rfl (kc := 34) rfl s1.1 s1.2.2.2.2.2.2.2.2.2.2.2.2.2.2.2.2.2.2.2.2.2.2.2.2.2.2.2.2.2.2.2.2.2.2.2.2.2.2.2.2.2.2.2.2.2.2.2.2.2.2.2.2.2.2.2.2.2.2.2.2.2.2.2.2.2.2.2.2.2.2.2.2.2.2.2.2.2.2.2.2.2.2.2.2.2.1).trans ?_
    refine (rn_iload_n (pc := 68) (dd bX13_findsLevels dX13_findsLevels_68) rfl).trans ?_
    refine (rg_iaload (pc := 69) (dd bX13_findsLevels dX13_findsLevels_69) s1.2.2.2.2.2.2.2.2.2.2.2.2.2.2.2.2.2.2.2.2.2.2.2.2.2.2.2.2.2.2.2.2.2.2.2.2.2.2.2.2.2.2.2.2.2.2.2.2.2.2.2.2.2.2.2.2.2.2.2.2.2.2.2.2.2.2.2.2.2.2.2.2.2.2.2.2.2.2.2.2.2.2.2.2.2.2.1 s1.2.2.2.2.2.2.2.2.2.2.2.2.2.2.2.2.2.2.2.2.2.2.2.2.2.2.2.2.2.2.2.2.2.2.2.2.2.2.2.2.2.2.2.2.2.2.2.2.2.2.2.2.2.2.2.2.2.2.2.2.2.2.2.2.2.2.2.2.2.2.2.2.2.2.2.2.2.2.2.2.2.2.2.2.2.2.2.1 (p2 c1) (p3 c1) rfl).trans ?_
    refine (rn_bipush (pc := 70) (dd bX13_findsLevels dX13_findsLevels_70) (by decide)).trans ?_
    refine (rg_icmp_ne (t := 157) (pc := 72) (dd bX13_findsLevels dX13_findsLevels_72) rfl).trans (itec (fun c2 => ?_) (fun c2 => ?_))
    · refine (rn_aload_n (pc := 75) (dd bX13_findsLevels dX13_findsLevels_75) rfl).trans ?_
      refine (rg_gf (pc := 76) (dd bX13_findsLevels dX13_findsLevels_76) (ci := 14) (j := 45) rfl rfl (key := 1545) rfl (kc := 34) rfl s1.1 s1.2.2.2.2.2.2.2.2.2.2.2.2.2.2.2.2.2.2.2.2.2.2.2.2.2.2.2.2.2.2.2.2.2.2.2.2.2.2.2.2.2.2.2.2.2.2.2.2.2.2.2.2.2.2.2.2.2.2.2.2.2.2.2.2.2.2.2.2.2.2.2.2.2.2.2.2.2.2.2.2.2.2.2.2.2.2.2.2.2.2.2.2.2.2.2.2.2.2.2.2.2.2.2.2.2.2.2.2.2.2.2.2.2.2.2.2.2.2.2.2.2.1).trans ?_
      refine (rn_iload_n (pc := 79) (dd bX13_findsLevels dX13_findsLevels_79) rfl).trans ?_
      refine (rg_iaload (pc := 80) (dd bX13_findsLevels dX13_findsLevels_80) s1.2.2.2.2.2.2.2.2.2.2.2.2.2.2.2.2.2.2.2.2.2.2.2.2.2.2.2.2.2.2.2.2.2.2.2.2.2.2.2.2.2.2.2.2.2.2.2.2.2.2.2.2.2.2.2.2.2.2.2.2.2.2.2.2.2.2.2.2.2.2.2.2.2.2.2.2.2.2.2.2.2.2.2.2.2.2.2.2.2.2.2.2.2.2.2.2.2.2.2.2.2.2.2.2.2.2.2.2.2.2.2.2.2.2.2.2.2.2.2.2.2.2.1 s1.2.2.2.2.2.2.2.2.2.2.2.2.2.2.2.2.2.2.2.2.2.2.2.2.2.2.2.2.2.2.2.2.2.2.2.2.2.2.2.2.2.2.2.2.2.2.2.2.2.2.2.2.2.2.2.2.2.2.2.2.2.2.2.2.2.2.2.2.2.2.2.2.2.2.2.2.2.2.2.2.2.2.2.2.2.2.2.2.2.2.2.2.2.2.2.2.2.2.2.2.2.2.2.2.2.2.2.2.2.2.2.2.2.2.2.2.2.2.2.2.2.2.2.1 (by have z0 := p2 c1; have z1 := p3 c1; omega) (by have z0 := p2 c1; have z1 := p3 c1; omega) rfl).trans ?_
      refine (rn_iconst (pc := 81) (dd bX13_findsLevels dX13_findsLevels_81) (by decide)).trans ?_
      refine (rn_icmp_eq (t := 157) (pc := 82) (dd bX13_findsLevels dX13_findsLevels_82) rfl).trans (itec (fun c3 => ?_) (fun c3 => ?_))
      · refine (rg_iinc (pc := 157) (dd bX13_findsLevels dX13_findsLevels_157) rfl (Nat.le_of_ble_eq_true rfl) (by have z0 := p2 c1; have z1 := p3 c1; omega) (by have z0 := p2 c1; have z1 := p3 c1; omega) rfl).trans ?_
        refine (rn_goto (t := 56) (pc := 160) (dd bX13_findsLevels dX13_findsLevels_160) rfl).trans ?_
        rfl
      · refine (rn_aload_n (pc := 85) (dd bX13_findsLevels dX13_findsLevels_85) rfl).trans ?_
        refine (rg_gf (pc := 86) (dd bX13_findsLevels dX13_findsLevels_86) (ci := 14) (j := 44) rfl rfl (key := 1544) rfl (kc := 34) rfl s1.1 s1.2.2.2.2.2.2.2.2.2.2.2.2.2.2.2.2.2.2.2.2.2.2.2.2.2.2.2.2.2.2.2.2.2.2.2.2.2.2.2.2.2.2.2.2.2.2.2.2.2.2.2.2.2.2.2.2.2.2.2.2.2.2.2.2.2.2.2.2.2.2.2.2.2.2.2.2.2.2.2.2.2.2.2.2.2.2.2.2.2.2.2.2.2.2.2.2.2.2.2.2.2.2.2.2.2.2.2.2.2.2.2.2.2.2.2.2.2.2.1).trans ?_
        refine (rn_iload_n (pc := 89) (dd bX13_findsLevels dX13_findsLevels_89) rfl).trans ?_
        refine (rg_iaload (pc := 90) (dd bX13_findsLevels dX13_findsLevels_90) s1.2.2.2.2.2.2.2.2.2.2.2.2.2.2.2.2.2.2.2.2.2.2.2.2.2.2.2.2.2.2.2.2.2.2.2.2.2.2.2.2.2.2.2.2.2.2.2.2.2.2.2.2.2.2.2.2.2.2.2.2.2.2.2.2.2.2.2.2.2.2.2.2.2.2.2.2.2.2.2.2.2.2.2.2.2.2.2.2.2.2.2.2.2.2.2.2.2.2.2.2.2.2.2.2.2.2.2.2.2.2.2.2.2.2.2.2.2.2.2.1 s1.2.2.2.2.2.2.2.2.2.2.2.2.2.2.2.2.2.2.2.2.2.2.2.2.2.2.2.2.2.2.2.2.2.2.2.2.2.2.2.2.2.2.2.2.2.2.2.2.2.2.2.2.2.2.2.2.2.2.2.2.2.2.2.2.2.2.2.2.2.2.2.2.2.2.2.2.2.2.2.2.2.2.2.2.2.2.2.2.2.2.2.2.2.2.2.2.2.2.2.2.2.2.2.2.2.2.2.2.2.2.2.2.2.2.2.2.2.2.2.2.1 (by have z0 := p2 c1; have z1 := p3 c1; omega) (by have z0 := p2 c1; have z1 := p3 c1; omega) rfl).trans ?_
        refine (rn_iconst (pc := 91) (dd bX13_findsLevels dX13_findsLevels_91) (by decide)).trans ?_
        have e1 : vrun mX13_findsLevels 92 [(1, 282), (0, x1), v2, v3] [(0, (-1)), (0, h 2 322 x1)] h = vrun mX13_findsLevels 113 [(1, 282), (0, x1), v2, v3] [(0, (if h 2 322 x1 = (-1) then h 1548 282 0 else h 2 324 (h 2 322 x1)))] h := by
          refine (rg_icmp_ne (t := 102) (pc := 92) (dd bX13_findsLevels dX13_findsLevels_92) rfl).trans ?_
          by_cases c4 : h 2 322 x1 = (-1)
          · refine (if_pos c4).trans ?_
            refine (rn_aload_n (pc := 95) (dd bX13_findsLevels dX13_findsLevels_95) rfl).trans ?_
            refine (rg_gf (pc := 96) (dd bX13_findsLevels dX13_findsLevels_96) (ci := 14) (j := 48) rfl rfl (key := 1548) rfl (kc := 34) rfl s1.1 rfl).trans ?_
            refine (rn_goto (t := 113) (pc := 99) (dd bX13_findsLevels dX13_findsLevels_99) rfl).trans ?_
            refine Eq.trans (b := vrun mX13_findsLevels 113 [(1, 282), (0, x1), v2, v3] [(0, h 1548 282 0)] h) rfl ?_
            simp only [if_pos c4]
          · refine (if_neg c4).trans ?_
            refine (rn_aload_n (pc := 102) (dd bX13_findsLevels dX13_findsLevels_102) rfl).trans ?_
            refine (rg_gf (pc := 103) (dd bX13_findsLevels dX13_findsLevels_103) (ci := 14) (j := 46) rfl rfl (key := 1546) rfl (kc := 34) rfl s1.1 s1.2.2.2.2.2.2.2.2.2.2.2.2.2.2.2.2.2.2.2.2.2.2.2.2.2.2.2.2.2.2.2.2.2.2.2.2.2.2.2.2.2.2.2.2.2.2.2.2.2.2.2.2.2.2.2.2.2.2.2.2.2.2.2.2.2.2.2.2.2.2.2.2.2.2.2.2.2.2.2.2.2.2.2.2.2.2.2.2.2.2.2.2.2.2.2.2.2.2.2.2.2.2.2.2.2.2.2.2.2.2.2.2.2.2.2.2.2.2.2.2.2.2.2.2.1).trans ?_
            refine (rn_aload_n (pc := 106) (dd bX13_findsLevels dX13_findsLevels_106) rfl).trans ?_
            refine (rg_gf (pc := 107) (dd bX13_findsLevels dX13_findsLevels_107) (ci := 14) (j := 44) rfl rfl (key := 1544) rfl (kc := 34) rfl s1.1 s1.2.2.2.2.2.2.2.2.2.2.2.2.2.2.2.2.2.2.2.2.2.2.2.2.2.2.2.2.2.2.2.2.2.2.2.2.2.2.2.2.2.2.2.2.2.2.2.2.2.2.2.2.2.2.2.2.2.2.2.2.2.2.2.2.2.2.2.2.2.2.2.2.2.2.2.2.2.2.2.2.2.2.2.2.2.2.2.2.2.2.2.2.2.2.2.2.2.2.2.2.2.2.2.2.2.2.2.2.2.2.2.2.2.2.2.2.2.2.1).trans ?_
            refine (rn_iload_n (pc := 110) (dd bX13_findsLevels dX13_findsLevels_110) rfl).trans ?_
            refine (rg_iaload (pc := 111) (dd bX13_findsLevels dX13_findsLevels_111) s1.2.2.2.2.2.2.2.2.2.2.2.2.2.2.2.2.2.2.2.2.2.2.2.2.2.2.2.2.2.2.2.2.2.2.2.2.2.2.2.2.2.2.2.2.2.2.2.2.2.2.2.2.2.2.2.2.2.2.2.2.2.2.2.2.2.2.2.2.2.2.2.2.2.2.2.2.2.2.2.2.2.2.2.2.2.2.2.2.2.2.2.2.2.2.2.2.2.2.2.2.2.2.2.2.2.2.2.2.2.2.2.2.2.2.2.2.2.2.2.1 s1.2.2.2.2.2.2.2.2.2.2.2.2.2.2.2.2.2.2.2.2.2.2.2.2.2.2.2.2.2.2.2.2.2.2.2.2.2.2.2.2.2.2.2.2.2.2.2.2.2.2.2.2.2.2.2.2.2.2.2.2.2.2.2.2.2.2.2.2.2.2.2.2.2.2.2.2.2.2.2.2.2.2.2.2.2.2.2.2.2.2.2.2.2.2.2.2.2.2.2.2.2.2.2.2.2.2.2.2.2.2.2.2.2.2.2.2.2.2.2.2.1 (by have z0 := p2 c1; have z1 := p3 c1; omega) (by have z0 := p2 c1; have z1 := p3 c1; omega) rfl).trans ?_
            refine (rg_iaload (pc := 112) (dd bX13_findsLevels dX13_findsLevels_112) s1.2.2.2.2.2.2.2.2.2.2.2.2.2.2.2.2.2.2.2.2.2.2.2.2.2.2.2.2.2.2.2.2.2.2.2.2.2.2.2.2.2.2.2.2.2.2.2.2.2.2.2.2.2.2.2.2.2.2.2.2.2.2.2.2.2.2.2.2.2.2.2.2.2.2.2.2.2.2.2.2.2.2.2.2.2.2.2.2.2.2.2.2.2.2.2.2.2.2.2.2.2.2.2.2.2.2.2.2.2.2.2.2.2.2.2.2.2.2.2.2.2.2.2.2.2.1 s1.2.2.2.2.2.2.2.2.2.2.2.2.2.2.2.2.2.2.2.2.2.2.2.2.2.2.2.2.2.2.2.2.2.2.2.2.2.2.2.2.2.2.2.2.2.2.2.2.2.2.2.2.2.2.2.2.2.2.2.2.2.2.2.2.2.2.2.2.2.2.2.2.2.2.2.2.2.2.2.2.2.2.2.2.2.2.2.2.2.2.2.2.2.2.2.2.2.2.2.2.2.2.2.2.2.2.2.2.2.2.2.2.2.2.2.2.2.2.2.2.2.2.2.2.2.2.1 (p4 c1 c2 c3 c4) (p5 c1 c2 c3 c4) rfl).trans ?_
            refine Eq.trans (b := vrun mX13_findsLevels 113 [(1, 282), (0, x1), v2, v3] [(0, h 2 324 (h 2 322 x1))] h) rfl ?_
            simp only [if_neg c4]
        refine e1.trans ?_
        refine (rn_istore_n (pc := 113) (dd bX13_findsLevels dX13_findsLevels_113) (Nat.le_of_ble_eq_true rfl) rfl).trans ?_
        refine (rn_aload_n (pc := 114) (dd bX13_findsLevels dX13_findsLevels_114) rfl).trans ?_
        refine (rn_iload_n (pc := 115) (dd bX13_findsLevels dX13_findsLevels_115) rfl).trans ?_
        exact rg_virtual (pc := 116) (dd bX13_findsLevels dX13_findsLevels_116) rfl rfl (by decide) (kc := 34) rfl s1.1 (as := [(1, 282), (0, x1)]) rfl ⟨Nat.le_of_ble_eq_true rfl, Nat.le_of_ble_eq_true rfl, Nat.le_of_ble_eq_true rfl, Nat.le_of_ble_eq_true rfl⟩
    · refine (rg_iinc (pc := 157) (dd bX13_findsLevels dX13_findsLevels_157) rfl (Nat.le_of_ble_eq_true rfl) (by have z0 := p2 c1; have z1 := p3 c1; omega) (by have z0 := p2 c1; have z1 := p3 c1; omega) rfl).trans ?_
      refine (rn_goto (t := 56) (pc := 160) (dd bX13_findsLevels dX13_findsLevels_160) rfl).trans ?_
      rfl
theorem rX13_findsLevels_119 {x1 : Int} {x2 : Int} {v3 : vv} {y0 : Int} {h : vH} (s1 : shModel h) (p2 : (-2147483648) ≤ x2 + 1) (p3 : x2 + 1 < 2147483648) (p4 : x2 + 1 + (if y0 = 1 then 1 else 0) < 2147483648) (p5 : 0 ≤ x2 + 1 + (if y0 = 1 then 1 else 0)) (p6 : x2 + 1 + (x2 + 1 + (if y0 = 1 then 1 else 0)) % 2 < 2147483648) (p7 : 0 ≤ x1) (p8 : x1 < 141) : vrun mX13_findsLevels 119 [(1, 282), (0, x1), (0, x2), v3] [(0, y0)] h = vret vrun mX13_findsLevels 154 [(1, 282), (0, x1), (0, x2), (0, (if y0 = 1 then 1 else 0))] [] (vcl mX13_levelsOf [(1, 282), (0, x1), (0, (vup h 2 324 x1 (x2 + 1 + (x2 + 1 + (if y0 = 1 then 1 else 0)) % 2)) 2 324 x1)] (vup h 2 324 x1 (x2 + 1 + (x2 + 1 + (if y0 = 1 then 1 else 0)) % 2))) := by
  refine (rn_iconst (pc := 119) (dd bX13_findsLevels dX13_findsLevels_119) (by decide)).trans ?_
  have e1 : vrun mX13_findsLevels 120 [(1, 282), (0, x1), (0, x2), v3] [(0, 1), (0, y0)] h = vrun mX13_findsLevels 128 [(1, 282), (0, x1), (0, x2), v3] [(0, (if y0 = 1 then 1 else 0))] h := by
    refine (rg_icmp_ne (t := 127) (pc := 120) (dd bX13_findsLevels dX13_findsLevels_120) rfl).trans ?_
    by_cases c1 : y0 = 1
    · refine (if_pos c1).trans ?_
      refine (rn_iconst (pc := 123) (dd bX13_findsLevels dX13_findsLevels_123) (by decide)).trans ?_
      refine (rn_goto (t := 128) (pc := 124) (dd bX13_findsLevels dX13_findsLevels_124) rfl).trans ?_
      refine Eq.trans (b := vrun mX13_findsLevels 128 [(1, 282), (0, x1), (0, x2), v3] [(0, 1)] h) rfl ?_
      simp only [c1, true_or, false_or, or_true, or_false, true_and, false_and, and_true, and_false, not_true_eq_false, not_false_eq_true, ne_eq, if_true, if_false, ↓reduceIte]
    · refine (if_neg c1).trans ?_
      refine (rn_iconst (pc := 127) (dd bX13_findsLevels dX13_findsLevels_127) (by decide)).trans ?_
      refine Eq.trans (b := vrun mX13_findsLevels 128 [(1, 282), (0, x1), (0, x2), v3] [(0, 0)] h) rfl ?_
      simp only [c1, true_or, false_or, or_true, or_false, true_and, false_and, and_true, and_false, not_true_eq_false, not_false_eq_true, ne_eq, if_true, if_false, ↓reduceIte]
  refine e1.trans ?_
  refine (rn_istore_n (pc := 128) (dd bX13_findsLevels dX13_findsLevels_128) (Nat.le_of_ble_eq_true rfl) rfl).trans ?_
  refine (rn_aload_n (pc := 129) (dd bX13_findsLevels dX13_findsLevels_129) rfl).trans ?_
  refine (rg_gf (pc := 130) (dd bX13_findsLevels dX13_findsLevels_130) (ci := 14) (j := 46) rfl rfl (key := 1546) rfl (kc := 34) rfl s1.1 s1.2.2.2.2.2.2.2.2.2.2.2.2.2.2.2.2.2.2.2.2.2.2.2.2.2.2.2.2.2.2.2.2.2.2.2.2.2.2.2.2.2.2.2.2.2.2.2.2.2.2.2.2.2.2.2.2.2.2.2.2.2.2.2.2.2.2.2.2.2.2.2.2.2.2.2.2.2.2.2.2.2.2.2.2.2.2.2.2.2.2.2.2.2.2.2.2.2.2.2.2.2.2.2.2.2.2.2.2.2.2.2.2.2.2.2.2.2.2.2.2.2.2.2.2.1).trans ?_
  refine (rn_iload_n (pc := 133) (dd bX13_findsLevels dX13_findsLevels_133) rfl).trans ?_
  refine (rn_iload_n (pc := 134) (dd bX13_findsLevels dX13_findsLevels_134) rfl).trans ?_
  refine (rn_iconst (pc := 135) (dd bX13_findsLevels dX13_findsLevels_135) (by decide)).trans ?_
  refine (rg_iadd (pc := 136) (dd bX13_findsLevels dX13_findsLevels_136) p2 p3).trans ?_
  refine (rn_iload_n (pc := 137) (dd bX13_findsLevels dX13_findsLevels_137) rfl).trans ?_
  refine (rn_iconst (pc := 138) (dd bX13_findsLevels dX13_findsLevels_138) (by decide)).trans ?_
  refine (rg_iadd (pc := 139) (dd bX13_findsLevels dX13_findsLevels_139) (by omega) (by omega)).trans ?_
  refine (rn_iload_n (pc := 140) (dd bX13_findsLevels dX13_findsLevels_140) rfl).trans ?_
  refine (rg_iadd (pc := 141) (dd bX13_findsLevels dX13_findsLevels_141) (by omega) p4).trans ?_
  refine (rn_iconst (pc := 142) (dd bX13_findsLevels dX13_findsLevels_142) (by decide)).trans ?_
  refine (rg_irem (pc := 143) (dd bX13_findsLevels dX13_findsLevels_143) (by decide) p5).trans ?_
  refine (rg_iadd (pc := 144) (dd bX13_findsLevels dX13_findsLevels_144) (by omega) p6).trans ?_
  refine (rg_iastore (pc := 145) (dd bX13_findsLevels dX13_findsLevels_145) s1.2.2.2.2.2.2.2.2.2.2.2.2.2.2.2.2.2.2.2.2.2.2.2.2.2.2.2.2.2.2.2.2.2.2.2.2.2.2.2.2.2.2.2.2.2.2.2.2.2.2.2.2.2.2.2.2.2.2.2.2.2.2.2.2.2.2.2.2.2.2.2.2.2.2.2.2.2.2.2.2.2.2.2.2.2.2.2.2.2.2.2.2.2.2.2.2.2.2.2.2.2.2.2.2.2.2.2.2.2.2.2.2.2.2.2.2.2.2.2.2.2.2.2.2.2.1 s1.2.2.2.2.2.2.2.2.2.2.2.2.2.2.2.2.2.2.2.2.2.2.2.2.2.2.2.2.2.2.2.2.2.2.2.2.2.2.2.2.2.2.2.2.2.2.2.2.2.2.2.2.2.2.2.2.2.2.2.2.2.2.2.2.2.2.2.2.2.2.2.2.2.2.2.2.2.2.2.2.2.2.2.2.2.2.2.2.2.2.2.2.2.2.2.2.2.2.2.2.2.2.2.2.2.2.2.2.2.2.2.2.2.2.2.2.2.2.2.2.2.2.2.2.2.2.1 p7 p8).trans ?_
  refine (rn_aload_n (pc := 146) (dd bX13_findsLevels dX13_findsLevels_146) rfl).trans ?_
  refine (rn_iload_n (pc := 147) (dd bX13_findsLevels dX13_findsLevels_147) rfl).trans ?_
  refine (rn_aload_n (pc := 148) (dd bX13_findsLevels dX13_findsLevels_148) rfl).trans ?_
  refine (rg_gf (pc := 149) (dd bX13_findsLevels dX13_findsLevels_149) (ci := 14) (j := 46) rfl rfl (key := 1546) rfl (kc := 34) rfl ((vup_k (by decide)).trans s1.1) ((vup_k (by decide)).trans s1.2.2.2.2.2.2.2.2.2.2.2.2.2.2.2.2.2.2.2.2.2.2.2.2.2.2.2.2.2.2.2.2.2.2.2.2.2.2.2.2.2.2.2.2.2.2.2.2.2.2.2.2.2.2.2.2.2.2.2.2.2.2.2.2.2.2.2.2.2.2.2.2.2.2.2.2.2.2.2.2.2.2.2.2.2.2.2.2.2.2.2.2.2.2.2.2.2.2.2.2.2.2.2.2.2.2.2.2.2.2.2.2.2.2.2.2.2.2.2.2.2.2.2.2.1)).trans ?_
  refine (rn_iload_n (pc := 152) (dd bX13_findsLevels dX13_findsLevels_152) rfl).trans ?_
  refine (rg_iaload (pc := 153) (dd bX13_findsLevels dX13_findsLevels_153) ((vup_k (by decide)).trans s1.2.2.2.2.2.2.2.2.2.2.2.2.2.2.2.2.2.2.2.2.2.2.2.2.2.2.2.2.2.2.2.2.2.2.2.2.2.2.2.2.2.2.2.2.2.2.2.2.2.2.2.2.2.2.2.2.2.2.2.2.2.2.2.2.2.2.2.2.2.2.2.2.2.2.2.2.2.2.2.2.2.2.2.2.2.2.2.2.2.2.2.2.2.2.2.2.2.2.2.2.2.2.2.2.2.2.2.2.2.2.2.2.2.2.2.2.2.2.2.2.2.2.2.2.2.1) ((vup_k (by decide)).trans s1.2.2.2.2.2.2.2.2.2.2.2.2.2.2.2.2.2.2.2.2.2.2.2.2.2.2.2.2.2.2.2.2.2.2.2.2.2.2.2.2.2.2.2.2.2.2.2.2.2.2.2.2.2.2.2.2.2.2.2.2.2.2.2.2.2.2.2.2.2.2.2.2.2.2.2.2.2.2.2.2.2.2.2.2.2.2.2.2.2.2.2.2.2.2.2.2.2.2.2.2.2.2.2.2.2.2.2.2.2.2.2.2.2.2.2.2.2.2.2.2.2.2.2.2.2.2.1) (by omega) (by omega) rfl).trans ?_
  exact rg_virtual (pc := 154) (dd bX13_findsLevels dX13_findsLevels_154) rfl rfl (by decide) (kc := 34) rfl ((vup_k (by decide)).trans s1.1) (as := [(1, 282), (0, x1), (0, (vup h 2 324 x1 (x2 + 1 + (x2 + 1 + (if y0 = 1 then 1 else 0)) % 2)) 2 324 x1)]) rfl ⟨Nat.le_of_ble_eq_true rfl, Nat.le_of_ble_eq_true rfl, Nat.le_of_ble_eq_true rfl, Nat.le_of_ble_eq_true rfl⟩
theorem rX13_findsLevels_157 {x1 : Int} {v2 : vv} {v3 : vv} {h : vH} (p1 : (-2147483648) ≤ x1 + 1) (p2 : x1 + 1 < 2147483648) : vrun mX13_findsLevels 157 [(1, 282), (0, x1), v2, v3] [] h = vrun mX13_findsLevels 56 [(1, 282), (0, x1 + 1), v2, v3] [] h := by
  refine (rg_iinc (pc := 157) (dd bX13_findsLevels dX13_findsLevels_157) rfl (Nat.le_of_ble_eq_true rfl) p1 p2 rfl).trans ?_
  refine (rn_goto (t := 56) (pc := 160) (dd bX13_findsLevels dX13_findsLevels_160) rfl).trans ?_
  rfl
theorem bX13_turns : vmB mX13_turns = cX13_turns := rfl
theorem rX13_turns_0 {x1 : Int} {x2 : Int} {h : vH} (p1 : (-2147483648) ≤ x2 - 1) (p2 : x2 - 1 < 2147483648) : vrun mX13_turns 0 [(1, 282), (0, x1), (0, x2), (9, 0), (9, 0), (9, 0)] [] h = vrun mX13_turns 7 [(1, 282), (0, x1), (0, x2), (0, x1), (0, x2 - 1), (9, 0)] [] h := by
  refine (rn_iload_n (pc := 0) (dd bX13_turns dX13_turns_0) rfl).trans ?_
  refine (rn_istore_n (pc := 1) (dd bX13_turns dX13_turns_1) (Nat.le_of_ble_eq_true rfl) rfl).trans ?_
  refine (rn_iload_n (pc := 2) (dd bX13_turns dX13_turns_2) rfl).trans ?_
  refine (rn_iconst (pc := 3) (dd bX13_turns dX13_turns_3) (by decide)).trans ?_
  refine (rg_isub (pc := 4) (dd bX13_turns dX13_turns_4) p1 p2).trans ?_
  refine (rn_istore (pc := 5) (dd bX13_turns dX13_turns_5) (Nat.le_of_ble_eq_true rfl) rfl).trans ?_
  rfl
theorem rX13_turns_7 {x1 : Int} {x2 : Int} {x3 : Int} {x4 : Int} {v5 : vv} {h : vH} (s1 : shModel h) (p2 : ¬ (x4 ≤ x3) → 0 ≤ x3) (p3 : ¬ (x4 ≤ x3) → x3 < 140) (p4 : ¬ (x4 ≤ x3) → 0 ≤ x4) (p5 : ¬ (x4 ≤ x3) → x4 < 140) : vrun mX13_turns 7 [(1, 282), (0, x1), (0, x2), (0, x3), (0, x4), v5] [] h = if x4 ≤ x3 then some (.inl none, h) else vrun mX13_turns 7 [(1, 282), (0, x1), (0, x2), (0, x3 + 1), (0, x4 + (-1)), (0, h 2 319 x3)] [] (vup (vup h 2 319 x3 (h 2 319 x4)) 2 319 x4 (h 2 319 x3)) := by
  refine (rn_iload_n (pc := 7) (dd bX13_turns dX13_turns_7) rfl).trans ?_
  refine (rn_iload (pc := 8) (dd bX13_turns dX13_turns_8) rfl).trans ?_
  refine (rn_icmp_ge (t := 52) (pc := 10) (dd bX13_turns dX13_turns_10) rfl).trans (itec (fun c1 => ?_) (fun c1 => ?_))
  · exact rn_return (pc := 52) (dd bX13_turns dX13_turns_52) rfl
  · refine (rn_aload_n (pc := 13) (dd bX13_turns dX13_turns_13) rfl).trans ?_
    refine (rg_gf (pc := 14) (dd bX13_turns dX13_turns_14) (ci := 14) (j := 38) rfl rfl (key := 1538) rfl (kc := 34) rfl s1.1 s1.2.2.2.2.2.2.2.2.2.2.2.2.2.2.2.2.2.2.2.2.2.2.2.2.2.2.2.2.2.2.2.2.2.2.2.2.2.2.2.2.2.2.2.2.2.2.2.2.2.2.2.2.2.2.2.2.2.2.2.2.2.2.2.2.2.2.2.2.2.2.2.2.2.2.2.2.2.2.2.2.2.2.2.2.2.2.2.2.2.2.2.2.2.2.2.2.2.2.2.2.2.2.2.2.2.2.2.2.2.1).trans ?_
    refine (rn_iload_n (pc := 17) (dd bX13_turns dX13_turns_17) rfl).trans ?_
    refine (rg_iaload (pc := 18) (dd bX13_turns dX13_turns_18) s1.2.2.2.2.2.2.2.2.2.2.2.2.2.2.2.2.2.2.2.2.2.2.2.2.2.2.2.2.2.2.2.2.2.2.2.2.2.2.2.2.2.2.2.2.2.2.2.2.2.2.2.2.2.2.2.2.2.2.2.2.2.2.2.2.2.2.2.2.2.2.2.2.2.2.2.2.2.2.2.2.2.2.2.2.2.2.2.2.2.2.2.2.2.2.2.2.2.2.2.2.2.2.2.2.2.2.2.2.2.2.1 s1.2.2.2.2.2.2.2.2.2.2.2.2.2.2.2.2.2.2.2.2.2.2.2.2.2.2.2.2.2.2.2.2.2.2.2.2.2.2.2.2.2.2.2.2.2.2.2.2.2.2.2.2.2.2.2.2.2.2.2.2.2.2.2.2.2.2.2.2.2.2.2.2.2.2.2.2.2.2.2.2.2.2.2.2.2.2.2.2.2.2.2.2.2.2.2.2.2.2.2.2.2.2.2.2.2.2.2.2.2.2.2.1 (p2 c1) (p3 c1) rfl).trans ?_
    refine (rn_istore (pc := 19) (dd bX13_turns dX13_turns_19) (Nat.le_of_ble_eq_true rfl) rfl).trans ?_
    refine (rn_aload_n (pc := 21) (dd bX13_turns dX13_turns_21) rfl).trans ?_
    refine (rg_gf (pc := 22) (dd bX13_turns dX13_turns_22) (ci := 14) (j := 38) rfl rfl (key := 1538) rfl (kc := 34) rfl s1.1 s1.2.2.2.2.2.2.2.2.2.2.2.2.2.2.2.2.2.2.2.2.2.2.2.2.2.2.2.2.2.2.2.2.2.2.2.2.2.2.2.2.2.2.2.2.2.2.2.2.2.2.2.2.2.2.2.2.2.2.2.2.2.2.2.2.2.2.2.2.2.2.2.2.2.2.2.2.2.2.2.2.2.2.2.2.2.2.2.2.2.2.2.2.2.2.2.2.2.2.2.2.2.2.2.2.2.2.2.2.2.1).trans ?_
    refine (rn_iload_n (pc := 25) (dd bX13_turns dX13_turns_25) rfl).trans ?_
    refine (rn_aload_n (pc := 26) (dd bX13_turns dX13_turns_26) rfl).trans ?_
    refine (rg_gf (pc := 27) (dd bX13_turns dX13_turns_27) (ci := 14) (j := 38) rfl rfl (key := 1538) rfl (kc := 34) rfl s1.1 s1.2.2.2.2.2.2.2.2.2.2.2.2.2.2.2.2.2.2.2.2.2.2.2.2.2.2.2.2.2.2.2.2.2.2.2.2.2.2.2.2.2.2.2.2.2.2.2.2.2.2.2.2.2.2.2.2.2.2.2.2.2.2.2.2.2.2.2.2.2.2.2.2.2.2.2.2.2.2.2.2.2.2.2.2.2.2.2.2.2.2.2.2.2.2.2.2.2.2.2.2.2.2.2.2.2.2.2.2.2.1).trans ?_
    refine (rn_iload (pc := 30) (dd bX13_turns dX13_turns_30) rfl).trans ?_
    refine (rg_iaload (pc := 32) (dd bX13_turns dX13_turns_32) s1.2.2.2.2.2.2.2.2.2.2.2.2.2.2.2.2.2.2.2.2.2.2.2.2.2.2.2.2.2.2.2.2.2.2.2.2.2.2.2.2.2.2.2.2.2.2.2.2.2.2.2.2.2.2.2.2.2.2.2.2.2.2.2.2.2.2.2.2.2.2.2.2.2.2.2.2.2.2.2.2.2.2.2.2.2.2.2.2.2.2.2.2.2.2.2.2.2.2.2.2.2.2.2.2.2.2.2.2.2.2.1 s1.2.2.2.2.2.2.2.2.2.2.2.2.2.2.2.2.2.2.2.2.2.2.2.2.2.2.2.2.2.2.2.2.2.2.2.2.2.2.2.2.2.2.2.2.2.2.2.2.2.2.2.2.2.2.2.2.2.2.2.2.2.2.2.2.2.2.2.2.2.2.2.2.2.2.2.2.2.2.2.2.2.2.2.2.2.2.2.2.2.2.2.2.2.2.2.2.2.2.2.2.2.2.2.2.2.2.2.2.2.2.2.1 (p4 c1) (p5 c1) rfl).trans ?_
    refine (rg_iastore (pc := 33) (dd bX13_turns dX13_turns_33) s1.2.2.2.2.2.2.2.2.2.2.2.2.2.2.2.2.2.2.2.2.2.2.2.2.2.2.2.2.2.2.2.2.2.2.2.2.2.2.2.2.2.2.2.2.2.2.2.2.2.2.2.2.2.2.2.2.2.2.2.2.2.2.2.2.2.2.2.2.2.2.2.2.2.2.2.2.2.2.2.2.2.2.2.2.2.2.2.2.2.2.2.2.2.2.2.2.2.2.2.2.2.2.2.2.2.2.2.2.2.2.1 s1.2.2.2.2.2.2.2.2.2.2.2.2.2.2.2.2.2.2.2.2.2.2.2.2.2.2.2.2.2.2.2.2.2.2.2.2.2.2.2.2.2.2.2.2.2.2.2.2.2.2.2.2.2.2.2.2.2.2.2.2.2.2.2.2.2.2.2.2.2.2.2.2.2.2.2.2.2.2.2.2.2.2.2.2.2.2.2.2.2.2.2.2.2.2.2.2.2.2.2.2.2.2.2.2.2.2.2.2.2.2.2.1 (by have z0 := p2 c1; have z1 := p3 c1; omega) (by have z0 := p2 c1; have z1 := p3 c1; omega)).trans ?_
    refine (rn_aload_n (pc := 34) (dd bX13_turns dX13_turns_34) rfl).trans ?_
    refine (rg_gf (pc := 35) (dd bX13_turns dX13_turns_35) (ci := 14) (j := 38) rfl rfl (key := 1538) rfl (kc := 34) rfl ((vup_k (by decide)).trans s1.1) ((vup_k (by decide)).trans s1.2.2.2.2.2.2.2.2.2.2.2.2.2.2.2.2.2.2.2.2.2.2.2.2.2.2.2.2.2.2.2.2.2.2.2.2.2.2.2.2.2.2.2.2.2.2.2.2.2.2.2.2.2.2.2.2.2.2.2.2.2.2.2.2.2.2.2.2.2.2.2.2.2.2.2.2.2.2.2.2.2.2.2.2.2.2.2.2.2.2.2.2.2.2.2.2.2.2.2.2.2.2.2.2.2.2.2.2.2.1)).trans ?_
    refine (rn_iload (pc := 38) (dd bX13_turns dX13_turns_38) rfl).trans ?_
    refine (rn_iload (pc := 40) (dd bX13_turns dX13_turns_40) rfl).trans ?_
    refine (rg_iastore (pc := 42) (dd bX13_turns dX13_turns_42) ((vup_k (by decide)).trans s1.2.2.2.2.2.2.2.2.2.2.2.2.2.2.2.2.2.2.2.2.2.2.2.2.2.2.2.2.2.2.2.2.2.2.2.2.2.2.2.2.2.2.2.2.2.2.2.2.2.2.2.2.2.2.2.2.2.2.2.2.2.2.2.2.2.2.2.2.2.2.2.2.2.2.2.2.2.2.2.2.2.2.2.2.2.2.2.2.2.2.2.2.2.2.2.2.2.2.2.2.2.2.2.2.2.2.2.2.2.2.1) ((vup_k (by decide)).trans s1.2.2.2.2.2.2.2.2.2.2.2.2.2.2.2.2.2.2.2.2.2.2.2.2.2.2.2.2.2.2.2.2.2.2.2.2.2.2.2.2.2.2.2.2.2.2.2.2.2.2.2.2.2.2.2.2.2.2.2.2.2.2.2.2.2.2.2.2.2.2.2.2.2.2.2.2.2.2.2.2.2.2.2.2.2.2.2.2.2.2.2.2.2.2.2.2.2.2.2.2.2.2.2.2.2.2.2.2.2.2.2.1) (by have z0 := p4 c1; have z1 := p5 c1; omega) (by have z0 := p4 c1; have z1 := p5 c1; omega)).trans ?_
    refine (rg_iinc (pc := 43) (dd bX13_turns dX13_turns_43) rfl (Nat.le_of_ble_eq_true rfl) (by have z0 := p2 c1; have z1 := p3 c1; omega) (by have z0 := p2 c1; have z1 := p3 c1; omega) rfl).trans ?_
    refine (rg_iinc (pc := 46) (dd bX13_turns dX13_turns_46) rfl (Nat.le_of_ble_eq_true rfl) (by have z0 := p4 c1; have z1 := p5 c1; omega) (by have z0 := p4 c1; have z1 := p5 c1; omega) rfl).trans ?_
    refine (rn_goto (t := 7) (pc := 49) (dd bX13_turns dX13_turns_49) rfl).trans ?_
    rfl
theorem bX13_orders : vmB mX13_orders = cX13_orders := rfl
theorem rX13_orders_0 {x1 : Int} {x2 : Int} {h : vH} (s1 : shModel h) (p2 : 0 ≤ x2) (p3 : x2 < 142) (p4 : x2 + 1 < 142) (p5 : (-2147483648) ≤ h 2 320 (x2 + 1) - 1) (p6 : h 2 320 (x2 + 1) - 1 < 2147483648) : vrun mX13_orders 0 [(1, 282), (0, x1), (0, x2), (9, 0), (9, 0), (9, 0), (9, 0), (9, 0), (9, 0)] [] h = vrun mX13_orders 23 [(1, 282), (0, x1), (0, x2), (0, h 2 320 x2), (0, h 2 320 (x2 + 1)), (0, h 2 320 (x2 + 1) - 1), (9, 0), (9, 0), (9, 0)] [] h := by
  refine (rn_aload_n (pc := 0) (dd bX13_orders dX13_orders_0) rfl).trans ?_
  refine (rg_gf (pc := 1) (dd bX13_orders dX13_orders_1) (ci := 14) (j := 39) rfl rfl (key := 1539) rfl (kc := 34) rfl s1.1 s1.2.2.2.2.2.2.2.2.2.2.2.2.2.2.2.2.2.2.2.2.2.2.2.2.2.2.2.2.2.2.2.2.2.2.2.2.2.2.2.2.2.2.2.2.2.2.2.2.2.2.2.2.2.2.2.2.2.2.2.2.2.2.2.2.2.2.2.2.2.2.2.2.2.2.2.2.2.2.2.2.2.2.2.2.2.2.2.2.2.2.2.2.2.2.2.2.2.2.2.2.2.2.2.2.2.2.2.2.2.2.2.2.1).trans ?_
  refine (rn_iload_n (pc := 4) (dd bX13_orders dX13_orders_4) rfl).trans ?_
  refine (rg_iaload (pc := 5) (dd bX13_orders dX13_orders_5) s1.2.2.2.2.2.2.2.2.2.2.2.2.2.2.2.2.2.2.2.2.2.2.2.2.2.2.2.2.2.2.2.2.2.2.2.2.2.2.2.2.2.2.2.2.2.2.2.2.2.2.2.2.2.2.2.2.2.2.2.2.2.2.2.2.2.2.2.2.2.2.2.2.2.2.2.2.2.2.2.2.2.2.2.2.2.2.2.2.2.2.2.2.2.2.2.2.2.2.2.2.2.2.2.2.2.2.2.2.2.2.2.2.2.1 s1.2.2.2.2.2.2.2.2.2.2.2.2.2.2.2.2.2.2.2.2.2.2.2.2.2.2.2.2.2.2.2.2.2.2.2.2.2.2.2.2.2.2.2.2.2.2.2.2.2.2.2.2.2.2.2.2.2.2.2.2.2.2.2.2.2.2.2.2.2.2.2.2.2.2.2.2.2.2.2.2.2.2.2.2.2.2.2.2.2.2.2.2.2.2.2.2.2.2.2.2.2.2.2.2.2.2.2.2.2.2.2.2.2.2.1 p2 p3 rfl).trans ?_
  refine (rn_istore_n (pc := 6) (dd bX13_orders dX13_orders_6) (Nat.le_of_ble_eq_true rfl) rfl).trans ?_
  refine (rn_aload_n (pc := 7) (dd bX13_orders dX13_orders_7) rfl).trans ?_
  refine (rg_gf (pc := 8) (dd bX13_orders dX13_orders_8) (ci := 14) (j := 39) rfl rfl (key := 1539) rfl (kc := 34) rfl s1.1 s1.2.2.2.2.2.2.2.2.2.2.2.2.2.2.2.2.2.2.2.2.2.2.2.2.2.2.2.2.2.2.2.2.2.2.2.2.2.2.2.2.2.2.2.2.2.2.2.2.2.2.2.2.2.2.2.2.2.2.2.2.2.2.2.2.2.2.2.2.2.2.2.2.2.2.2.2.2.2.2.2.2.2.2.2.2.2.2.2.2.2.2.2.2.2.2.2.2.2.2.2.2.2.2.2.2.2.2.2.2.2.2.2.1).trans ?_
  refine (rn_iload_n (pc := 11) (dd bX13_orders dX13_orders_11) rfl).trans ?_
  refine (rn_iconst (pc := 12) (dd bX13_orders dX13_orders_12) (by decide)).trans ?_
  refine (rg_iadd (pc := 13) (dd bX13_orders dX13_orders_13) (by omega) (by omega)).trans ?_
  refine (rg_iaload (pc := 14) (dd bX13_orders dX13_orders_14) s1.2.2.2.2.2.2.2.2.2.2.2.2.2.2.2.2.2.2.2.2.2.2.2.2.2.2.2.2.2.2.2.2.2.2.2.2.2.2.2.2.2.2.2.2.2.2.2.2.2.2.2.2.2.2.2.2.2.2.2.2.2.2.2.2.2.2.2.2.2.2.2.2.2.2.2.2.2.2.2.2.2.2.2.2.2.2.2.2.2.2.2.2.2.2.2.2.2.2.2.2.2.2.2.2.2.2.2.2.2.2.2.2.2.1 s1.2.2.2.2.2.2.2.2.2.2.2.2.2.2.2.2.2.2.2.2.2.2.2.2.2.2.2.2.2.2.2.2.2.2.2.2.2.2.2.2.2.2.2.2.2.2.2.2.2.2.2.2.2.2.2.2.2.2.2.2.2.2.2.2.2.2.2.2.2.2.2.2.2.2.2.2.2.2.2.2.2.2.2.2.2.2.2.2.2.2.2.2.2.2.2.2.2.2.2.2.2.2.2.2.2.2.2.2.2.2.2.2.2.2.1 (by omega) p4 rfl).trans ?_
  refine (rn_istore (pc := 15) (dd bX13_orders dX13_orders_15) (Nat.le_of_ble_eq_true rfl) rfl).trans ?_
  refine (rn_iload (pc := 17) (dd bX13_orders dX13_orders_17) rfl).trans ?_
  refine (rn_iconst (pc := 19) (dd bX13_orders dX13_orders_19) (by decide)).trans ?_
  refine (rg_isub (pc := 20) (dd bX13_orders dX13_orders_20) p5 p6).trans ?_
  refine (rn_istore (pc := 21) (dd bX13_orders dX13_orders_21) (Nat.le_of_ble_eq_true rfl) rfl).trans ?_
  rfl
theorem rX13_orders_23 {x1 : Int} {x2 : Int} {x3 : Int} {x4 : Int} {x5 : Int} {h : vH} (s1 : shModel h) (p2 : ¬ (x5 < x3) → 0 ≤ x5) (p3 : ¬ (x5 < x3) → x5 < 140) : vrun mX13_orders 23 [(1, 282), (0, x1), (0, x2), (0, x3), (0, x4), (0, x5), (9, 0), (9, 0), (9, 0)] [] h = if x5 < x3 then vrun mX13_orders 61 [(1, 282), (0, x1), (0, x2), (0, x3), (0, x4), (0, 0), (0, x3), (9, 0), (9, 0)] [] h else if fX13_isBlank h x5 = 0 then vrun mX13_orders 61 [(1, 282), (0, x1), (0, x2), (0, x3), (0, x4), (0, 0), (0, x3), (9, 0), (9, 0)] [] h else vrun mX13_orders 23 [(1, 282), (0, x1), (0, x2), (0, x3), (0, x4), (0, x5 + (-1)), (9, 0), (9, 0), (9, 0)] [] (vup h 2 316 x5 (h 1548 282 0)) := by
  refine (rn_iload (pc := 23) (dd bX13_orders dX13_orders_23) rfl).trans ?_
  refine (rn_iload_n (pc := 25) (dd bX13_orders dX13_orders_25) rfl).trans ?_
  refine (rn_icmp_lt (t := 55) (pc := 26) (dd bX13_orders dX13_orders_26) rfl).trans (itec (fun c1 => ?_) (fun c1 => ?_))
  · refine (rn_iconst (pc := 55) (dd bX13_orders dX13_orders_55) (by decide)).trans ?_
    refine (rn_istore (pc := 56) (dd bX13_orders dX13_orders_56) (Nat.le_of_ble_eq_true rfl) rfl).trans ?_
    refine (rn_iload_n (pc := 58) (dd bX13_orders dX13_orders_58) rfl).trans ?_
    refine (rn_istore (pc := 59) (dd bX13_orders dX13_orders_59) (Nat.le_of_ble_eq_true rfl) rfl).trans ?_
    rfl
  · refine (rn_aload_n (pc := 29) (dd bX13_orders dX13_orders_29) rfl).trans ?_
    refine (rn_iload (pc := 30) (dd bX13_orders dX13_orders_30) rfl).trans ?_
    refine (rg_virtual (pc := 32) (dd bX13_orders dX13_orders_32) rfl rfl (by decide) (kc := 34) rfl s1.1 (as := [(1, 282), (0, x5)]) rfl ⟨Nat.le_of_ble_eq_true rfl, Nat.le_of_ble_eq_true rfl, Nat.le_of_ble_eq_true rfl, Nat.le_of_ble_eq_true rfl⟩).trans ?_
    refine (vret_v (spX13_isBlank s1 (p2 c1) (p3 c1))).trans ?_
    refine (rn_if_eq (t := 55) (pc := 35) (dd bX13_orders dX13_orders_35) rfl).trans (itec (fun c2 => ?_) (fun c2 => ?_))
    · refine (rn_iconst (pc := 55) (dd bX13_orders dX13_orders_55) (by decide)).trans ?_
      refine (rn_istore (pc := 56) (dd bX13_orders dX13_orders_56) (Nat.le_of_ble_eq_true rfl) rfl).trans ?_
      refine (rn_iload_n (pc := 58) (dd bX13_orders dX13_orders_58) rfl).trans ?_
      refine (rn_istore (pc := 59) (dd bX13_orders dX13_orders_59) (Nat.le_of_ble_eq_true rfl) rfl).trans ?_
      rfl
    · refine (rn_aload_n (pc := 38) (dd bX13_orders dX13_orders_38) rfl).trans ?_
      refine (rg_gf (pc := 39) (dd bX13_orders dX13_orders_39) (ci := 14) (j := 35) rfl rfl (key := 1535) rfl (kc := 34) rfl s1.1 s1.2.2.2.2.2.2.2.2.2.2.2.2.2.2.2.2.2.2.2.2.2.2.2.2.2.2.2.2.2.2.2.2.2.2.2.2.2.2.2.2.2.2.2.2.2.2.2.2.2.2.2.2.2.2.2.2.2.2.2.2.2.2.2.2.2.2.2.2.2.2.2.2.2.2.2.2.2.2.2.2.2.2.2.2.2.2.2.2.2.2.2.2.2.2.2.2.2.2.2.2.1).trans ?_
      refine (rn_iload (pc := 42) (dd bX13_orders dX13_orders_42) rfl).trans ?_
      refine (rn_aload_n (pc := 44) (dd bX13_orders dX13_orders_44) rfl).trans ?_
      refine (rg_gf (pc := 45) (dd bX13_orders dX13_orders_45) (ci := 14) (j := 48) rfl rfl (key := 1548) rfl (kc := 34) rfl s1.1 rfl).trans ?_
      refine (rg_iastore (pc := 48) (dd bX13_orders dX13_orders_48) s1.2.2.2.2.2.2.2.2.2.2.2.2.2.2.2.2.2.2.2.2.2.2.2.2.2.2.2.2.2.2.2.2.2.2.2.2.2.2.2.2.2.2.2.2.2.2.2.2.2.2.2.2.2.2.2.2.2.2.2.2.2.2.2.2.2.2.2.2.2.2.2.2.2.2.2.2.2.2.2.2.2.2.2.2.2.2.2.2.2.2.2.2.2.2.2.2.2.2.2.2.2.1 s1.2.2.2.2.2.2.2.2.2.2.2.2.2.2.2.2.2.2.2.2.2.2.2.2.2.2.2.2.2.2.2.2.2.2.2.2.2.2.2.2.2.2.2.2.2.2.2.2.2.2.2.2.2.2.2.2.2.2.2.2.2.2.2.2.2.2.2.2.2.2.2.2.2.2.2.2.2.2.2.2.2.2.2.2.2.2.2.2.2.2.2.2.2.2.2.2.2.2.2.2.2.2.1 (by have z0 := p2 c1; have z1 := p3 c1; omega) (by have z0 := p2 c1; have z1 := p3 c1; omega)).trans ?_
      refine (rg_iinc (pc := 49) (dd bX13_orders dX13_orders_49) rfl (Nat.le_of_ble_eq_true rfl) (by have z0 := p2 c1; have z1 := p3 c1; omega) (by have z0 := p2 c1; have z1 := p3 c1; omega) rfl).trans ?_
      refine (rn_goto (t := 23) (pc := 52) (dd bX13_orders dX13_orders_52) rfl).trans ?_
      rfl
theorem rX13_orders_61 {x1 : Int} {x2 : Int} {x3 : Int} {x4 : Int} {x5 : Int} {x6 : Int} {h : vH} (s1 : shModel h) (p2 : ¬ (x4 ≤ x6) → 0 ≤ x6) (p3 : ¬ (x4 ≤ x6) → x6 < 140) : vrun mX13_orders 61 [(1, 282), (0, x1), (0, x2), (0, x3), (0, x4), (0, x5), (0, x6), (9, 0), (9, 0)] [] h = if x4 ≤ x6 then vrun mX13_orders 101 [(1, 282), (0, x1), (0, x2), (0, x3), (0, x4), (0, x5), (0, x5), (9, 0), (9, 0)] [] h else vrun mX13_orders 61 [(1, 282), (0, x1), (0, x2), (0, x3), (0, x4), (0, (if x5 ≤ h 2 316 x6 then h 2 316 x6 else x5)), (0, x6 + 1), (9, 0), (9, 0)] [] (vup h 2 319 x6 x6) := by
  refine (rn_iload (pc := 61) (dd bX13_orders dX13_orders_61) rfl).trans ?_
  refine (rn_iload (pc := 63) (dd bX13_orders dX13_orders_63) rfl).trans ?_
  refine (rn_icmp_ge (t := 97) (pc := 65) (dd bX13_orders dX13_orders_65) rfl).trans (itec (fun c1 => ?_) (fun c1 => ?_))
  · refine (rn_iload (pc := 97) (dd bX13_orders dX13_orders_97) rfl).trans ?_
    refine (rn_istore (pc := 99) (dd bX13_orders dX13_orders_99) (Nat.le_of_ble_eq_true rfl) rfl).trans ?_
    rfl
  · refine (rn_aload_n (pc := 68) (dd bX13_orders dX13_orders_68) rfl).trans ?_
    refine (rg_gf (pc := 69) (dd bX13_orders dX13_orders_69) (ci := 14) (j := 38) rfl rfl (key := 1538) rfl (kc := 34) rfl s1.1 s1.2.2.2.2.2.2.2.2.2.2.2.2.2.2.2.2.2.2.2.2.2.2.2.2.2.2.2.2.2.2.2.2.2.2.2.2.2.2.2.2.2.2.2.2.2.2.2.2.2.2.2.2.2.2.2.2.2.2.2.2.2.2.2.2.2.2.2.2.2.2.2.2.2.2.2.2.2.2.2.2.2.2.2.2.2.2.2.2.2.2.2.2.2.2.2.2.2.2.2.2.2.2.2.2.2.2.2.2.2.1).trans ?_
    refine (rn_iload (pc := 72) (dd bX13_orders dX13_orders_72) rfl).trans ?_
    refine (rn_iload (pc := 74) (dd bX13_orders dX13_orders_74) rfl).trans ?_
    refine (rg_iastore (pc := 76) (dd bX13_orders dX13_orders_76) s1.2.2.2.2.2.2.2.2.2.2.2.2.2.2.2.2.2.2.2.2.2.2.2.2.2.2.2.2.2.2.2.2.2.2.2.2.2.2.2.2.2.2.2.2.2.2.2.2.2.2.2.2.2.2.2.2.2.2.2.2.2.2.2.2.2.2.2.2.2.2.2.2.2.2.2.2.2.2.2.2.2.2.2.2.2.2.2.2.2.2.2.2.2.2.2.2.2.2.2.2.2.2.2.2.2.2.2.2.2.2.1 s1.2.2.2.2.2.2.2.2.2.2.2.2.2.2.2.2.2.2.2.2.2.2.2.2.2.2.2.2.2.2.2.2.2.2.2.2.2.2.2.2.2.2.2.2.2.2.2.2.2.2.2.2.2.2.2.2.2.2.2.2.2.2.2.2.2.2.2.2.2.2.2.2.2.2.2.2.2.2.2.2.2.2.2.2.2.2.2.2.2.2.2.2.2.2.2.2.2.2.2.2.2.2.2.2.2.2.2.2.2.2.2.1 (p2 c1) (p3 c1)).trans ?_
    refine (rn_iload (pc := 77) (dd bX13_orders dX13_orders_77) rfl).trans ?_
    refine (rn_aload_n (pc := 79) (dd bX13_orders dX13_orders_79) rfl).trans ?_
    refine (rg_gf (pc := 80) (dd bX13_orders dX13_orders_80) (ci := 14) (j := 35) rfl rfl (key := 1535) rfl (kc := 34) rfl ((vup_k (by decide)).trans s1.1) ((vup_k (by decide)).trans s1.2.2.2.2.2.2.2.2.2.2.2.2.2.2.2.2.2.2.2.2.2.2.2.2.2.2.2.2.2.2.2.2.2.2.2.2.2.2.2.2.2.2.2.2.2.2.2.2.2.2.2.2.2.2.2.2.2.2.2.2.2.2.2.2.2.2.2.2.2.2.2.2.2.2.2.2.2.2.2.2.2.2.2.2.2.2.2.2.2.2.2.2.2.2.2.2.2.2.2.2.1)).trans ?_
    refine (rn_iload (pc := 83) (dd bX13_orders dX13_orders_83) rfl).trans ?_
    refine (rg_iaload (pc := 85) (dd bX13_orders dX13_orders_85) ((vup_k (by decide)).trans s1.2.2.2.2.2.2.2.2.2.2.2.2.2.2.2.2.2.2.2.2.2.2.2.2.2.2.2.2.2.2.2.2.2.2.2.2.2.2.2.2.2.2.2.2.2.2.2.2.2.2.2.2.2.2.2.2.2.2.2.2.2.2.2.2.2.2.2.2.2.2.2.2.2.2.2.2.2.2.2.2.2.2.2.2.2.2.2.2.2.2.2.2.2.2.2.2.2.2.2.2.2.1) ((vup_k (by decide)).trans s1.2.2.2.2.2.2.2.2.2.2.2.2.2.2.2.2.2.2.2.2.2.2.2.2.2.2.2.2.2.2.2.2.2.2.2.2.2.2.2.2.2.2.2.2.2.2.2.2.2.2.2.2.2.2.2.2.2.2.2.2.2.2.2.2.2.2.2.2.2.2.2.2.2.2.2.2.2.2.2.2.2.2.2.2.2.2.2.2.2.2.2.2.2.2.2.2.2.2.2.2.2.2.1) (by have z0 := p2 c1; have z1 := p3 c1; omega) (by have z0 := p2 c1; have z1 := p3 c1; omega) ((vup_r (by omega)).trans rfl)).trans ?_
    refine (rg_static (pc := 86) (dd bX13_orders dX13_orders_86) rfl (by decide) (Nat.le_of_ble_eq_true rfl) (as := [(0, x5), (0, h 2 316 x6)]) rfl rfl ⟨Nat.le_of_ble_eq_true rfl, Nat.le_of_ble_eq_true rfl, Nat.le_of_ble_eq_true rfl, Nat.le_of_ble_eq_true rfl⟩).trans ?_
    refine (vret_v spX13_greater).trans ?_
    refine (rn_istore (pc := 89) (dd bX13_orders dX13_orders_89) (Nat.le_of_ble_eq_true rfl) rfl).trans ?_
    refine (rg_iinc (pc := 91) (dd bX13_orders dX13_orders_91) rfl (Nat.le_of_ble_eq_true rfl) (by have z0 := p2 c1; have z1 := p3 c1; omega) (by have z0 := p2 c1; have z1 := p3 c1; omega) rfl).trans ?_
    refine (rn_goto (t := 61) (pc := 94) (dd bX13_orders dX13_orders_94) rfl).trans ?_
    rfl
theorem rX13_orders_101 {x1 : Int} {x2 : Int} {x3 : Int} {x4 : Int} {x5 : Int} {x6 : Int} {v7 : vv} {v8 : vv} {h : vH} (s1 : shModel h) (p2 : x6 ≤ 0 → ¬ (x2 = 0) → 0 ≤ x1) (p3 : x6 ≤ 0 → ¬ (x2 = 0) → x1 < 4) : vrun mX13_orders 101 [(1, 282), (0, x1), (0, x2), (0, x3), (0, x4), (0, x5), (0, x6), v7, v8] [] h = if x6 ≤ 0 then vrun mX13_orders 192 [(1, 282), (0, x1), (0, x2), (0, x3), (0, x4), (0, x5), (0, (if x2 = 0 then 0 else h 2 287 x1)), (0, x3), v8] [] h else vrun mX13_orders 109 [(1, 282), (0, x1), (0, x2), (0, x3), (0, x4), (0, x5), (0, x6), (0, x3), v8] [] h := by
  refine (rn_iload (pc := 101) (dd bX13_orders dX13_orders_101) rfl).trans ?_
  refine (rn_if_le (t := 173) (pc := 103) (dd bX13_orders dX13_orders_103) rfl).trans (itec (fun c1 => ?_) (fun c1 => ?_))
  · refine (rn_iload_n (pc := 173) (dd bX13_orders dX13_orders_173) rfl).trans ?_
    have e1 : vrun mX13_orders 174 [(1, 282), (0, x1), (0, x2), (0, x3), (0, x4), (0, x5), (0, x6), v7, v8] [(0, x2)] h = vrun mX13_orders 187 [(1, 282), (0, x1), (0, x2), (0, x3), (0, x4), (0, x5), (0, x6), v7, v8] [(0, (if x2 = 0 then 0 else h 2 287 x1))] h := by
      refine (rg_if_ne (t := 181) (pc := 174) (dd bX13_orders dX13_orders_174) rfl).trans ?_
      by_cases c2 : x2 = 0
      · refine (if_pos c2).trans ?_
        refine (rn_iconst (pc := 177) (dd bX13_orders dX13_orders_177) (by decide)).trans ?_
        refine (rn_goto (t := 187) (pc := 178) (dd bX13_orders dX13_orders_178) rfl).trans ?_
        refine Eq.trans (b := vrun mX13_orders 187 [(1, 282), (0, x1), (0, x2), (0, x3), (0, x4), (0, x5), (0, x6), v7, v8] [(0, 0)] h) rfl ?_
        simp only [if_pos c2]
      · refine (if_neg c2).trans ?_
        refine (rn_aload_n (pc := 181) (dd bX13_orders dX13_orders_181) rfl).trans ?_
        refine (rg_gf (pc := 182) (dd bX13_orders dX13_orders_182) (ci := 14) (j := 6) rfl rfl (key := 1506) rfl (kc := 34) rfl s1.1 s1.2.2.2.2.2.2.2.2.2.2.2.2.2.1).trans ?_
        refine (rn_iload_n (pc := 185) (dd bX13_orders dX13_orders_185) rfl).trans ?_
        refine (rg_iaload (pc := 186) (dd bX13_orders dX13_orders_186) s1.2.2.2.2.2.2.2.2.2.2.2.2.2.2.1 s1.2.2.2.2.2.2.2.2.2.2.2.2.2.2.2.1 (p2 c1 c2) (p3 c1 c2) rfl).trans ?_
        refine Eq.trans (b := vrun mX13_orders 187 [(1, 282), (0, x1), (0, x2), (0, x3), (0, x4), (0, x5), (0, x6), v7, v8] [(0, h 2 287 x1)] h) rfl ?_
        simp only [if_neg c2]
    refine e1.trans ?_
    refine (rn_istore (pc := 187) (dd bX13_orders dX13_orders_187) (Nat.le_of_ble_eq_true rfl) rfl).trans ?_
    refine (rn_iload_n (pc := 189) (dd bX13_orders dX13_orders_189) rfl).trans ?_
    refine (rn_istore (pc := 190) (dd bX13_orders dX13_orders_190) (Nat.le_of_ble_eq_true rfl) rfl).trans ?_
    rfl
  · refine (rn_iload_n (pc := 106) (dd bX13_orders dX13_orders_106) rfl).trans ?_
    refine (rn_istore (pc := 107) (dd bX13_orders dX13_orders_107) (Nat.le_of_ble_eq_true rfl) rfl).trans ?_
    rfl
theorem rX13_orders_192 {x1 : Int} {x2 : Int} {x3 : Int} {x4 : Int} {x5 : Int} {x6 : Int} {x7 : Int} {v8 : vv} {h : vH} (s1 : shModel h) (p2 : ¬ (x4 ≤ x7) → 0 ≤ x7) (p3 : ¬ (x4 ≤ x7) → x7 < 140) (p4 : ¬ (x4 ≤ x7) → 0 ≤ h 2 319 x7) (p5 : ¬ (x4 ≤ x7) → h 2 319 x7 < 140) (p6 : ¬ (x4 ≤ x7) → (-2147483648) ≤ x6 + h 2 315 (h 2 319 x7)) (p7 : ¬ (x4 ≤ x7) → x6 + h 2 315 (h 2 319 x7) < 2147483648) : vrun mX13_orders 192 [(1, 282), (0, x1), (0, x2), (0, x3), (0, x4), (0, x5), (0, x6), (0, x7), v8] [] h = if x4 ≤ x7 then some (.inl none, h) else vrun mX13_orders 192 [(1, 282), (0, x1), (0, x2), (0, x3), (0, x4), (0, x5), (0, x6 + h 2 315 (h 2 319 x7)), (0, x7 + 1), v8] [] (vup h 2 317 (h 2 319 x7) x6) := by
  refine (rn_iload (pc := 192) (dd bX13_orders dX13_orders_192) rfl).trans ?_
  refine (rn_iload (pc := 194) (dd bX13_orders dX13_orders_194) rfl).trans ?_
  refine (rn_icmp_ge (t := 236) (pc := 196) (dd bX13_orders dX13_orders_196) rfl).trans (itec (fun c1 => ?_) (fun c1 => ?_))
  · exact rn_return (pc := 236) (dd bX13_orders dX13_orders_236) rfl
  · refine (rn_aload_n (pc := 199) (dd bX13_orders dX13_orders_199) rfl).trans ?_
    refine (rg_gf (pc := 200) (dd bX13_orders dX13_orders_200) (ci := 14) (j := 36) rfl rfl (key := 1536) rfl (kc := 34) rfl s1.1 s1.2.2.2.2.2.2.2.2.2.2.2.2.2.2.2.2.2.2.2.2.2.2.2.2.2.2.2.2.2.2.2.2.2.2.2.2.2.2.2.2.2.2.2.2.2.2.2.2.2.2.2.2.2.2.2.2.2.2.2.2.2.2.2.2.2.2.2.2.2.2.2.2.2.2.2.2.2.2.2.2.2.2.2.2.2.2.2.2.2.2.2.2.2.2.2.2.2.2.2.2.2.2.2.1).trans ?_
    refine (rn_aload_n (pc := 203) (dd bX13_orders dX13_orders_203) rfl).trans ?_
    refine (rg_gf (pc := 204) (dd bX13_orders dX13_orders_204) (ci := 14) (j := 38) rfl rfl (key := 1538) rfl (kc := 34) rfl s1.1 s1.2.2.2.2.2.2.2.2.2.2.2.2.2.2.2.2.2.2.2.2.2.2.2.2.2.2.2.2.2.2.2.2.2.2.2.2.2.2.2.2.2.2.2.2.2.2.2.2.2.2.2.2.2.2.2.2.2.2.2.2.2.2.2.2.2.2.2.2.2.2.2.2.2.2.2.2.2.2.2.2.2.2.2.2.2.2.2.2.2.2.2.2.2.2.2.2.2.2.2.2.2.2.2.2.2.2.2.2.2.1).trans ?_
    refine (rn_iload (pc := 207) (dd bX13_orders dX13_orders_207) rfl).trans ?_
    refine (rg_iaload (pc := 209) (dd bX13_orders dX13_orders_209) s1.2.2.2.2.2.2.2.2.2.2.2.2.2.2.2.2.2.2.2.2.2.2.2.2.2.2.2.2.2.2.2.2.2.2.2.2.2.2.2.2.2.2.2.2.2.2.2.2.2.2.2.2.2.2.2.2.2.2.2.2.2.2.2.2.2.2.2.2.2.2.2.2.2.2.2.2.2.2.2.2.2.2.2.2.2.2.2.2.2.2.2.2.2.2.2.2.2.2.2.2.2.2.2.2.2.2.2.2.2.2.1 s1.2.2.2.2.2.2.2.2.2.2.2.2.2.2.2.2.2.2.2.2.2.2.2.2.2.2.2.2.2.2.2.2.2.2.2.2.2.2.2.2.2.2.2.2.2.2.2.2.2.2.2.2.2.2.2.2.2.2.2.2.2.2.2.2.2.2.2.2.2.2.2.2.2.2.2.2.2.2.2.2.2.2.2.2.2.2.2.2.2.2.2.2.2.2.2.2.2.2.2.2.2.2.2.2.2.2.2.2.2.2.2.1 (p2 c1) (p3 c1) rfl).trans ?_
    refine (rn_iload (pc := 210) (dd bX13_orders dX13_orders_210) rfl).trans ?_
    refine (rg_iastore (pc := 212) (dd bX13_orders dX13_orders_212) s1.2.2.2.2.2.2.2.2.2.2.2.2.2.2.2.2.2.2.2.2.2.2.2.2.2.2.2.2.2.2.2.2.2.2.2.2.2.2.2.2.2.2.2.2.2.2.2.2.2.2.2.2.2.2.2.2.2.2.2.2.2.2.2.2.2.2.2.2.2.2.2.2.2.2.2.2.2.2.2.2.2.2.2.2.2.2.2.2.2.2.2.2.2.2.2.2.2.2.2.2.2.2.2.2.1 s1.2.2.2.2.2.2.2.2.2.2.2.2.2.2.2.2.2.2.2.2.2.2.2.2.2.2.2.2.2.2.2.2.2.2.2.2.2.2.2.2.2.2.2.2.2.2.2.2.2.2.2.2.2.2.2.2.2.2.2.2.2.2.2.2.2.2.2.2.2.2.2.2.2.2.2.2.2.2.2.2.2.2.2.2.2.2.2.2.2.2.2.2.2.2.2.2.2.2.2.2.2.2.2.2.2.1 (p4 c1) (p5 c1)).trans ?_
    refine (rn_iload (pc := 213) (dd bX13_orders dX13_orders_213) rfl).trans ?_
    refine (rn_aload_n (pc := 215) (dd bX13_orders dX13_orders_215) rfl).trans ?_
    refine (rg_gf (pc := 216) (dd bX13_orders dX13_orders_216) (ci := 14) (j := 34) rfl rfl (key := 1534) rfl (kc := 34) rfl ((vup_k (by decide)).trans s1.1) ((vup_k (by decide)).trans s1.2.2.2.2.2.2.2.2.2.2.2.2.2.2.2.2.2.2.2.2.2.2.2.2.2.2.2.2.2.2.2.2.2.2.2.2.2.2.2.2.2.2.2.2.2.2.2.2.2.2.2.2.2.2.2.2.2.2.2.2.2.2.2.2.2.2.2.2.2.2.2.2.2.2.2.2.2.2.2.2.2.2.2.2.2.2.2.2.2.2.2.2.2.2.2.2.2.1)).trans ?_
    refine (rn_aload_n (pc := 219) (dd bX13_orders dX13_orders_219) rfl).trans ?_
    refine (rg_gf (pc := 220) (dd bX13_orders dX13_orders_220) (ci := 14) (j := 38) rfl rfl (key := 1538) rfl (kc := 34) rfl ((vup_k (by decide)).trans s1.1) ((vup_k (by decide)).trans s1.2.2.2.2.2.2.2.2.2.2.2.2.2.2.2.2.2.2.2.2.2.2.2.2.2.2.2.2.2.2.2.2.2.2.2.2.2.2.2.2.2.2.2.2.2.2.2.2.2.2.2.2.2.2.2.2.2.2.2.2.2.2.2.2.2.2.2.2.2.2.2.2.2.2.2.2.2.2.2.2.2.2.2.2.2.2.2.2.2.2.2.2.2.2.2.2.2.2.2.2.2.2.2.2.2.2.2.2.2.1)).trans ?_
    refine (rn_iload (pc := 223) (dd bX13_orders dX13_orders_223) rfl).trans ?_
    refine (rg_iaload (pc := 225) (dd bX13_orders dX13_orders_225) ((vup_k (by decide)).trans s1.2.2.2.2.2.2.2.2.2.2.2.2.2.2.2.2.2.2.2.2.2.2.2.2.2.2.2.2.2.2.2.2.2.2.2.2.2.2.2.2.2.2.2.2.2.2.2.2.2.2.2.2.2.2.2.2.2.2.2.2.2.2.2.2.2.2.2.2.2.2.2.2.2.2.2.2.2.2.2.2.2.2.2.2.2.2.2.2.2.2.2.2.2.2.2.2.2.2.2.2.2.2.2.2.2.2.2.2.2.2.1) ((vup_k (by decide)).trans s1.2.2.2.2.2.2.2.2.2.2.2.2.2.2.2.2.2.2.2.2.2.2.2.2.2.2.2.2.2.2.2.2.2.2.2.2.2.2.2.2.2.2.2.2.2.2.2.2.2.2.2.2.2.2.2.2.2.2.2.2.2.2.2.2.2.2.2.2.2.2.2.2.2.2.2.2.2.2.2.2.2.2.2.2.2.2.2.2.2.2.2.2.2.2.2.2.2.2.2.2.2.2.2.2.2.2.2.2.2.2.2.1) (by have z0 := p2 c1; have z1 := p3 c1; omega) (by have z0 := p2 c1; have z1 := p3 c1; omega) ((vup_r (by omega)).trans rfl)).trans ?_
    refine (rg_iaload (pc := 226) (dd bX13_orders dX13_orders_226) ((vup_k (by decide)).trans s1.2.2.2.2.2.2.2.2.2.2.2.2.2.2.2.2.2.2.2.2.2.2.2.2.2.2.2.2.2.2.2.2.2.2.2.2.2.2.2.2.2.2.2.2.2.2.2.2.2.2.2.2.2.2.2.2.2.2.2.2.2.2.2.2.2.2.2.2.2.2.2.2.2.2.2.2.2.2.2.2.2.2.2.2.2.2.2.2.2.2.2.2.2.2.2.2.2.2.1) ((vup_k (by decide)).trans s1.2.2.2.2.2.2.2.2.2.2.2.2.2.2.2.2.2.2.2.2.2.2.2.2.2.2.2.2.2.2.2.2.2.2.2.2.2.2.2.2.2.2.2.2.2.2.2.2.2.2.2.2.2.2.2.2.2.2.2.2.2.2.2.2.2.2.2.2.2.2.2.2.2.2.2.2.2.2.2.2.2.2.2.2.2.2.2.2.2.2.2.2.2.2.2.2.2.2.2.1) (by have z0 := p4 c1; have z1 := p5 c1; omega) (by have z0 := p4 c1; have z1 := p5 c1; omega) ((vup_r (by omega)).trans rfl)).trans ?_
    refine (rg_iadd (pc := 227) (dd bX13_orders dX13_orders_227) (p6 c1) (p7 c1)).trans ?_
    refine (rn_istore (pc := 228) (dd bX13_orders dX13_orders_228) (Nat.le_of_ble_eq_true rfl) rfl).trans ?_
    refine (rg_iinc (pc := 230) (dd bX13_orders dX13_orders_230) rfl (Nat.le_of_ble_eq_true rfl) (by have z0 := p2 c1; have z1 := p3 c1; omega) (by have z0 := p2 c1; have z1 := p3 c1; omega) rfl).trans ?_
    refine (rn_goto (t := 192) (pc := 233) (dd bX13_orders dX13_orders_233) rfl).trans ?_
    rfl
theorem rX13_orders_109 {x1 : Int} {x2 : Int} {x3 : Int} {x4 : Int} {x5 : Int} {x6 : Int} {x7 : Int} {v8 : vv} {h : vH} (p1 : x4 ≤ x7 → (-2147483648) ≤ x6 + (-1)) (p2 : x4 ≤ x7 → x6 + (-1) < 2147483648) : vrun mX13_orders 109 [(1, 282), (0, x1), (0, x2), (0, x3), (0, x4), (0, x5), (0, x6), (0, x7), v8] [] h = if x4 ≤ x7 then vrun mX13_orders 101 [(1, 282), (0, x1), (0, x2), (0, x3), (0, x4), (0, x5), (0, x6 + (-1)), (0, x7), v8] [] h else vrun mX13_orders 120 [(1, 282), (0, x1), (0, x2), (0, x3), (0, x4), (0, x5), (0, x6), (0, x7), (0, x7)] [] h := by
  refine (rn_iload (pc := 109) (dd bX13_orders dX13_orders_109) rfl).trans ?_
  refine (rn_iload (pc := 111) (dd bX13_orders dX13_orders_111) rfl).trans ?_
  refine (rn_icmp_ge (t := 167) (pc := 113) (dd bX13_orders dX13_orders_113) rfl).trans (itec (fun c1 => ?_) (fun c1 => ?_))
  · refine (rg_iinc (pc := 167) (dd bX13_orders dX13_orders_167) rfl (Nat.le_of_ble_eq_true rfl) (p1 c1) (p2 c1) rfl).trans ?_
    refine (rn_goto (t := 101) (pc := 170) (dd bX13_orders dX13_orders_170) rfl).trans ?_
    rfl
  · refine (rn_iload (pc := 116) (dd bX13_orders dX13_orders_116) rfl).trans ?_
    refine (rn_istore (pc := 118) (dd bX13_orders dX13_orders_118) (Nat.le_of_ble_eq_true rfl) rfl).trans ?_
    rfl
theorem rX13_orders_120 {x1 : Int} {x2 : Int} {x3 : Int} {x4 : Int} {x5 : Int} {x6 : Int} {x7 : Int} {x8 : Int} {h : vH} (s1 : shModel h) (p2 : ¬ (x4 ≤ x8) → 0 ≤ x8) (p3 : ¬ (x4 ≤ x8) → x8 < 140) (p4 : ¬ (x4 ≤ x8) → 0 ≤ h 2 319 x8) (p5 : ¬ (x4 ≤ x8) → h 2 319 x8 < 140) : vrun mX13_orders 120 [(1, 282), (0, x1), (0, x2), (0, x3), (0, x4), (0, x5), (0, x6), (0, x7), (0, x8)] [] h = if x4 ≤ x8 then vret vrun mX13_orders 155 [(1, 282), (0, x1), (0, x2), (0, x3), (0, x4), (0, x5), (0, x6), (0, x7), (0, x8)] [] (vcl mX13_turns [(1, 282), (0, x7), (0, x8)] h) else if h 2 316 (h 2 319 x8) < x6 then vret vrun mX13_orders 155 [(1, 282), (0, x1), (0, x2), (0, x3), (0, x4), (0, x5), (0, x6), (0, x7), (0, x8)] [] (vcl mX13_turns [(1, 282), (0, x7), (0, x8)] h) else vrun mX13_orders 120 [(1, 282), (0, x1), (0, x2), (0, x3), (0, x4), (0, x5), (0, x6), (0, x7), (0, x8 + 1)] [] h := by
  refine (rn_iload (pc := 120) (dd bX13_orders dX13_orders_120) rfl).trans ?_
  refine (rn_iload (pc := 122) (dd bX13_orders dX13_orders_122) rfl).trans ?_
  refine (rn_icmp_ge (t := 150) (pc := 124) (dd bX13_orders dX13_orders_124) rfl).trans (itec (fun c1 => ?_) (fun c1 => ?_))
  · refine (rn_aload_n (pc := 150) (dd bX13_orders dX13_orders_150) rfl).trans ?_
    refine (rn_iload (pc := 151) (dd bX13_orders dX13_orders_151) rfl).trans ?_
    refine (rn_iload (pc := 153) (dd bX13_orders dX13_orders_153) rfl).trans ?_
    exact rg_virtual (pc := 155) (dd bX13_orders dX13_orders_155) rfl rfl (by decide) (kc := 34) rfl s1.1 (as := [(1, 282), (0, x7), (0, x8)]) rfl ⟨Nat.le_of_ble_eq_true rfl, Nat.le_of_ble_eq_true rfl, Nat.le_of_ble_eq_true rfl, Nat.le_of_ble_eq_true rfl⟩
  · refine (rn_aload_n (pc := 127) (dd bX13_orders dX13_orders_127) rfl).trans ?_
    refine (rg_gf (pc := 128) (dd bX13_orders dX13_orders_128) (ci := 14) (j := 35) rfl rfl (key := 1535) rfl (kc := 34) rfl s1.1 s1.2.2.2.2.2.2.2.2.2.2.2.2.2.2.2.2.2.2.2.2.2.2.2.2.2.2.2.2.2.2.2.2.2.2.2.2.2.2.2.2.2.2.2.2.2.2.2.2.2.2.2.2.2.2.2.2.2.2.2.2.2.2.2.2.2.2.2.2.2.2.2.2.2.2.2.2.2.2.2.2.2.2.2.2.2.2.2.2.2.2.2.2.2.2.2.2.2.2.2.2.1).trans ?_
    refine (rn_aload_n (pc := 131) (dd bX13_orders dX13_orders_131) rfl).trans ?_
    refine (rg_gf (pc := 132) (dd bX13_orders dX13_orders_132) (ci := 14) (j := 38) rfl rfl (key := 1538) rfl (kc := 34) rfl s1.1 s1.2.2.2.2.2.2.2.2.2.2.2.2.2.2.2.2.2.2.2.2.2.2.2.2.2.2.2.2.2.2.2.2.2.2.2.2.2.2.2.2.2.2.2.2.2.2.2.2.2.2.2.2.2.2.2.2.2.2.2.2.2.2.2.2.2.2.2.2.2.2.2.2.2.2.2.2.2.2.2.2.2.2.2.2.2.2.2.2.2.2.2.2.2.2.2.2.2.2.2.2.2.2.2.2.2.2.2.2.2.1).trans ?_
    refine (rn_iload (pc := 135) (dd bX13_orders dX13_orders_135) rfl).trans ?_
    refine (rg_iaload (pc := 137) (dd bX13_orders dX13_orders_137) s1.2.2.2.2.2.2.2.2.2.2.2.2.2.2.2.2.2.2.2.2.2.2.2.2.2.2.2.2.2.2.2.2.2.2.2.2.2.2.2.2.2.2.2.2.2.2.2.2.2.2.2.2.2.2.2.2.2.2.2.2.2.2.2.2.2.2.2.2.2.2.2.2.2.2.2.2.2.2.2.2.2.2.2.2.2.2.2.2.2.2.2.2.2.2.2.2.2.2.2.2.2.2.2.2.2.2.2.2.2.2.1 s1.2.2.2.2.2.2.2.2.2.2.2.2.2.2.2.2.2.2.2.2.2.2.2.2.2.2.2.2.2.2.2.2.2.2.2.2.2.2.2.2.2.2.2.2.2.2.2.2.2.2.2.2.2.2.2.2.2.2.2.2.2.2.2.2.2.2.2.2.2.2.2.2.2.2.2.2.2.2.2.2.2.2.2.2.2.2.2.2.2.2.2.2.2.2.2.2.2.2.2.2.2.2.2.2.2.2.2.2.2.2.2.1 (p2 c1) (p3 c1) rfl).trans ?_
    refine (rg_iaload (pc := 138) (dd bX13_orders dX13_orders_138) s1.2.2.2.2.2.2.2.2.2.2.2.2.2.2.2.2.2.2.2.2.2.2.2.2.2.2.2.2.2.2.2.2.2.2.2.2.2.2.2.2.2.2.2.2.2.2.2.2.2.2.2.2.2.2.2.2.2.2.2.2.2.2.2.2.2.2.2.2.2.2.2.2.2.2.2.2.2.2.2.2.2.2.2.2.2.2.2.2.2.2.2.2.2.2.2.2.2.2.2.2.2.1 s1.2.2.2.2.2.2.2.2.2.2.2.2.2.2.2.2.2.2.2.2.2.2.2.2.2.2.2.2.2.2.2.2.2.2.2.2.2.2.2.2.2.2.2.2.2.2.2.2.2.2.2.2.2.2.2.2.2.2.2.2.2.2.2.2.2.2.2.2.2.2.2.2.2.2.2.2.2.2.2.2.2.2.2.2.2.2.2.2.2.2.2.2.2.2.2.2.2.2.2.2.2.2.1 (p4 c1) (p5 c1) rfl).trans ?_
    refine (rn_iload (pc := 139) (dd bX13_orders dX13_orders_139) rfl).trans ?_
    refine (rn_icmp_lt (t := 150) (pc := 141) (dd bX13_orders dX13_orders_141) rfl).trans (itec (fun c2 => ?_) (fun c2 => ?_))
    · refine (rn_aload_n (pc := 150) (dd bX13_orders dX13_orders_150) rfl).trans ?_
      refine (rn_iload (pc := 151) (dd bX13_orders dX13_orders_151) rfl).trans ?_
      refine (rn_iload (pc := 153) (dd bX13_orders dX13_orders_153) rfl).trans ?_
      exact rg_virtual (pc := 155) (dd bX13_orders dX13_orders_155) rfl rfl (by decide) (kc := 34) rfl s1.1 (as := [(1, 282), (0, x7), (0, x8)]) rfl ⟨Nat.le_of_ble_eq_true rfl, Nat.le_of_ble_eq_true rfl, Nat.le_of_ble_eq_true rfl, Nat.le_of_ble_eq_true rfl⟩
    · refine (rg_iinc (pc := 144) (dd bX13_orders dX13_orders_144) rfl (Nat.le_of_ble_eq_true rfl) (by have z0 := p2 c1; have z1 := p3 c1; omega) (by have z0 := p2 c1; have z1 := p3 c1; omega) rfl).trans ?_
      refine (rn_goto (t := 120) (pc := 147) (dd bX13_orders dX13_orders_147) rfl).trans ?_
      rfl
theorem rX13_orders_158 {x1 : Int} {x2 : Int} {x3 : Int} {x4 : Int} {x5 : Int} {x6 : Int} {x7 : Int} {x8 : Int} {h : vH} (p1 : (-2147483648) ≤ x8 + 1) (p2 : x8 + 1 < 2147483648) : vrun mX13_orders 158 [(1, 282), (0, x1), (0, x2), (0, x3), (0, x4), (0, x5), (0, x6), (0, x7), (0, x8)] [] h = vrun mX13_orders 109 [(1, 282), (0, x1), (0, x2), (0, x3), (0, x4), (0, x5), (0, x6), (0, x8 + 1), (0, x8)] [] h := by
  refine (rn_iload (pc := 158) (dd bX13_orders dX13_orders_158) rfl).trans ?_
  refine (rn_iconst (pc := 160) (dd bX13_orders dX13_orders_160) (by decide)).trans ?_
  refine (rg_iadd (pc := 161) (dd bX13_orders dX13_orders_161) p1 p2).trans ?_
  refine (rn_istore (pc := 162) (dd bX13_orders dX13_orders_162) (Nat.le_of_ble_eq_true rfl) rfl).trans ?_
  refine (rn_goto (t := 109) (pc := 164) (dd bX13_orders dX13_orders_164) rfl).trans ?_
  rfl
theorem bX13_lays : vmB mX13_lays = cX13_lays := rfl
theorem rX13_lays_0 {x1 : Int} {x2 : Int} {h : vH} (s1 : shModel h) : vrun mX13_lays 0 [(1, 282), (0, x1), (0, x2), (9, 0)] [] h = vret vrun mX13_lays 3 [(1, 282), (0, x1), (0, x2), (9, 0)] [] (vcl mX13_findsClusters [(1, 282), (0, x1), (0, x2)] h) := by
  refine (rn_aload_n (pc := 0) (dd bX13_lays dX13_lays_0) rfl).trans ?_
  refine (rn_iload_n (pc := 1) (dd bX13_lays dX13_lays_1) rfl).trans ?_
  refine (rn_iload_n (pc := 2) (dd bX13_lays dX13_lays_2) rfl).trans ?_
  exact rg_virtual (pc := 3) (dd bX13_lays dX13_lays_3) rfl rfl (by decide) (kc := 34) rfl s1.1 (as := [(1, 282), (0, x1), (0, x2)]) rfl ⟨Nat.le_of_ble_eq_true rfl, Nat.le_of_ble_eq_true rfl, Nat.le_of_ble_eq_true rfl, Nat.le_of_ble_eq_true rfl⟩
theorem rX13_lays_6 {x1 : Int} {x2 : Int} {h : vH} (s1 : shModel h) : vrun mX13_lays 6 [(1, 282), (0, x1), (0, x2), (9, 0)] [] h = vret vrun mX13_lays 8 [(1, 282), (0, x1), (0, x2), (9, 0)] [] (vcl mX13_laysRows [(1, 282), (0, x1)] h) := by
  refine (rn_aload_n (pc := 6) (dd bX13_lays dX13_lays_6) rfl).trans ?_
  refine (rn_iload_n (pc := 7) (dd bX13_lays dX13_lays_7) rfl).trans ?_
  exact rg_virtual (pc := 8) (dd bX13_lays dX13_lays_8) rfl rfl (by decide) (kc := 34) rfl s1.1 (as := [(1, 282), (0, x1)]) rfl ⟨Nat.le_of_ble_eq_true rfl, Nat.le_of_ble_eq_true rfl, Nat.le_of_ble_eq_true rfl, Nat.le_of_ble_eq_true rfl⟩
theorem rX13_lays_11 {x1 : Int} {x2 : Int} {h : vH} (s1 : shModel h) : vrun mX13_lays 11 [(1, 282), (0, x1), (0, x2), (9, 0)] [] h = vret vrun mX13_lays 12 [(1, 282), (0, x1), (0, x2), (9, 0)] [] (vcl mX13_findsLevels [(1, 282)] h) := by
  refine (rn_aload_n (pc := 11) (dd bX13_lays dX13_lays_11) rfl).trans ?_
  exact rg_virtual (pc := 12) (dd bX13_lays dX13_lays_12) rfl rfl (by decide) (kc := 34) rfl s1.1 (as := [(1, 282)]) rfl ⟨Nat.le_of_ble_eq_true rfl, Nat.le_of_ble_eq_true rfl, Nat.le_of_ble_eq_true rfl, Nat.le_of_ble_eq_true rfl⟩
theorem rX13_lays_15 {x1 : Int} {x2 : Int} {h : vH} : vrun mX13_lays 15 [(1, 282), (0, x1), (0, x2), (9, 0)] [] h = vrun mX13_lays 17 [(1, 282), (0, x1), (0, x2), (0, 0)] [] h := by
  refine (rn_iconst (pc := 15) (dd bX13_lays dX13_lays_15) (by decide)).trans ?_
  refine (rn_istore_n (pc := 16) (dd bX13_lays dX13_lays_16) (Nat.le_of_ble_eq_true rfl) rfl).trans ?_
  rfl
theorem rX13_lays_17 {x1 : Int} {x2 : Int} {x3 : Int} {h : vH} (s1 : shModel h) : vrun mX13_lays 17 [(1, 282), (0, x1), (0, x2), (0, x3)] [] h = if h 1541 282 0 ≤ x3 then some (.inl none, h) else vret vrun mX13_lays 28 [(1, 282), (0, x1), (0, x2), (0, x3)] [] (vcl mX13_orders [(1, 282), (0, x1), (0, x3)] h) := by
  refine (rn_iload_n (pc := 17) (dd bX13_lays dX13_lays_17) rfl).trans ?_
  refine (rn_aload_n (pc := 18) (dd bX13_lays dX13_lays_18) rfl).trans ?_
  refine (rg_gf (pc := 19) (dd bX13_lays dX13_lays_19) (ci := 14) (j := 41) rfl rfl (key := 1541) rfl (kc := 34) rfl s1.1 rfl).trans ?_
  refine (rn_icmp_ge (t := 37) (pc := 22) (dd bX13_lays dX13_lays_22) rfl).trans (itec (fun c1 => ?_) (fun c1 => ?_))
  · exact rn_return (pc := 37) (dd bX13_lays dX13_lays_37) rfl
  · refine (rn_aload_n (pc := 25) (dd bX13_lays dX13_lays_25) rfl).trans ?_
    refine (rn_iload_n (pc := 26) (dd bX13_lays dX13_lays_26) rfl).trans ?_
    refine (rn_iload_n (pc := 27) (dd bX13_lays dX13_lays_27) rfl).trans ?_
    exact rg_virtual (pc := 28) (dd bX13_lays dX13_lays_28) rfl rfl (by decide) (kc := 34) rfl s1.1 (as := [(1, 282), (0, x1), (0, x3)]) rfl ⟨Nat.le_of_ble_eq_true rfl, Nat.le_of_ble_eq_true rfl, Nat.le_of_ble_eq_true rfl, Nat.le_of_ble_eq_true rfl⟩
theorem rX13_lays_31 {x1 : Int} {x2 : Int} {x3 : Int} {h : vH} (p1 : (-2147483648) ≤ x3 + 1) (p2 : x3 + 1 < 2147483648) : vrun mX13_lays 31 [(1, 282), (0, x1), (0, x2), (0, x3)] [] h = vrun mX13_lays 17 [(1, 282), (0, x1), (0, x2), (0, x3 + 1)] [] h := by
  refine (rg_iinc (pc := 31) (dd bX13_lays dX13_lays_31) rfl (Nat.le_of_ble_eq_true rfl) p1 p2 rfl).trans ?_
  refine (rn_goto (t := 17) (pc := 34) (dd bX13_lays dX13_lays_34) rfl).trans ?_
  rfl
theorem bX13_laysRow : vmB mX13_laysRow = cX13_laysRow := rfl
theorem rX13_laysRow_0 {x1 : Int} {x2 : Int} {h : vH} (s1 : shModel h) : vrun mX13_laysRow 0 [(1, 282), (0, x1), (0, x2), (9, 0), (9, 0)] [] h = vret vrun mX13_laysRow 3 [(1, 282), (0, x1), (0, x2), (9, 0), (9, 0)] [] (vcl mX13_lineOf [(1, 282), (0, x1), (0, x2)] h) := by
  refine (rn_aload_n (pc := 0) (dd bX13_laysRow dX13_laysRow_0) rfl).trans ?_
  refine (rn_iload_n (pc := 1) (dd bX13_laysRow dX13_laysRow_1) rfl).trans ?_
  refine (rn_iload_n (pc := 2) (dd bX13_laysRow dX13_laysRow_2) rfl).trans ?_
  exact rg_virtual (pc := 3) (dd bX13_laysRow dX13_laysRow_3) rfl rfl (by decide) (kc := 34) rfl s1.1 (as := [(1, 282), (0, x1), (0, x2)]) rfl ⟨Nat.le_of_ble_eq_true rfl, Nat.le_of_ble_eq_true rfl, Nat.le_of_ble_eq_true rfl, Nat.le_of_ble_eq_true rfl⟩
theorem rX13_laysRow_6 {x1 : Int} {x2 : Int} {y0 : Int} {h : vH} (s1 : shModel h) : vrun mX13_laysRow 6 [(1, 282), (0, x1), (0, x2), (9, 0), (9, 0)] [(0, y0)] h = vret vrun mX13_laysRow 11 [(1, 282), (0, x1), (0, x2), (0, y0), (9, 0)] [(0, x2)] (vcl mX13_rowsAhead [(1, 282), (0, x1), (0, y0)] h) := by
  refine (rn_istore_n (pc := 6) (dd bX13_laysRow dX13_laysRow_6) (Nat.le_of_ble_eq_true rfl) rfl).trans ?_
  refine (rn_iload_n (pc := 7) (dd bX13_laysRow dX13_laysRow_7) rfl).trans ?_
  refine (rn_aload_n (pc := 8) (dd bX13_laysRow dX13_laysRow_8) rfl).trans ?_
  refine (rn_iload_n (pc := 9) (dd bX13_laysRow dX13_laysRow_9) rfl).trans ?_
  refine (rn_iload_n (pc := 10) (dd bX13_laysRow dX13_laysRow_10) rfl).trans ?_
  exact rg_virtual (pc := 11) (dd bX13_laysRow dX13_laysRow_11) rfl rfl (by decide) (kc := 34) rfl s1.1 (as := [(1, 282), (0, x1), (0, y0)]) rfl ⟨Nat.le_of_ble_eq_true rfl, Nat.le_of_ble_eq_true rfl, Nat.le_of_ble_eq_true rfl, Nat.le_of_ble_eq_true rfl⟩
theorem rX13_laysRow_14 {x1 : Int} {x2 : Int} {x3 : Int} {y0 : Int} {y1 : Int} {h : vH} (p1 : (-2147483648) ≤ y1 - y0) (p2 : y1 - y0 < 2147483648) (s3 : shModel h) : vrun mX13_laysRow 14 [(1, 282), (0, x1), (0, x2), (0, x3), (9, 0)] [(0, y0), (0, y1)] h = vret vrun mX13_laysRow 20 [(1, 282), (0, x1), (0, x2), (0, x3), (0, y1 - y0)] [] (vcl mX13_lays [(1, 282), (0, x1), (0, x3)] h) := by
  refine (rg_isub (pc := 14) (dd bX13_laysRow dX13_laysRow_14) p1 p2).trans ?_
  refine (rn_istore (pc := 15) (dd bX13_laysRow dX13_laysRow_15) (Nat.le_of_ble_eq_true rfl) rfl).trans ?_
  refine (rn_aload_n (pc := 17) (dd bX13_laysRow dX13_laysRow_17) rfl).trans ?_
  refine (rn_iload_n (pc := 18) (dd bX13_laysRow dX13_laysRow_18) rfl).trans ?_
  refine (rn_iload_n (pc := 19) (dd bX13_laysRow dX13_laysRow_19) rfl).trans ?_
  exact rg_virtual (pc := 20) (dd bX13_laysRow dX13_laysRow_20) rfl rfl (by decide) (kc := 34) rfl s3.1 (as := [(1, 282), (0, x1), (0, x3)]) rfl ⟨Nat.le_of_ble_eq_true rfl, Nat.le_of_ble_eq_true rfl, Nat.le_of_ble_eq_true rfl, Nat.le_of_ble_eq_true rfl⟩
theorem rX13_laysRow_23 {x1 : Int} {x2 : Int} {x3 : Int} {x4 : Int} {h : vH} : vrun mX13_laysRow 23 [(1, 282), (0, x1), (0, x2), (0, x3), (0, x4)] [] h = some (.inl (some (0, x4)), h) := by
  refine (rn_iload (pc := 23) (dd bX13_laysRow dX13_laysRow_23) rfl).trans ?_
  exact rn_ireturn (pc := 25) (dd bX13_laysRow dX13_laysRow_25) (Or.inl rfl)
theorem bX13_clusters : vmB mX13_clusters = cX13_clusters := rfl
theorem rX13_clusters_0 {x1 : Int} {x2 : Int} {h : vH} (s1 : shModel h) : vrun mX13_clusters 0 [(1, 282), (0, x1), (0, x2), (9, 0)] [] h = vret vrun mX13_clusters 4 [(1, 282), (0, x1), (0, x2), (9, 0)] [(1, 282)] (vcl mX13_isRow [(1, 282), (0, x1), (0, x2)] h) := by
  refine (rn_aload_n (pc := 0) (dd bX13_clusters dX13_clusters_0) rfl).trans ?_
  refine (rn_aload_n (pc := 1) (dd bX13_clusters dX13_clusters_1) rfl).trans ?_
  refine (rn_iload_n (pc := 2) (dd bX13_clusters dX13_clusters_2) rfl).trans ?_
  refine (rn_iload_n (pc := 3) (dd bX13_clusters dX13_clusters_3) rfl).trans ?_
  exact rg_virtual (pc := 4) (dd bX13_clusters dX13_clusters_4) rfl rfl (by decide) (kc := 34) rfl s1.1 (as := [(1, 282), (0, x1), (0, x2)]) rfl ⟨Nat.le_of_ble_eq_true rfl, Nat.le_of_ble_eq_true rfl, Nat.le_of_ble_eq_true rfl, Nat.le_of_ble_eq_true rfl⟩
theorem rX13_clusters_7 {x1 : Int} {x2 : Int} {y0 : Int} {h : vH} (s1 : shModel h) : vrun mX13_clusters 7 [(1, 282), (0, x1), (0, x2), (9, 0)] [(0, y0), (1, 282)] h = vret vrun mX13_clusters 15 [(1, 282), (0, x1), (0, x2), (9, 0)] [] (vcl mX13_isFine [(1, 282), (0, (if y0 = 0 then 1 else 0))] h) := by
  have e1 : vrun mX13_clusters 7 [(1, 282), (0, x1), (0, x2), (9, 0)] [(0, y0), (1, 282)] h = vrun mX13_clusters 15 [(1, 282), (0, x1), (0, x2), (9, 0)] [(0, (if y0 = 0 then 1 else 0)), (1, 282)] h := by
    refine (rn_if_eq (t := 14) (pc := 7) (dd bX13_clusters dX13_clusters_7) rfl).trans ?_
    by_cases c1 : y0 = 0
    · refine (if_pos c1).trans ?_
      refine (rn_iconst (pc := 14) (dd bX13_clusters dX13_clusters_14) (by decide)).trans ?_
      refine Eq.trans (b := vrun mX13_clusters 15 [(1, 282), (0, x1), (0, x2), (9, 0)] [(0, 1), (1, 282)] h) rfl ?_
      simp only [c1, true_or, false_or, or_true, or_false, true_and, false_and, and_true, and_false, not_true_eq_false, not_false_eq_true, ne_eq, if_true, if_false, ↓reduceIte]
    · refine (if_neg c1).trans ?_
      refine (rn_iconst (pc := 10) (dd bX13_clusters dX13_clusters_10) (by decide)).trans ?_
      refine (rn_goto (t := 15) (pc := 11) (dd bX13_clusters dX13_clusters_11) rfl).trans ?_
      refine Eq.trans (b := vrun mX13_clusters 15 [(1, 282), (0, x1), (0, x2), (9, 0)] [(0, 0), (1, 282)] h) rfl ?_
      simp only [c1, true_or, false_or, or_true, or_false, true_and, false_and, and_true, and_false, not_true_eq_false, not_false_eq_true, ne_eq, if_true, if_false, ↓reduceIte]
  refine e1.trans ?_
  exact rg_virtual (pc := 15) (dd bX13_clusters dX13_clusters_15) rfl rfl (by decide) (kc := 34) rfl s1.1 (as := [(1, 282), (0, (if y0 = 0 then 1 else 0))]) rfl ⟨Nat.le_of_ble_eq_true rfl, Nat.le_of_ble_eq_true rfl, Nat.le_of_ble_eq_true rfl, Nat.le_of_ble_eq_true rfl⟩
theorem rX13_clusters_18 {x1 : Int} {x2 : Int} {y0 : Int} {h : vH} (s1 : shModel h) : vrun mX13_clusters 18 [(1, 282), (0, x1), (0, x2), (9, 0)] [(0, y0)] h = if y0 = 0 then some (.inl (some (0, 0)), h) else vret vrun mX13_clusters 26 [(1, 282), (0, x1), (0, x2), (9, 0)] [] (vcl mX13_laysRow [(1, 282), (0, x1), (0, x2)] h) := by
  refine (rg_if_ne (t := 23) (pc := 18) (dd bX13_clusters dX13_clusters_18) rfl).trans (itec (fun c1 => ?_) (fun c1 => ?_))
  · refine (rn_iconst (pc := 21) (dd bX13_clusters dX13_clusters_21) (by decide)).trans ?_
    exact rn_ireturn (pc := 22) (dd bX13_clusters dX13_clusters_22) (Or.inl rfl)
  · refine (rn_aload_n (pc := 23) (dd bX13_clusters dX13_clusters_23) rfl).trans ?_
    refine (rn_iload_n (pc := 24) (dd bX13_clusters dX13_clusters_24) rfl).trans ?_
    refine (rn_iload_n (pc := 25) (dd bX13_clusters dX13_clusters_25) rfl).trans ?_
    exact rg_virtual (pc := 26) (dd bX13_clusters dX13_clusters_26) rfl rfl (by decide) (kc := 34) rfl s1.1 (as := [(1, 282), (0, x1), (0, x2)]) rfl ⟨Nat.le_of_ble_eq_true rfl, Nat.le_of_ble_eq_true rfl, Nat.le_of_ble_eq_true rfl, Nat.le_of_ble_eq_true rfl⟩
theorem rX13_clusters_29 {x1 : Int} {x2 : Int} {y0 : Int} {h : vH} (s1 : shModel h) (p2 : (-2147483648) ≤ y0 + 1) (p3 : y0 + 1 < 2147483648) (p4 : 0 ≤ y0 + 1) (p5 : y0 + 1 < 142) (p6 : 0 ≤ y0) (p7 : y0 < 142) (p8 : (-2147483648) ≤ h 2 320 (y0 + 1) - h 2 320 y0) (p9 : h 2 320 (y0 + 1) - h 2 320 y0 < 2147483648) : vrun mX13_clusters 29 [(1, 282), (0, x1), (0, x2), (9, 0)] [(0, y0)] h = some (.inl (some (0, h 2 320 (y0 + 1) - h 2 320 y0)), h) := by
  refine (rn_istore_n (pc := 29) (dd bX13_clusters dX13_clusters_29) (Nat.le_of_ble_eq_true rfl) rfl).trans ?_
  refine (rn_aload_n (pc := 30) (dd bX13_clusters dX13_clusters_30) rfl).trans ?_
  refine (rg_gf (pc := 31) (dd bX13_clusters dX13_clusters_31) (ci := 14) (j := 39) rfl rfl (key := 1539) rfl (kc := 34) rfl s1.1 s1.2.2.2.2.2.2.2.2.2.2.2.2.2.2.2.2.2.2.2.2.2.2.2.2.2.2.2.2.2.2.2.2.2.2.2.2.2.2.2.2.2.2.2.2.2.2.2.2.2.2.2.2.2.2.2.2.2.2.2.2.2.2.2.2.2.2.2.2.2.2.2.2.2.2.2.2.2.2.2.2.2.2.2.2.2.2.2.2.2.2.2.2.2.2.2.2.2.2.2.2.2.2.2.2.2.2.2.2.2.2.2.2.1).trans ?_
  refine (rn_iload_n (pc := 34) (dd bX13_clusters dX13_clusters_34) rfl).trans ?_
  refine (rn_iconst (pc := 35) (dd bX13_clusters dX13_clusters_35) (by decide)).trans ?_
  refine (rg_iadd (pc := 36) (dd bX13_clusters dX13_clusters_36) p2 p3).trans ?_
  refine (rg_iaload (pc := 37) (dd bX13_clusters dX13_clusters_37) s1.2.2.2.2.2.2.2.2.2.2.2.2.2.2.2.2.2.2.2.2.2.2.2.2.2.2.2.2.2.2.2.2.2.2.2.2.2.2.2.2.2.2.2.2.2.2.2.2.2.2.2.2.2.2.2.2.2.2.2.2.2.2.2.2.2.2.2.2.2.2.2.2.2.2.2.2.2.2.2.2.2.2.2.2.2.2.2.2.2.2.2.2.2.2.2.2.2.2.2.2.2.2.2.2.2.2.2.2.2.2.2.2.2.1 s1.2.2.2.2.2.2.2.2.2.2.2.2.2.2.2.2.2.2.2.2.2.2.2.2.2.2.2.2.2.2.2.2.2.2.2.2.2.2.2.2.2.2.2.2.2.2.2.2.2.2.2.2.2.2.2.2.2.2.2.2.2.2.2.2.2.2.2.2.2.2.2.2.2.2.2.2.2.2.2.2.2.2.2.2.2.2.2.2.2.2.2.2.2.2.2.2.2.2.2.2.2.2.2.2.2.2.2.2.2.2.2.2.2.2.1 p4 p5 rfl).trans ?_
  refine (rn_aload_n (pc := 38) (dd bX13_clusters dX13_clusters_38) rfl).trans ?_
  refine (rg_gf (pc := 39) (dd bX13_clusters dX13_clusters_39) (ci := 14) (j := 39) rfl rfl (key := 1539) rfl (kc := 34) rfl s1.1 s1.2.2.2.2.2.2.2.2.2.2.2.2.2.2.2.2.2.2.2.2.2.2.2.2.2.2.2.2.2.2.2.2.2.2.2.2.2.2.2.2.2.2.2.2.2.2.2.2.2.2.2.2.2.2.2.2.2.2.2.2.2.2.2.2.2.2.2.2.2.2.2.2.2.2.2.2.2.2.2.2.2.2.2.2.2.2.2.2.2.2.2.2.2.2.2.2.2.2.2.2.2.2.2.2.2.2.2.2.2.2.2.2.1).trans ?_
  refine (rn_iload_n (pc := 42) (dd bX13_clusters dX13_clusters_42) rfl).trans ?_
  refine (rg_iaload (pc := 43) (dd bX13_clusters dX13_clusters_43) s1.2.2.2.2.2.2.2.2.2.2.2.2.2.2.2.2.2.2.2.2.2.2.2.2.2.2.2.2.2.2.2.2.2.2.2.2.2.2.2.2.2.2.2.2.2.2.2.2.2.2.2.2.2.2.2.2.2.2.2.2.2.2.2.2.2.2.2.2.2.2.2.2.2.2.2.2.2.2.2.2.2.2.2.2.2.2.2.2.2.2.2.2.2.2.2.2.2.2.2.2.2.2.2.2.2.2.2.2.2.2.2.2.2.1 s1.2.2.2.2.2.2.2.2.2.2.2.2.2.2.2.2.2.2.2.2.2.2.2.2.2.2.2.2.2.2.2.2.2.2.2.2.2.2.2.2.2.2.2.2.2.2.2.2.2.2.2.2.2.2.2.2.2.2.2.2.2.2.2.2.2.2.2.2.2.2.2.2.2.2.2.2.2.2.2.2.2.2.2.2.2.2.2.2.2.2.2.2.2.2.2.2.2.2.2.2.2.2.2.2.2.2.2.2.2.2.2.2.2.2.1 p6 p7 rfl).trans ?_
  refine (rg_isub (pc := 44) (dd bX13_clusters dX13_clusters_44) p8 p9).trans ?_
  exact rn_ireturn (pc := 45) (dd bX13_clusters dX13_clusters_45) (Or.inl rfl)
theorem bX13_cell : vmB mX13_cell = cX13_cell := rfl
theorem rX13_cell_0 {x1 : Int} {x2 : Int} {x3 : Int} {x4 : Int} {h : vH} (s1 : shModel h) : vrun mX13_cell 0 [(1, 282), (0, x1), (0, x2), (0, x3), (0, x4), (9, 0), (9, 0), (9, 0)] [] h = vret vrun mX13_cell 3 [(1, 282), (0, x1), (0, x2), (0, x3), (0, x4), (9, 0), (9, 0), (9, 0)] [] (vcl mX13_isRow [(1, 282), (0, x1), (0, x2)] h) := by
  refine (rn_aload_n (pc := 0) (dd bX13_cell dX13_cell_0) rfl).trans ?_
  refine (rn_iload_n (pc := 1) (dd bX13_cell dX13_cell_1) rfl).trans ?_
  refine (rn_iload_n (pc := 2) (dd bX13_cell dX13_cell_2) rfl).trans ?_
  exact rg_virtual (pc := 3) (dd bX13_cell dX13_cell_3) rfl rfl (by decide) (kc := 34) rfl s1.1 (as := [(1, 282), (0, x1), (0, x2)]) rfl ⟨Nat.le_of_ble_eq_true rfl, Nat.le_of_ble_eq_true rfl, Nat.le_of_ble_eq_true rfl, Nat.le_of_ble_eq_true rfl⟩
theorem rX13_cell_6 {x1 : Int} {x2 : Int} {x3 : Int} {x4 : Int} {y0 : Int} {h : vH} (s1 : shModel h) (p2 : y0 = 0 → ¬ (y0 = 0) → (-2147483648) ≤ h 2 320 1 - h 2 320 0) (p3 : y0 = 0 → ¬ (y0 = 0) → h 2 320 1 - h 2 320 0 < 2147483648) (p4 : y0 = 0 → ¬ (y0 = 0) → (-2147483648) ≤ h 2 320 1 - h 2 320 0 - 1) : vrun mX13_cell 6 [(1, 282), (0, x1), (0, x2), (0, x3), (0, x4), (9, 0), (9, 0), (9, 0)] [(0, y0)] h = if y0 = 0 then vret vrun mX13_cell 89 [(1, 282), (0, x1), (0, x2), (0, x3), (0, x4), (0, (if ¬ (y0 = 0) ∧ ¬ (x3 < 0) ∧ ¬ (h 2 320 1 - h 2 320 0 - 1 < x3) then 1 else 0)), (0, 0), (9, 0)] [] (vcl mX13_isFine [(1, 282), (0, (if ¬ (y0 = 0) ∧ ¬ (x3 < 0) ∧ ¬ (h 2 320 1 - h 2 320 0 - 1 < x3) then (if ¬ (x4 < 0) ∧ ¬ (5 < x4) then 0 else 2) else 1))] h) else vret vrun mX13_cell 16 [(1, 282), (0, x1), (0, x2), (0, x3), (0, x4), (0, y0), (9, 0), (9, 0)] [] (vcl mX13_laysRow [(1, 282), (0, x1), (0, x2)] h) := by
  refine (rn_istore (pc := 6) (dd bX13_cell dX13_cell_6) (Nat.le_of_ble_eq_true rfl) rfl).trans ?_
  refine (rn_iload (pc := 8) (dd bX13_cell dX13_cell_8) rfl).trans ?_
  refine (rn_if_eq (t := 22) (pc := 10) (dd bX13_cell dX13_cell_10) rfl).trans (itec (fun c1 => ?_) (fun c1 => ?_))
  · refine (rn_iconst (pc := 22) (dd bX13_cell dX13_cell_22) (by decide)).trans ?_
    refine (rn_istore (pc := 23) (dd bX13_cell dX13_cell_23) (Nat.le_of_ble_eq_true rfl) rfl).trans ?_
    refine (rn_iload (pc := 25) (dd bX13_cell dX13_cell_25) rfl).trans ?_
    have e2 : vrun mX13_cell 27 [(1, 282), (0, x1), (0, x2), (0, x3), (0, x4), (0, y0), (0, 0), (9, 0)] [(0, y0)] h = vrun mX13_cell 62 [(1, 282), (0, x1), (0, x2), (0, x3), (0, x4), (0, y0), (0, 0), (9, 0)] [(0, (if ¬ (y0 = 0) ∧ ¬ (x3 < 0) ∧ ¬ (h 2 320 1 - h 2 320 0 - 1 < x3) then 1 else 0))] h := by
      refine (rn_if_eq (t := 61) (pc := 27) (dd bX13_cell dX13_cell_27) rfl).trans ?_
      by_cases c2 : y0 = 0
      · refine (if_pos c2).trans ?_
        refine (rn_iconst (pc := 61) (dd bX13_cell dX13_cell_61) (by decide)).trans ?_
        refine Eq.trans (b := vrun mX13_cell 62 [(1, 282), (0, x1), (0, x2), (0, x3), (0, x4), (0, y0), (0, 0), (9, 0)] [(0, 0)] h) rfl ?_
        simp only [c2, true_or, false_or, or_true, or_false, true_and, false_and, and_true, and_false, not_true_eq_false, not_false_eq_true, ne_eq, if_true, if_false, ↓reduceIte]
      · refine (if_neg c2).trans ?_
        refine (rn_iload_n (pc := 30) (dd bX13_cell dX13_cell_30) rfl).trans ?_
        refine (rn_iconst (pc := 31) (dd bX13_cell dX13_cell_31) (by decide)).trans ?_
        refine (rn_aload_n (pc := 32) (dd bX13_cell dX13_cell_32) rfl).trans ?_
        refine (rg_gf (pc := 33) (dd bX13_cell dX13_cell_33) (ci := 14) (j := 39) rfl rfl (key := 1539) rfl (kc := 34) rfl s1.1 s1.2.2.2.2.2.2.2.2.2.2.2.2.2.2.2.2.2.2.2.2.2.2.2.2.2.2.2.2.2.2.2.2.2.2.2.2.2.2.2.2.2.2.2.2.2.2.2.2.2.2.2.2.2.2.2.2.2.2.2.2.2.2.2.2.2.2.2.2.2.2.2.2.2.2.2.2.2.2.2.2.2.2.2.2.2.2.2.2.2.2.2.2.2.2.2.2.2.2.2.2.2.2.2.2.2.2.2.2.2.2.2.2.1).trans ?_
        refine (rn_iload (pc := 36) (dd bX13_cell dX13_cell_36) rfl).trans ?_
        refine (rn_iconst (pc := 38) (dd bX13_cell dX13_cell_38) (by decide)).trans ?_
        refine (rg_iadd (pc := 39) (dd bX13_cell dX13_cell_39) (by decide) (by decide)).trans ?_
        refine (rg_iaload (pc := 40) (dd bX13_cell dX13_cell_40) s1.2.2.2.2.2.2.2.2.2.2.2.2.2.2.2.2.2.2.2.2.2.2.2.2.2.2.2.2.2.2.2.2.2.2.2.2.2.2.2.2.2.2.2.2.2.2.2.2.2.2.2.2.2.2.2.2.2.2.2.2.2.2.2.2.2.2.2.2.2.2.2.2.2.2.2.2.2.2.2.2.2.2.2.2.2.2.2.2.2.2.2.2.2.2.2.2.2.2.2.2.2.2.2.2.2.2.2.2.2.2.2.2.2.1 s1.2.2.2.2.2.2.2.2.2.2.2.2.2.2.2.2.2.2.2.2.2.2.2.2.2.2.2.2.2.2.2.2.2.2.2.2.2.2.2.2.2.2.2.2.2.2.2.2.2.2.2.2.2.2.2.2.2.2.2.2.2.2.2.2.2.2.2.2.2.2.2.2.2.2.2.2.2.2.2.2.2.2.2.2.2.2.2.2.2.2.2.2.2.2.2.2.2.2.2.2.2.2.2.2.2.2.2.2.2.2.2.2.2.2.1 (by decide) (by decide) rfl).trans ?_
        refine (rn_aload_n (pc := 41) (dd bX13_cell dX13_cell_41) rfl).trans ?_
        refine (rg_gf (pc := 42) (dd bX13_cell dX13_cell_42) (ci := 14) (j := 39) rfl rfl (key := 1539) rfl (kc := 34) rfl s1.1 s1.2.2.2.2.2.2.2.2.2.2.2.2.2.2.2.2.2.2.2.2.2.2.2.2.2.2.2.2.2.2.2.2.2.2.2.2.2.2.2.2.2.2.2.2.2.2.2.2.2.2.2.2.2.2.2.2.2.2.2.2.2.2.2.2.2.2.2.2.2.2.2.2.2.2.2.2.2.2.2.2.2.2.2.2.2.2.2.2.2.2.2.2.2.2.2.2.2.2.2.2.2.2.2.2.2.2.2.2.2.2.2.2.1).trans ?_
        refine (rn_iload (pc := 45) (dd bX13_cell dX13_cell_45) rfl).trans ?_
        refine (rg_iaload (pc := 47) (dd bX13_cell dX13_cell_47) s1.2.2.2.2.2.2.2.2.2.2.2.2.2.2.2.2.2.2.2.2.2.2.2.2.2.2.2.2.2.2.2.2.2.2.2.2.2.2.2.2.2.2.2.2.2.2.2.2.2.2.2.2.2.2.2.2.2.2.2.2.2.2.2.2.2.2.2.2.2.2.2.2.2.2.2.2.2.2.2.2.2.2.2.2.2.2.2.2.2.2.2.2.2.2.2.2.2.2.2.2.2.2.2.2.2.2.2.2.2.2.2.2.2.1 s1.2.2.2.2.2.2.2.2.2.2.2.2.2.2.2.2.2.2.2.2.2.2.2.2.2.2.2.2.2.2.2.2.2.2.2.2.2.2.2.2.2.2.2.2.2.2.2.2.2.2.2.2.2.2.2.2.2.2.2.2.2.2.2.2.2.2.2.2.2.2.2.2.2.2.2.2.2.2.2.2.2.2.2.2.2.2.2.2.2.2.2.2.2.2.2.2.2.2.2.2.2.2.2.2.2.2.2.2.2.2.2.2.2.2.1 (by decide) (by decide) rfl).trans ?_
        refine (rg_isub (pc := 48) (dd bX13_cell dX13_cell_48) (p2 c1 c2) (p3 c1 c2)).trans ?_
        refine (rn_iconst (pc := 49) (dd bX13_cell dX13_cell_49) (by decide)).trans ?_
        refine (rg_isub (pc := 50) (dd bX13_cell dX13_cell_50) (p4 c1 c2) (by have z0 := p2 c1 c2; have z1 := p3 c1 c2; have z2 := p4 c1 c2; omega)).trans ?_
        refine (rg_static (pc := 51) (dd bX13_cell dX13_cell_51) rfl (by decide) (Nat.le_of_ble_eq_true rfl) (as := [(0, x3), (0, 0), (0, h 2 320 1 - h 2 320 0 - 1)]) rfl rfl ⟨Nat.le_of_ble_eq_true rfl, Nat.le_of_ble_eq_true rfl, Nat.le_of_ble_eq_true rfl, Nat.le_of_ble_eq_true rfl⟩).trans ?_
        refine (vret_v spX13_isIn).trans ?_
        have e1 : vrun mX13_cell 54 [(1, 282), (0, x1), (0, x2), (0, x3), (0, x4), (0, y0), (0, 0), (9, 0)] [(0, (if ¬ (x3 < 0) ∧ ¬ (h 2 320 1 - h 2 320 0 - 1 < x3) then 1 else 0))] h = vrun mX13_cell 62 [(1, 282), (0, x1), (0, x2), (0, x3), (0, x4), (0, y0), (0, 0), (9, 0)] [(0, (if ¬ (x3 < 0) ∧ ¬ (h 2 320 1 - h 2 320 0 - 1 < x3) then 1 else 0))] h := by
          refine (rg_beq (t := 61) (pc := 54) (dd bX13_cell dX13_cell_54) rfl).trans ?_
          by_cases c3 : ¬ (x3 < 0) ∧ ¬ (h 2 320 1 - h 2 320 0 - 1 < x3)
          · refine (if_pos c3).trans ?_
            refine (rn_iconst (pc := 57) (dd bX13_cell dX13_cell_57) (by decide)).trans ?_
            refine (rn_goto (t := 62) (pc := 58) (dd bX13_cell dX13_cell_58) rfl).trans ?_
            refine Eq.trans (b := vrun mX13_cell 62 [(1, 282), (0, x1), (0, x2), (0, x3), (0, x4), (0, y0), (0, 0), (9, 0)] [(0, 1)] h) rfl ?_
            simp only [c3, true_or, false_or, or_true, or_false, true_and, false_and, and_true, and_false, not_true_eq_false, not_false_eq_true, ne_eq, if_true, if_false, ↓reduceIte]
          · refine (if_neg c3).trans ?_
            refine (rn_iconst (pc := 61) (dd bX13_cell dX13_cell_61) (by decide)).trans ?_
            refine Eq.trans (b := vrun mX13_cell 62 [(1, 282), (0, x1), (0, x2), (0, x3), (0, x4), (0, y0), (0, 0), (9, 0)] [(0, 0)] h) rfl ?_
            simp only [c3, true_or, false_or, or_true, or_false, true_and, false_and, and_true, and_false, not_true_eq_false, not_false_eq_true, ne_eq, if_true, if_false, ↓reduceIte]
        refine e1.trans ?_
        refine Eq.trans (b := vrun mX13_cell 62 [(1, 282), (0, x1), (0, x2), (0, x3), (0, x4), (0, y0), (0, 0), (9, 0)] [(0, (if ¬ (x3 < 0) ∧ ¬ (h 2 320 1 - h 2 320 0 - 1 < x3) then 1 else 0))] h) rfl ?_
        simp only [c2, true_or, false_or, or_true, or_false, true_and, false_and, and_true, and_false, not_true_eq_false, not_false_eq_true, ne_eq, if_true, if_false, ↓reduceIte]
    refine e2.trans ?_
    refine (rn_istore (pc := 62) (dd bX13_cell dX13_cell_62) (Nat.le_of_ble_eq_true rfl) rfl).trans ?_
    refine (rn_aload_n (pc := 64) (dd bX13_cell dX13_cell_64) rfl).trans ?_
    refine (rn_iload (pc := 65) (dd bX13_cell dX13_cell_65) rfl).trans ?_
    have e4 : vrun mX13_cell 67 [(1, 282), (0, x1), (0, x2), (0, x3), (0, x4), (0, (if ¬ (y0 = 0) ∧ ¬ (x3 < 0) ∧ ¬ (h 2 320 1 - h 2 320 0 - 1 < x3) then 1 else 0)), (0, 0), (9, 0)] [(0, (if ¬ (y0 = 0) ∧ ¬ (x3 < 0) ∧ ¬ (h 2 320 1 - h 2 320 0 - 1 < x3) then 1 else 0)), (1, 282)] h = vrun mX13_cell 89 [(1, 282), (0, x1), (0, x2), (0, x3), (0, x4), (0, (if ¬ (y0 = 0) ∧ ¬ (x3 < 0) ∧ ¬ (h 2 320 1 - h 2 320 0 - 1 < x3) then 1 else 0)), (0, 0), (9, 0)] [(0, (if ¬ (y0 = 0) ∧ ¬ (x3 < 0) ∧ ¬ (h 2 320 1 - h 2 320 0 - 1 < x3) then (if ¬ (x4 < 0) ∧ ¬ (5 < x4) then 0 else 2) else 1)), (1, 282)] h := by
      refine (rg_bne (t := 74) (pc := 67) (dd bX13_cell dX13_cell_67) rfl).trans ?_
      by_cases c4 : ¬ (y0 = 0) ∧ ¬ (x3 < 0) ∧ ¬ (h 2 320 1 - h 2 320 0 - 1 < x3)
      · refine (if_pos c4).trans ?_
        refine (rn_iload (pc := 74) (dd bX13_cell dX13_cell_74) rfl).trans ?_
        refine (rn_iconst (pc := 76) (dd bX13_cell dX13_cell_76) (by decide)).trans ?_
        refine (rn_iconst (pc := 77) (dd bX13_cell dX13_cell_77) (by decide)).trans ?_
        refine (rg_static (pc := 78) (dd bX13_cell dX13_cell_78) rfl (by decide) (Nat.le_of_ble_eq_true rfl) (as := [(0, x4), (0, 0), (0, 5)]) rfl rfl ⟨Nat.le_of_ble_eq_true rfl, Nat.le_of_ble_eq_true rfl, Nat.le_of_ble_eq_true rfl, Nat.le_of_ble_eq_true rfl⟩).trans ?_
        refine (vret_v spX13_isIn).trans ?_
        have e3 : vrun mX13_cell 81 [(1, 282), (0, x1), (0, x2), (0, x3), (0, x4), (0, (if ¬ (y0 = 0) ∧ ¬ (x3 < 0) ∧ ¬ (h 2 320 1 - h 2 320 0 - 1 < x3) then 1 else 0)), (0, 0), (9, 0)] [(0, (if ¬ (x4 < 0) ∧ ¬ (5 < x4) then 1 else 0)), (1, 282)] h = vrun mX13_cell 89 [(1, 282), (0, x1), (0, x2), (0, x3), (0, x4), (0, (if ¬ (y0 = 0) ∧ ¬ (x3 < 0) ∧ ¬ (h 2 320 1 - h 2 320 0 - 1 < x3) then 1 else 0)), (0, 0), (9, 0)] [(0, (if ¬ (x4 < 0) ∧ ¬ (5 < x4) then 0 else 2)), (1, 282)] h := by
          refine (rg_bne (t := 88) (pc := 81) (dd bX13_cell dX13_cell_81) rfl).trans ?_
          by_cases c5 : ¬ (x4 < 0) ∧ ¬ (5 < x4)
          · refine (if_pos c5).trans ?_
            refine (rn_iconst (pc := 88) (dd bX13_cell dX13_cell_88) (by decide)).trans ?_
            refine Eq.trans (b := vrun mX13_cell 89 [(1, 282), (0, x1), (0, x2), (0, x3), (0, x4), (0, (if ¬ (y0 = 0) ∧ ¬ (x3 < 0) ∧ ¬ (h 2 320 1 - h 2 320 0 - 1 < x3) then 1 else 0)), (0, 0), (9, 0)] [(0, 0), (1, 282)] h) rfl ?_
            simp only [if_pos c5]
          · refine (if_neg c5).trans ?_
            refine (rn_iconst (pc := 84) (dd bX13_cell dX13_cell_84) (by decide)).trans ?_
            refine (rn_goto (t := 89) (pc := 85) (dd bX13_cell dX13_cell_85) rfl).trans ?_
            refine Eq.trans (b := vrun mX13_cell 89 [(1, 282), (0, x1), (0, x2), (0, x3), (0, x4), (0, (if ¬ (y0 = 0) ∧ ¬ (x3 < 0) ∧ ¬ (h 2 320 1 - h 2 320 0 - 1 < x3) then 1 else 0)), (0, 0), (9, 0)] [(0, 2), (1, 282)] h) rfl ?_
            simp only [if_neg c5]
        refine e3.trans ?_
        refine Eq.trans (b := vrun mX13_cell 89 [(1, 282), (0, x1), (0, x2), (0, x3), (0, x4), (0, (if ¬ (y0 = 0) ∧ ¬ (x3 < 0) ∧ ¬ (h 2 320 1 - h 2 320 0 - 1 < x3) then 1 else 0)), (0, 0), (9, 0)] [(0, (if ¬ (x4 < 0) ∧ ¬ (5 < x4) then 0 else 2)), (1, 282)] h) rfl ?_
        simp only [if_pos c4]
      · refine (if_neg c4).trans ?_
        refine (rn_iconst (pc := 70) (dd bX13_cell dX13_cell_70) (by decide)).trans ?_
        refine (rn_goto (t := 89) (pc := 71) (dd bX13_cell dX13_cell_71) rfl).trans ?_
        refine Eq.trans (b := vrun mX13_cell 89 [(1, 282), (0, x1), (0, x2), (0, x3), (0, x4), (0, (if ¬ (y0 = 0) ∧ ¬ (x3 < 0) ∧ ¬ (h 2 320 1 - h 2 320 0 - 1 < x3) then 1 else 0)), (0, 0), (9, 0)] [(0, 1), (1, 282)] h) rfl ?_
        simp only [if_neg c4]
    refine e4.trans ?_
    exact rg_virtual (pc := 89) (dd bX13_cell dX13_cell_89) rfl rfl (by decide) (kc := 34) rfl s1.1 (as := [(1, 282), (0, (if ¬ (y0 = 0) ∧ ¬ (x3 < 0) ∧ ¬ (h 2 320 1 - h 2 320 0 - 1 < x3) then (if ¬ (x4 < 0) ∧ ¬ (5 < x4) then 0 else 2) else 1))]) rfl ⟨Nat.le_of_ble_eq_true rfl, Nat.le_of_ble_eq_true rfl, Nat.le_of_ble_eq_true rfl, Nat.le_of_ble_eq_true rfl⟩
  · refine (rn_aload_n (pc := 13) (dd bX13_cell dX13_cell_13) rfl).trans ?_
    refine (rn_iload_n (pc := 14) (dd bX13_cell dX13_cell_14) rfl).trans ?_
    refine (rn_iload_n (pc := 15) (dd bX13_cell dX13_cell_15) rfl).trans ?_
    exact rg_virtual (pc := 16) (dd bX13_cell dX13_cell_16) rfl rfl (by decide) (kc := 34) rfl s1.1 (as := [(1, 282), (0, x1), (0, x2)]) rfl ⟨Nat.le_of_ble_eq_true rfl, Nat.le_of_ble_eq_true rfl, Nat.le_of_ble_eq_true rfl, Nat.le_of_ble_eq_true rfl⟩
theorem rX13_cell_92 {x1 : Int} {x2 : Int} {x3 : Int} {x4 : Int} {x5 : Int} {x6 : Int} {y0 : Int} {h : vH} (s1 : shModel h) (p2 : ¬ (y0 = 0) → 0 ≤ x6) (p3 : ¬ (y0 = 0) → x6 < 142) (p4 : ¬ (y0 = 0) → (-2147483648) ≤ h 2 320 x6 + x3) (p5 : ¬ (y0 = 0) → h 2 320 x6 + x3 < 2147483648) (p6 : ¬ (y0 = 0) → 0 ≤ h 2 320 x6 + x3) (p7 : ¬ (y0 = 0) → h 2 320 x6 + x3 < 140) (p8 : ¬ (y0 = 0) → x4 = 0 → 0 ≤ h 2 319 (h 2 320 x6 + x3)) (p9 : ¬ (y0 = 0) → x4 = 0 → h 2 319 (h 2 320 x6 + x3) < 140) (p10 : ¬ (y0 = 0) → ¬ (x4 = 0) → x4 = 1 → 0 ≤ h 2 319 (h 2 320 x6 + x3)) (p11 : ¬ (y0 = 0) → ¬ (x4 = 0) → x4 = 1 → h 2 319 (h 2 320 x6 + x3) < 140) (p12 : ¬ (y0 = 0) → ¬ (x4 = 0) → ¬ (x4 = 1) → x4 = 2 → 0 ≤ h 2 319 (h 2 320 x6 + x3)) (p13 : ¬ (y0 = 0) → ¬ (x4 = 0) → ¬ (x4 = 1) → x4 = 2 → h 2 319 (h 2 320 x6 + x3) < 140) (p14 : ¬ (y0 = 0) → ¬ (x4 = 0) → ¬ (x4 = 1) → ¬ (x4 = 2) → x4 = 3 → 0 ≤ h 2 319 (h 2 320 x6 + x3)) (p15 : ¬ (y0 = 0) → ¬ (x4 = 0) → ¬ (x4 = 1) → ¬ (x4 = 2) → x4 = 3 → h 2 319 (h 2 320 x6 + x3) < 140) (p16 : ¬ (y0 = 0) → ¬ (x4 = 0) → ¬ (x4 = 1) → ¬ (x4 = 2) → ¬ (x4 = 3) → x4 = 4 → 0 ≤ h 2 319 (h 2 320 x6 + x3)) (p17 : ¬ (y0 = 0) → ¬ (x4 = 0) → ¬ (x4 = 1) → ¬ (x4 = 2) → ¬ (x4 = 3) → x4 = 4 → h 2 319 (h 2 320 x6 + x3) < 140) (p18 : ¬ (y0 = 0) → ¬ (x4 = 0) → ¬ (x4 = 1) → ¬ (x4 = 2) → ¬ (x4 = 3) → ¬ (x4 = 4) → 0 ≤ h 2 319 (h 2 320 x6 + x3)) (p19 : ¬ (y0 = 0) → ¬ (x4 = 0) → ¬ (x4 = 1) → ¬ (x4 = 2) → ¬ (x4 = 3) → ¬ (x4 = 4) → h 2 319 (h 2 320 x6 + x3) < 140) : vrun mX13_cell 92 [(1, 282), (0, x1), (0, x2), (0, x3), (0, x4), (0, x5), (0, x6), (9, 0)] [(0, y0)] h = if y0 = 0 then some (.inl (some (0, 0)), h) else some (.inl (some (0, (if x4 = 0 then h 2 311 (h 2 319 (h 2 320 x6 + x3)) else (if x4 = 1 then h 2 312 (h 2 319 (h 2 320 x6 + x3)) else (if x4 = 2 then h 2 317 (h 2 319 (h 2 320 x6 + x3)) else (if x4 = 3 then h 2 315 (h 2 319 (h 2 320 x6 + x3)) else (if x4 = 4 then h 2 316 (h 2 319 (h 2 320 x6 + x3)) else h 2 313 (h 2 319 (h 2 320 x6 + x3))))))))), h) := by
  refine (rg_if_ne (t := 97) (pc := 92) (dd bX13_cell dX13_cell_92) rfl).trans (itec (fun c1 => ?_) (fun c1 => ?_))
  · refine (rn_iconst (pc := 95) (dd bX13_cell dX13_cell_95) (by decide)).trans ?_
    exact rn_ireturn (pc := 96) (dd bX13_cell dX13_cell_96) (Or.inl rfl)
  · refine (rn_aload_n (pc := 97) (dd bX13_cell dX13_cell_97) rfl).trans ?_
    refine (rg_gf (pc := 98) (dd bX13_cell dX13_cell_98) (ci := 14) (j := 38) rfl rfl (key := 1538) rfl (kc := 34) rfl s1.1 s1.2.2.2.2.2.2.2.2.2.2.2.2.2.2.2.2.2.2.2.2.2.2.2.2.2.2.2.2.2.2.2.2.2.2.2.2.2.2.2.2.2.2.2.2.2.2.2.2.2.2.2.2.2.2.2.2.2.2.2.2.2.2.2.2.2.2.2.2.2.2.2.2.2.2.2.2.2.2.2.2.2.2.2.2.2.2.2.2.2.2.2.2.2.2.2.2.2.2.2.2.2.2.2.2.2.2.2.2.2.1).trans ?_
    refine (rn_aload_n (pc := 101) (dd bX13_cell dX13_cell_101) rfl).trans ?_
    refine (rg_gf (pc := 102) (dd bX13_cell dX13_cell_102) (ci := 14) (j := 39) rfl rfl (key := 1539) rfl (kc := 34) rfl s1.1 s1.2.2.2.2.2.2.2.2.2.2.2.2.2.2.2.2.2.2.2.2.2.2.2.2.2.2.2.2.2.2.2.2.2.2.2.2.2.2.2.2.2.2.2.2.2.2.2.2.2.2.2.2.2.2.2.2.2.2.2.2.2.2.2.2.2.2.2.2.2.2.2.2.2.2.2.2.2.2.2.2.2.2.2.2.2.2.2.2.2.2.2.2.2.2.2.2.2.2.2.2.2.2.2.2.2.2.2.2.2.2.2.2.1).trans ?_
    refine (rn_iload (pc := 105) (dd bX13_cell dX13_cell_105) rfl).trans ?_
    refine (rg_iaload (pc := 107) (dd bX13_cell dX13_cell_107) s1.2.2.2.2.2.2.2.2.2.2.2.2.2.2.2.2.2.2.2.2.2.2.2.2.2.2.2.2.2.2.2.2.2.2.2.2.2.2.2.2.2.2.2.2.2.2.2.2.2.2.2.2.2.2.2.2.2.2.2.2.2.2.2.2.2.2.2.2.2.2.2.2.2.2.2.2.2.2.2.2.2.2.2.2.2.2.2.2.2.2.2.2.2.2.2.2.2.2.2.2.2.2.2.2.2.2.2.2.2.2.2.2.2.1 s1.2.2.2.2.2.2.2.2.2.2.2.2.2.2.2.2.2.2.2.2.2.2.2.2.2.2.2.2.2.2.2.2.2.2.2.2.2.2.2.2.2.2.2.2.2.2.2.2.2.2.2.2.2.2.2.2.2.2.2.2.2.2.2.2.2.2.2.2.2.2.2.2.2.2.2.2.2.2.2.2.2.2.2.2.2.2.2.2.2.2.2.2.2.2.2.2.2.2.2.2.2.2.2.2.2.2.2.2.2.2.2.2.2.2.1 (p2 c1) (p3 c1) rfl).trans ?_
    refine (rn_iload_n (pc := 108) (dd bX13_cell dX13_cell_108) rfl).trans ?_
    refine (rg_iadd (pc := 109) (dd bX13_cell dX13_cell_109) (p4 c1) (p5 c1)).trans ?_
    refine (rg_iaload (pc := 110) (dd bX13_cell dX13_cell_110) s1.2.2.2.2.2.2.2.2.2.2.2.2.2.2.2.2.2.2.2.2.2.2.2.2.2.2.2.2.2.2.2.2.2.2.2.2.2.2.2.2.2.2.2.2.2.2.2.2.2.2.2.2.2.2.2.2.2.2.2.2.2.2.2.2.2.2.2.2.2.2.2.2.2.2.2.2.2.2.2.2.2.2.2.2.2.2.2.2.2.2.2.2.2.2.2.2.2.2.2.2.2.2.2.2.2.2.2.2.2.2.1 s1.2.2.2.2.2.2.2.2.2.2.2.2.2.2.2.2.2.2.2.2.2.2.2.2.2.2.2.2.2.2.2.2.2.2.2.2.2.2.2.2.2.2.2.2.2.2.2.2.2.2.2.2.2.2.2.2.2.2.2.2.2.2.2.2.2.2.2.2.2.2.2.2.2.2.2.2.2.2.2.2.2.2.2.2.2.2.2.2.2.2.2.2.2.2.2.2.2.2.2.2.2.2.2.2.2.2.2.2.2.2.2.1 (p6 c1) (p7 c1) rfl).trans ?_
    refine (rn_istore (pc := 111) (dd bX13_cell dX13_cell_111) (Nat.le_of_ble_eq_true rfl) rfl).trans ?_
    refine (rn_iload (pc := 113) (dd bX13_cell dX13_cell_113) rfl).trans ?_
    have e5 : vrun mX13_cell 115 [(1, 282), (0, x1), (0, x2), (0, x3), (0, x4), (0, x5), (0, x6), (0, h 2 319 (h 2 320 x6 + x3))] [(0, x4)] h = vrun mX13_cell 199 [(1, 282), (0, x1), (0, x2), (0, x3), (0, x4), (0, x5), (0, x6), (0, h 2 319 (h 2 320 x6 + x3))] [(0, (if x4 = 0 then h 2 311 (h 2 319 (h 2 320 x6 + x3)) else (if x4 = 1 then h 2 312 (h 2 319 (h 2 320 x6 + x3)) else (if x4 = 2 then h 2 317 (h 2 319 (h 2 320 x6 + x3)) else (if x4 = 3 then h 2 315 (h 2 319 (h 2 320 x6 + x3)) else (if x4 = 4 then h 2 316 (h 2 319 (h 2 320 x6 + x3)) else h 2 313 (h 2 319 (h 2 320 x6 + x3))))))))] h := by
      refine (rg_if_ne (t := 128) (pc := 115) (dd bX13_cell dX13_cell_115) rfl).trans ?_
      by_cases c2 : x4 = 0
      · refine (if_pos c2).trans ?_
        refine (rn_aload_n (pc := 118) (dd bX13_cell dX13_cell_118) rfl).trans ?_
        refine (rg_gf (pc := 119) (dd bX13_cell dX13_cell_119) (ci := 14) (j := 30) rfl rfl (key := 1530) rfl (kc := 34) rfl s1.1 s1.2.2.2.2.2.2.2.2.2.2.2.2.2.2.2.2.2.2.2.2.2.2.2.2.2.2.2.2.2.2.2.2.2.2.2.2.2.2.2.2.2.2.2.2.2.2.2.2.2.2.2.2.2.2.2.2.2.2.2.2.2.2.2.2.2.2.2.2.2.2.2.2.2.2.2.2.2.2.2.2.2.2.2.2.2.1).trans ?_
        refine (rn_iload (pc := 122) (dd bX13_cell dX13_cell_122) rfl).trans ?_
        refine (rg_iaload (pc := 124) (dd bX13_cell dX13_cell_124) s1.2.2.2.2.2.2.2.2.2.2.2.2.2.2.2.2.2.2.2.2.2.2.2.2.2.2.2.2.2.2.2.2.2.2.2.2.2.2.2.2.2.2.2.2.2.2.2.2.2.2.2.2.2.2.2.2.2.2.2.2.2.2.2.2.2.2.2.2.2.2.2.2.2.2.2.2.2.2.2.2.2.2.2.2.2.2.1 s1.2.2.2.2.2.2.2.2.2.2.2.2.2.2.2.2.2.2.2.2.2.2.2.2.2.2.2.2.2.2.2.2.2.2.2.2.2.2.2.2.2.2.2.2.2.2.2.2.2.2.2.2.2.2.2.2.2.2.2.2.2.2.2.2.2.2.2.2.2.2.2.2.2.2.2.2.2.2.2.2.2.2.2.2.2.2.2.1 (p8 c1 c2) (p9 c1 c2) rfl).trans ?_
        refine (rn_goto (t := 199) (pc := 125) (dd bX13_cell dX13_cell_125) rfl).trans ?_
        refine Eq.trans (b := vrun mX13_cell 199 [(1, 282), (0, x1), (0, x2), (0, x3), (0, x4), (0, x5), (0, x6), (0, h 2 319 (h 2 320 x6 + x3))] [(0, h 2 311 (h 2 319 (h 2 320 x6 + x3)))] h) rfl ?_
        simp only [if_pos c2]
      · refine (if_neg c2).trans ?_
        refine (rn_iload (pc := 128) (dd bX13_cell dX13_cell_128) rfl).trans ?_
        refine (rn_iconst (pc := 130) (dd bX13_cell dX13_cell_130) (by decide)).trans ?_
        have e4 : vrun mX13_cell 131 [(1, 282), (0, x1), (0, x2), (0, x3), (0, x4), (0, x5), (0, x6), (0, h 2 319 (h 2 320 x6 + x3))] [(0, 1), (0, x4)] h = vrun mX13_cell 199 [(1, 282), (0, x1), (0, x2), (0, x3), (0, x4), (0, x5), (0, x6), (0, h 2 319 (h 2 320 x6 + x3))] [(0, (if x4 = 1 then h 2 312 (h 2 319 (h 2 320 x6 + x3)) else (if x4 = 2 then h 2 317 (h 2 319 (h 2 320 x6 + x3)) else (if x4 = 3 then h 2 315 (h 2 319 (h 2 320 x6 + x3)) else (if x4 = 4 then h 2 316 (h 2 319 (h 2 320 x6 + x3)) else h 2 313 (h 2 319 (h 2 320 x6 + x3)))))))] h := by
          refine (rg_icmp_ne (t := 144) (pc := 131) (dd bX13_cell dX13_cell_131) rfl).trans ?_
          by_cases c3 : x4 = 1
          · refine (if_pos c3).trans ?_
            refine (rn_aload_n (pc := 134) (dd bX13_cell dX13_cell_134) rfl).trans ?_
            refine (rg_gf (pc := 135) (dd bX13_cell dX13_cell_135) (ci := 14) (j := 31) rfl rfl (key := 1531) rfl (kc := 34) rfl s1.1 s1.2.2.2.2.2.2.2.2.2.2.2.2.2.2.2.2.2.2.2.2.2.2.2.2.2.2.2.2.2.2.2.2.2.2.2.2.2.2.2.2.2.2.2.2.2.2.2.2.2.2.2.2.2.2.2.2.2.2.2.2.2.2.2.2.2.2.2.2.2.2.2.2.2.2.2.2.2.2.2.2.2.2.2.2.2.2.2.2.1).trans ?_
            refine (rn_iload (pc := 138) (dd bX13_cell dX13_cell_138) rfl).trans ?_
            refine (rg_iaload (pc := 140) (dd bX13_cell dX13_cell_140) s1.2.2.2.2.2.2.2.2.2.2.2.2.2.2.2.2.2.2.2.2.2.2.2.2.2.2.2.2.2.2.2.2.2.2.2.2.2.2.2.2.2.2.2.2.2.2.2.2.2.2.2.2.2.2.2.2.2.2.2.2.2.2.2.2.2.2.2.2.2.2.2.2.2.2.2.2.2.2.2.2.2.2.2.2.2.2.2.2.2.1 s1.2.2.2.2.2.2.2.2.2.2.2.2.2.2.2.2.2.2.2.2.2.2.2.2.2.2.2.2.2.2.2.2.2.2.2.2.2.2.2.2.2.2.2.2.2.2.2.2.2.2.2.2.2.2.2.2.2.2.2.2.2.2.2.2.2.2.2.2.2.2.2.2.2.2.2.2.2.2.2.2.2.2.2.2.2.2.2.2.2.2.1 (p10 c1 c2 c3) (p11 c1 c2 c3) rfl).trans ?_
            refine (rn_goto (t := 199) (pc := 141) (dd bX13_cell dX13_cell_141) rfl).trans ?_
            refine Eq.trans (b := vrun mX13_cell 199 [(1, 282), (0, x1), (0, x2), (0, x3), (0, x4), (0, x5), (0, x6), (0, h 2 319 (h 2 320 x6 + x3))] [(0, h 2 312 (h 2 319 (h 2 320 x6 + x3)))] h) rfl ?_
            simp only [if_pos c3]
          · refine (if_neg c3).trans ?_
            refine (rn_iload (pc := 144) (dd bX13_cell dX13_cell_144) rfl).trans ?_
            refine (rn_iconst (pc := 146) (dd bX13_cell dX13_cell_146) (by decide)).trans ?_
            have e3 : vrun mX13_cell 147 [(1, 282), (0, x1), (0, x2), (0, x3), (0, x4), (0, x5), (0, x6), (0, h 2 319 (h 2 320 x6 + x3))] [(0, 2), (0, x4)] h = vrun mX13_cell 199 [(1, 282), (0, x1), (0, x2), (0, x3), (0, x4), (0, x5), (0, x6), (0, h 2 319 (h 2 320 x6 + x3))] [(0, (if x4 = 2 then h 2 317 (h 2 319 (h 2 320 x6 + x3)) else (if x4 = 3 then h 2 315 (h 2 319 (h 2 320 x6 + x3)) else (if x4 = 4 then h 2 316 (h 2 319 (h 2 320 x6 + x3)) else h 2 313 (h 2 319 (h 2 320 x6 + x3))))))] h := by
              refine (rg_icmp_ne (t := 160) (pc := 147) (dd bX13_cell dX13_cell_147) rfl).trans ?_
              by_cases c4 : x4 = 2
              · refine (if_pos c4).trans ?_
                refine (rn_aload_n (pc := 150) (dd bX13_cell dX13_cell_150) rfl).trans ?_
                refine (rg_gf (pc := 151) (dd bX13_cell dX13_cell_151) (ci := 14) (j := 36) rfl rfl (key := 1536) rfl (kc := 34) rfl s1.1 s1.2.2.2.2.2.2.2.2.2.2.2.2.2.2.2.2.2.2.2.2.2.2.2.2.2.2.2.2.2.2.2.2.2.2.2.2.2.2.2.2.2.2.2.2.2.2.2.2.2.2.2.2.2.2.2.2.2.2.2.2.2.2.2.2.2.2.2.2.2.2.2.2.2.2.2.2.2.2.2.2.2.2.2.2.2.2.2.2.2.2.2.2.2.2.2.2.2.2.2.2.2.2.2.1).trans ?_
                refine (rn_iload (pc := 154) (dd bX13_cell dX13_cell_154) rfl).trans ?_
                refine (rg_iaload (pc := 156) (dd bX13_cell dX13_cell_156) s1.2.2.2.2.2.2.2.2.2.2.2.2.2.2.2.2.2.2.2.2.2.2.2.2.2.2.2.2.2.2.2.2.2.2.2.2.2.2.2.2.2.2.2.2.2.2.2.2.2.2.2.2.2.2.2.2.2.2.2.2.2.2.2.2.2.2.2.2.2.2.2.2.2.2.2.2.2.2.2.2.2.2.2.2.2.2.2.2.2.2.2.2.2.2.2.2.2.2.2.2.2.2.2.2.1 s1.2.2.2.2.2.2.2.2.2.2.2.2.2.2.2.2.2.2.2.2.2.2.2.2.2.2.2.2.2.2.2.2.2.2.2.2.2.2.2.2.2.2.2.2.2.2.2.2.2.2.2.2.2.2.2.2.2.2.2.2.2.2.2.2.2.2.2.2.2.2.2.2.2.2.2.2.2.2.2.2.2.2.2.2.2.2.2.2.2.2.2.2.2.2.2.2.2.2.2.2.2.2.2.2.2.1 (p12 c1 c2 c3 c4) (p13 c1 c2 c3 c4) rfl).trans ?_
                refine (rn_goto (t := 199) (pc := 157) (dd bX13_cell dX13_cell_157) rfl).trans ?_
                refine Eq.trans (b := vrun mX13_cell 199 [(1, 282), (0, x1), (0, x2), (0, x3), (0, x4), (0, x5), (0, x6), (0, h 2 319 (h 2 320 x6 + x3))] [(0, h 2 317 (h 2 319 (h 2 320 x6 + x3)))] h) rfl ?_
                simp only [if_pos c4]
              · refine (if_neg c4).trans ?_
                refine (rn_iload (pc := 160) (dd bX13_cell dX13_cell_160) rfl).trans ?_
                refine (rn_iconst (pc := 162) (dd bX13_cell dX13_cell_162) (by decide)).trans ?_
                have e2 : vrun mX13_cell 163 [(1, 282), (0, x1), (0, x2), (0, x3), (0, x4), (0, x5), (0, x6), (0, h 2 319 (h 2 320 x6 + x3))] [(0, 3), (0, x4)] h = vrun mX13_cell 199 [(1, 282), (0, x1), (0, x2), (0, x3), (0, x4), (0, x5), (0, x6), (0, h 2 319 (h 2 320 x6 + x3))] [(0, (if x4 = 3 then h 2 315 (h 2 319 (h 2 320 x6 + x3)) else (if x4 = 4 then h 2 316 (h 2 319 (h 2 320 x6 + x3)) else h 2 313 (h 2 319 (h 2 320 x6 + x3)))))] h := by
                  refine (rg_icmp_ne (t := 176) (pc := 163) (dd bX13_cell dX13_cell_163) rfl).trans ?_
                  by_cases c5 : x4 = 3
                  · refine (if_pos c5).trans ?_
                    refine (rn_aload_n (pc := 166) (dd bX13_cell dX13_cell_166) rfl).trans ?_
                    refine (rg_gf (pc := 167) (dd bX13_cell dX13_cell_167) (ci := 14) (j := 34) rfl rfl (key := 1534) rfl (kc := 34) rfl s1.1 s1.2.2.2.2.2.2.2.2.2.2.2.2.2.2.2.2.2.2.2.2.2.2.2.2.2.2.2.2.2.2.2.2.2.2.2.2.2.2.2.2.2.2.2.2.2.2.2.2.2.2.2.2.2.2.2.2.2.2.2.2.2.2.2.2.2.2.2.2.2.2.2.2.2.2.2.2.2.2.2.2.2.2.2.2.2.2.2.2.2.2.2.2.2.2.2.2.2.1).trans ?_
                    refine (rn_iload (pc := 170) (dd bX13_cell dX13_cell_170) rfl).trans ?_
                    refine (rg_iaload (pc := 172) (dd bX13_cell dX13_cell_172) s1.2.2.2.2.2.2.2.2.2.2.2.2.2.2.2.2.2.2.2.2.2.2.2.2.2.2.2.2.2.2.2.2.2.2.2.2.2.2.2.2.2.2.2.2.2.2.2.2.2.2.2.2.2.2.2.2.2.2.2.2.2.2.2.2.2.2.2.2.2.2.2.2.2.2.2.2.2.2.2.2.2.2.2.2.2.2.2.2.2.2.2.2.2.2.2.2.2.2.1 s1.2.2.2.2.2.2.2.2.2.2.2.2.2.2.2.2.2.2.2.2.2.2.2.2.2.2.2.2.2.2.2.2.2.2.2.2.2.2.2.2.2.2.2.2.2.2.2.2.2.2.2.2.2.2.2.2.2.2.2.2.2.2.2.2.2.2.2.2.2.2.2.2.2.2.2.2.2.2.2.2.2.2.2.2.2.2.2.2.2.2.2.2.2.2.2.2.2.2.2.1 (p14 c1 c2 c3 c4 c5) (p15 c1 c2 c3 c4 c5) rfl).trans ?_
                    refine (rn_goto (t := 199) (pc := 173) (dd bX13_cell dX13_cell_173) rfl).trans ?_
                    refine Eq.trans (b := vrun mX13_cell 199 [(1, 282), (0, x1), (0, x2), (0, x3), (0, x4), (0, x5), (0, x6), (0, h 2 319 (h 2 320 x6 + x3))] [(0, h 2 315 (h 2 319 (h 2 320 x6 + x3)))] h) rfl ?_
                    simp only [if_pos c5]
                  · refine (if_neg c5).trans ?_
                    refine (rn_iload (pc := 176) (dd bX13_cell dX13_cell_176) rfl).trans ?_
                    refine (rn_iconst (pc := 178) (dd bX13_cell dX13_cell_178) (by decide)).trans ?_
                    have e1 : vrun mX13_cell 179 [(1, 282), (0, x1), (0, x2), (0, x3), (0, x4), (0, x5), (0, x6), (0, h 2 319 (h 2 320 x6 + x3))] [(0, 4), (0, x4)] h = vrun mX13_cell 199 [(1, 282), (0, x1), (0, x2), (0, x3), (0, x4), (0, x5), (0, x6), (0, h 2 319 (h 2 320 x6 + x3))] [(0, (if x4 = 4 then h 2 316 (h 2 319 (h 2 320 x6 + x3)) else h 2 313 (h 2 319 (h 2 320 x6 + x3))))] h := by
                      refine (rg_icmp_ne (t := 192) (pc := 179) (dd bX13_cell dX13_cell_179) rfl).trans ?_
                      by_cases c6 : x4 = 4
                      · refine (if_pos c6).trans ?_
                        refine (rn_aload_n (pc := 182) (dd bX13_cell dX13_cell_182) rfl).trans ?_
                        refine (rg_gf (pc := 183) (dd bX13_cell dX13_cell_183) (ci := 14) (j := 35) rfl rfl (key := 1535) rfl (kc := 34) rfl s1.1 s1.2.2.2.2.2.2.2.2.2.2.2.2.2.2.2.2.2.2.2.2.2.2.2.2.2.2.2.2.2.2.2.2.2.2.2.2.2.2.2.2.2.2.2.2.2.2.2.2.2.2.2.2.2.2.2.2.2.2.2.2.2.2.2.2.2.2.2.2.2.2.2.2.2.2.2.2.2.2.2.2.2.2.2.2.2.2.2.2.2.2.2.2.2.2.2.2.2.2.2.2.1).trans ?_
                        refine (rn_iload (pc := 186) (dd bX13_cell dX13_cell_186) rfl).trans ?_
                        refine (rg_iaload (pc := 188) (dd bX13_cell dX13_cell_188) s1.2.2.2.2.2.2.2.2.2.2.2.2.2.2.2.2.2.2.2.2.2.2.2.2.2.2.2.2.2.2.2.2.2.2.2.2.2.2.2.2.2.2.2.2.2.2.2.2.2.2.2.2.2.2.2.2.2.2.2.2.2.2.2.2.2.2.2.2.2.2.2.2.2.2.2.2.2.2.2.2.2.2.2.2.2.2.2.2.2.2.2.2.2.2.2.2.2.2.2.2.2.1 s1.2.2.2.2.2.2.2.2.2.2.2.2.2.2.2.2.2.2.2.2.2.2.2.2.2.2.2.2.2.2.2.2.2.2.2.2.2.2.2.2.2.2.2.2.2.2.2.2.2.2.2.2.2.2.2.2.2.2.2.2.2.2.2.2.2.2.2.2.2.2.2.2.2.2.2.2.2.2.2.2.2.2.2.2.2.2.2.2.2.2.2.2.2.2.2.2.2.2.2.2.2.2.1 (p16 c1 c2 c3 c4 c5 c6) (p17 c1 c2 c3 c4 c5 c6) rfl).trans ?_
                        refine (rn_goto (t := 199) (pc := 189) (dd bX13_cell dX13_cell_189) rfl).trans ?_
                        refine Eq.trans (b := vrun mX13_cell 199 [(1, 282), (0, x1), (0, x2), (0, x3), (0, x4), (0, x5), (0, x6), (0, h 2 319 (h 2 320 x6 + x3))] [(0, h 2 316 (h 2 319 (h 2 320 x6 + x3)))] h) rfl ?_
                        simp only [if_pos c6]
                      · refine (if_neg c6).trans ?_
                        refine (rn_aload_n (pc := 192) (dd bX13_cell dX13_cell_192) rfl).trans ?_
                        refine (rg_gf (pc := 193) (dd bX13_cell dX13_cell_193) (ci := 14) (j := 32) rfl rfl (key := 1532) rfl (kc := 34) rfl s1.1 s1.2.2.2.2.2.2.2.2.2.2.2.2.2.2.2.2.2.2.2.2.2.2.2.2.2.2.2.2.2.2.2.2.2.2.2.2.2.2.2.2.2.2.2.2.2.2.2.2.2.2.2.2.2.2.2.2.2.2.2.2.2.2.2.2.2.2.2.2.2.2.2.2.2.2.2.2.2.2.2.2.2.2.2.2.2.2.2.2.2.2.2.1).trans ?_
                        refine (rn_iload (pc := 196) (dd bX13_cell dX13_cell_196) rfl).trans ?_
                        refine (rg_iaload (pc := 198) (dd bX13_cell dX13_cell_198) s1.2.2.2.2.2.2.2.2.2.2.2.2.2.2.2.2.2.2.2.2.2.2.2.2.2.2.2.2.2.2.2.2.2.2.2.2.2.2.2.2.2.2.2.2.2.2.2.2.2.2.2.2.2.2.2.2.2.2.2.2.2.2.2.2.2.2.2.2.2.2.2.2.2.2.2.2.2.2.2.2.2.2.2.2.2.2.2.2.2.2.2.2.1 s1.2.2.2.2.2.2.2.2.2.2.2.2.2.2.2.2.2.2.2.2.2.2.2.2.2.2.2.2.2.2.2.2.2.2.2.2.2.2.2.2.2.2.2.2.2.2.2.2.2.2.2.2.2.2.2.2.2.2.2.2.2.2.2.2.2.2.2.2.2.2.2.2.2.2.2.2.2.2.2.2.2.2.2.2.2.2.2.2.2.2.2.2.2.1 (p18 c1 c2 c3 c4 c5 c6) (p19 c1 c2 c3 c4 c5 c6) rfl).trans ?_
                        refine Eq.trans (b := vrun mX13_cell 199 [(1, 282), (0, x1), (0, x2), (0, x3), (0, x4), (0, x5), (0, x6), (0, h 2 319 (h 2 320 x6 + x3))] [(0, h 2 313 (h 2 319 (h 2 320 x6 + x3)))] h) rfl ?_
                        simp only [if_neg c6]
                    refine e1.trans ?_
                    refine Eq.trans (b := vrun mX13_cell 199 [(1, 282), (0, x1), (0, x2), (0, x3), (0, x4), (0, x5), (0, x6), (0, h 2 319 (h 2 320 x6 + x3))] [(0, (if x4 = 4 then h 2 316 (h 2 319 (h 2 320 x6 + x3)) else h 2 313 (h 2 319 (h 2 320 x6 + x3))))] h) rfl ?_
                    simp only [if_neg c5]
                refine e2.trans ?_
                refine Eq.trans (b := vrun mX13_cell 199 [(1, 282), (0, x1), (0, x2), (0, x3), (0, x4), (0, x5), (0, x6), (0, h 2 319 (h 2 320 x6 + x3))] [(0, (if x4 = 3 then h 2 315 (h 2 319 (h 2 320 x6 + x3)) else (if x4 = 4 then h 2 316 (h 2 319 (h 2 320 x6 + x3)) else h 2 313 (h 2 319 (h 2 320 x6 + x3)))))] h) rfl ?_
                simp only [if_neg c4]
            refine e3.trans ?_
            refine Eq.trans (b := vrun mX13_cell 199 [(1, 282), (0, x1), (0, x2), (0, x3), (0, x4), (0, x5), (0, x6), (0, h 2 319 (h 2 320 x6 + x3))] [(0, (if x4 = 2 then h 2 317 (h 2 319 (h 2 320 x6 + x3)) else (if x4 = 3 then h 2 315 (h 2 319 (h 2 320 x6 + x3)) else (if x4 = 4 then h 2 316 (h 2 319 (h 2 320 x6 + x3)) else h 2 313 (h 2 319 (h 2 320 x6 + x3))))))] h) rfl ?_
            simp only [if_neg c3]
        refine e4.trans ?_
        refine Eq.trans (b := vrun mX13_cell 199 [(1, 282), (0, x1), (0, x2), (0, x3), (0, x4), (0, x5), (0, x6), (0, h 2 319 (h 2 320 x6 + x3))] [(0, (if x4 = 1 then h 2 312 (h 2 319 (h 2 320 x6 + x3)) else (if x4 = 2 then h 2 317 (h 2 319 (h 2 320 x6 + x3)) else (if x4 = 3 then h 2 315 (h 2 319 (h 2 320 x6 + x3)) else (if x4 = 4 then h 2 316 (h 2 319 (h 2 320 x6 + x3)) else h 2 313 (h 2 319 (h 2 320 x6 + x3)))))))] h) rfl ?_
        simp only [if_neg c2]
    refine e5.trans ?_
    exact rn_ireturn (pc := 199) (dd bX13_cell dX13_cell_199) (Or.inl rfl)
theorem rX13_cell_19 {x1 : Int} {x2 : Int} {x3 : Int} {x4 : Int} {x5 : Int} {y0 : Int} {h : vH} (s1 : shModel h) (p2 : ¬ (x5 = 0) → (-2147483648) ≤ y0 + 1) (p3 : ¬ (x5 = 0) → y0 + 1 < 2147483648) (p4 : ¬ (x5 = 0) → 0 ≤ y0 + 1) (p5 : ¬ (x5 = 0) → y0 + 1 < 142) (p6 : ¬ (x5 = 0) → 0 ≤ y0) (p7 : ¬ (x5 = 0) → y0 < 142) (p8 : ¬ (x5 = 0) → (-2147483648) ≤ h 2 320 (y0 + 1) - h 2 320 y0) (p9 : ¬ (x5 = 0) → h 2 320 (y0 + 1) - h 2 320 y0 < 2147483648) (p10 : ¬ (x5 = 0) → (-2147483648) ≤ h 2 320 (y0 + 1) - h 2 320 y0 - 1) : vrun mX13_cell 19 [(1, 282), (0, x1), (0, x2), (0, x3), (0, x4), (0, x5), (9, 0), (9, 0)] [(0, y0)] h = vret vrun mX13_cell 89 [(1, 282), (0, x1), (0, x2), (0, x3), (0, x4), (0, (if ¬ (x5 = 0) ∧ ¬ (x3 < 0) ∧ ¬ (h 2 320 (y0 + 1) - h 2 320 y0 - 1 < x3) then 1 else 0)), (0, y0), (9, 0)] [] (vcl mX13_isFine [(1, 282), (0, (if ¬ (x5 = 0) ∧ ¬ (x3 < 0) ∧ ¬ (h 2 320 (y0 + 1) - h 2 320 y0 - 1 < x3) then (if ¬ (x4 < 0) ∧ ¬ (5 < x4) then 0 else 2) else 1))] h) := by
  refine (rn_goto (t := 23) (pc := 19) (dd bX13_cell dX13_cell_19) rfl).trans ?_
  refine (rn_istore (pc := 23) (dd bX13_cell dX13_cell_23) (Nat.le_of_ble_eq_true rfl) rfl).trans ?_
  refine (rn_iload (pc := 25) (dd bX13_cell dX13_cell_25) rfl).trans ?_
  have e2 : vrun mX13_cell 27 [(1, 282), (0, x1), (0, x2), (0, x3), (0, x4), (0, x5), (0, y0), (9, 0)] [(0, x5)] h = vrun mX13_cell 62 [(1, 282), (0, x1), (0, x2), (0, x3), (0, x4), (0, x5), (0, y0), (9, 0)] [(0, (if ¬ (x5 = 0) ∧ ¬ (x3 < 0) ∧ ¬ (h 2 320 (y0 + 1) - h 2 320 y0 - 1 < x3) then 1 else 0))] h := by
    refine (rn_if_eq (t := 61) (pc := 27) (dd bX13_cell dX13_cell_27) rfl).trans ?_
    by_cases c1 : x5 = 0
    · refine (if_pos c1).trans ?_
      refine (rn_iconst (pc := 61) (dd bX13_cell dX13_cell_61) (by decide)).trans ?_
      refine Eq.trans (b := vrun mX13_cell 62 [(1, 282), (0, x1), (0, x2), (0, x3), (0, x4), (0, x5), (0, y0), (9, 0)] [(0, 0)] h) rfl ?_
      simp only [c1, true_or, false_or, or_true, or_false, true_and, false_and, and_true, and_false, not_true_eq_false, not_false_eq_true, ne_eq, if_true, if_false, ↓reduceIte]
    · refine (if_neg c1).trans ?_
      refine (rn_iload_n (pc := 30) (dd bX13_cell dX13_cell_30) rfl).trans ?_
      refine (rn_iconst (pc := 31) (dd bX13_cell dX13_cell_31) (by decide)).trans ?_
      refine (rn_aload_n (pc := 32) (dd bX13_cell dX13_cell_32) rfl).trans ?_
      refine (rg_gf (pc := 33) (dd bX13_cell dX13_cell_33) (ci := 14) (j := 39) rfl rfl (key := 1539) rfl (kc := 34) rfl s1.1 s1.2.2.2.2.2.2.2.2.2.2.2.2.2.2.2.2.2.2.2.2.2.2.2.2.2.2.2.2.2.2.2.2.2.2.2.2.2.2.2.2.2.2.2.2.2.2.2.2.2.2.2.2.2.2.2.2.2.2.2.2.2.2.2.2.2.2.2.2.2.2.2.2.2.2.2.2.2.2.2.2.2.2.2.2.2.2.2.2.2.2.2.2.2.2.2.2.2.2.2.2.2.2.2.2.2.2.2.2.2.2.2.2.1).trans ?_
      refine (rn_iload (pc := 36) (dd bX13_cell dX13_cell_36) rfl).trans ?_
      refine (rn_iconst (pc := 38) (dd bX13_cell dX13_cell_38) (by decide)).trans ?_
      refine (rg_iadd (pc := 39) (dd bX13_cell dX13_cell_39) (p2 c1) (p3 c1)).trans ?_
      refine (rg_iaload (pc := 40) (dd bX13_cell dX13_cell_40) s1.2.2.2.2.2.2.2.2.2.2.2.2.2.2.2.2.2.2.2.2.2.2.2.2.2.2.2.2.2.2.2.2.2.2.2.2.2.2.2.2.2.2.2.2.2.2.2.2.2.2.2.2.2.2.2.2.2.2.2.2.2.2.2.2.2.2.2.2.2.2.2.2.2.2.2.2.2.2.2.2.2.2.2.2.2.2.2.2.2.2.2.2.2.2.2.2.2.2.2.2.2.2.2.2.2.2.2.2.2.2.2.2.2.1 s1.2.2.2.2.2.2.2.2.2.2.2.2.2.2.2.2.2.2.2.2.2.2.2.2.2.2.2.2.2.2.2.2.2.2.2.2.2.2.2.2.2.2.2.2.2.2.2.2.2.2.2.2.2.2.2.2.2.2.2.2.2.2.2.2.2.2.2.2.2.2.2.2.2.2.2.2.2.2.2.2.2.2.2.2.2.2.2.2.2.2.2.2.2.2.2.2.2.2.2.2.2.2.2.2.2.2.2.2.2.2.2.2.2.2.1 (p4 c1) (p5 c1) rfl).trans ?_
      refine (rn_aload_n (pc := 41) (dd bX13_cell dX13_cell_41) rfl).trans ?_
      refine (rg_gf (pc := 42) (dd bX13_cell dX13_cell_42) (ci := 14) (j := 39) rfl rfl (key := 1539) rfl (kc := 34) rfl s1.1 s1.2.2.2.2.2.2.2.2.2.2.2.2.2.2.2.2.2.2.2.2.2.2.2.2.2.2.2.2.2.2.2.2.2.2.2.2.2.2.2.2.2.2.2.2.2.2.2.2.2.2.2.2.2.2.2.2.2.2.2.2.2.2.2.2.2.2.2.2.2.2.2.2.2.2.2.2.2.2.2.2.2.2.2.2.2.2.2.2.2.2.2.2.2.2.2.2.2.2.2.2.2.2.2.2.2.2.2.2.2.2.2.2.1).trans ?_
      refine (rn_iload (pc := 45) (dd bX13_cell dX13_cell_45) rfl).trans ?_
      refine (rg_iaload (pc := 47) (dd bX13_cell dX13_cell_47) s1.2.2.2.2.2.2.2.2.2.2.2.2.2.2.2.2.2.2.2.2.2.2.2.2.2.2.2.2.2.2.2.2.2.2.2.2.2.2.2.2.2.2.2.2.2.2.2.2.2.2.2.2.2.2.2.2.2.2.2.2.2.2.2.2.2.2.2.2.2.2.2.2.2.2.2.2.2.2.2.2.2.2.2.2.2.2.2.2.2.2.2.2.2.2.2.2.2.2.2.2.2.2.2.2.2.2.2.2.2.2.2.2.2.1 s1.2.2.2.2.2.2.2.2.2.2.2.2.2.2.2.2.2.2.2.2.2.2.2.2.2.2.2.2.2.2.2.2.2.2.2.2.2.2.2.2.2.2.2.2.2.2.2.2.2.2.2.2.2.2.2.2.2.2.2.2.2.2.2.2.2.2.2.2.2.2.2.2.2.2.2.2.2.2.2.2.2.2.2.2.2.2.2.2.2.2.2.2.2.2.2.2.2.2.2.2.2.2.2.2.2.2.2.2.2.2.2.2.2.2.1 (p6 c1) (p7 c1) rfl).trans ?_
      refine (rg_isub (pc := 48) (dd bX13_cell dX13_cell_48) (p8 c1) (p9 c1)).trans ?_
      refine (rn_iconst (pc := 49) (dd bX13_cell dX13_cell_49) (by decide)).trans ?_
      refine (rg_isub (pc := 50) (dd bX13_cell dX13_cell_50) (p10 c1) (by have z0 := p8 c1; have z1 := p9 c1; have z2 := p10 c1; omega)).trans ?_
      refine (rg_static (pc := 51) (dd bX13_cell dX13_cell_51) rfl (by decide) (Nat.le_of_ble_eq_true rfl) (as := [(0, x3), (0, 0), (0, h 2 320 (y0 + 1) - h 2 320 y0 - 1)]) rfl rfl ⟨Nat.le_of_ble_eq_true rfl, Nat.le_of_ble_eq_true rfl, Nat.le_of_ble_eq_true rfl, Nat.le_of_ble_eq_true rfl⟩).trans ?_
      refine (vret_v spX13_isIn).trans ?_
      have e1 : vrun mX13_cell 54 [(1, 282), (0, x1), (0, x2), (0, x3), (0, x4), (0, x5), (0, y0), (9, 0)] [(0, (if ¬ (x3 < 0) ∧ ¬ (h 2 320 (y0 + 1) - h 2 320 y0 - 1 < x3) then 1 else 0))] h = vrun mX13_cell 62 [(1, 282), (0, x1), (0, x2), (0, x3), (0, x4), (0, x5), (0, y0), (9, 0)] [(0, (if ¬ (x3 < 0) ∧ ¬ (h 2 320 (y0 + 1) - h 2 320 y0 - 1 < x3) then 1 else 0))] h := by
        refine (rg_beq (t := 61) (pc := 54) (dd bX13_cell dX13_cell_54) rfl).trans ?_
        by_cases c2 : ¬ (x3 < 0) ∧ ¬ (h 2 320 (y0 + 1) - h 2 320 y0 - 1 < x3)
        · refine (if_pos c2).trans ?_
          refine (rn_iconst (pc := 57) (dd bX13_cell dX13_cell_57) (by decide)).trans ?_
          refine (rn_goto (t := 62) (pc := 58) (dd bX13_cell dX13_cell_58) rfl).trans ?_
          refine Eq.trans (b := vrun mX13_cell 62 [(1, 282), (0, x1), (0, x2), (0, x3), (0, x4), (0, x5), (0, y0), (9, 0)] [(0, 1)] h) rfl ?_
          simp only [c2, true_or, false_or, or_true, or_false, true_and, false_and, and_true, and_false, not_true_eq_false, not_false_eq_true, ne_eq, if_true, if_false, ↓reduceIte]
        · refine (if_neg c2).trans ?_
          refine (rn_iconst (pc := 61) (dd bX13_cell dX13_cell_61) (by decide)).trans ?_
          refine Eq.trans (b := vrun mX13_cell 62 [(1, 282), (0, x1), (0, x2), (0, x3), (0, x4), (0, x5), (0, y0), (9, 0)] [(0, 0)] h) rfl ?_
          simp only [c2, true_or, false_or, or_true, or_false, true_and, false_and, and_true, and_false, not_true_eq_false, not_false_eq_true, ne_eq, if_true, if_false, ↓reduceIte]
      refine e1.trans ?_
      refine Eq.trans (b := vrun mX13_cell 62 [(1, 282), (0, x1), (0, x2), (0, x3), (0, x4), (0, x5), (0, y0), (9, 0)] [(0, (if ¬ (x3 < 0) ∧ ¬ (h 2 320 (y0 + 1) - h 2 320 y0 - 1 < x3) then 1 else 0))] h) rfl ?_
      simp only [c1, true_or, false_or, or_true, or_false, true_and, false_and, and_true, and_false, not_true_eq_false, not_false_eq_true, ne_eq, if_true, if_false, ↓reduceIte]
  refine e2.trans ?_
  refine (rn_istore (pc := 62) (dd bX13_cell dX13_cell_62) (Nat.le_of_ble_eq_true rfl) rfl).trans ?_
  refine (rn_aload_n (pc := 64) (dd bX13_cell dX13_cell_64) rfl).trans ?_
  refine (rn_iload (pc := 65) (dd bX13_cell dX13_cell_65) rfl).trans ?_
  have e4 : vrun mX13_cell 67 [(1, 282), (0, x1), (0, x2), (0, x3), (0, x4), (0, (if ¬ (x5 = 0) ∧ ¬ (x3 < 0) ∧ ¬ (h 2 320 (y0 + 1) - h 2 320 y0 - 1 < x3) then 1 else 0)), (0, y0), (9, 0)] [(0, (if ¬ (x5 = 0) ∧ ¬ (x3 < 0) ∧ ¬ (h 2 320 (y0 + 1) - h 2 320 y0 - 1 < x3) then 1 else 0)), (1, 282)] h = vrun mX13_cell 89 [(1, 282), (0, x1), (0, x2), (0, x3), (0, x4), (0, (if ¬ (x5 = 0) ∧ ¬ (x3 < 0) ∧ ¬ (h 2 320 (y0 + 1) - h 2 320 y0 - 1 < x3) then 1 else 0)), (0, y0), (9, 0)] [(0, (if ¬ (x5 = 0) ∧ ¬ (x3 < 0) ∧ ¬ (h 2 320 (y0 + 1) - h 2 320 y0 - 1 < x3) then (if ¬ (x4 < 0) ∧ ¬ (5 < x4) then 0 else 2) else 1)), (1, 282)] h := by
    refine (rg_bne (t := 74) (pc := 67) (dd bX13_cell dX13_cell_67) rfl).trans ?_
    by_cases c3 : ¬ (x5 = 0) ∧ ¬ (x3 < 0) ∧ ¬ (h 2 320 (y0 + 1) - h 2 320 y0 - 1 < x3)
    · refine (if_pos c3).trans ?_
      refine (rn_iload (pc := 74) (dd bX13_cell dX13_cell_74) rfl).trans ?_
      refine (rn_iconst (pc := 76) (dd bX13_cell dX13_cell_76) (by decide)).trans ?_
      refine (rn_iconst (pc := 77) (dd bX13_cell dX13_cell_77) (by decide)).trans ?_
      refine (rg_static (pc := 78) (dd bX13_cell dX13_cell_78) rfl (by decide) (Nat.le_of_ble_eq_true rfl) (as := [(0, x4), (0, 0), (0, 5)]) rfl rfl ⟨Nat.le_of_ble_eq_true rfl, Nat.le_of_ble_eq_true rfl, Nat.le_of_ble_eq_true rfl, Nat.le_of_ble_eq_true rfl⟩).trans ?_
      refine (vret_v spX13_isIn).trans ?_
      have e3 : vrun mX13_cell 81 [(1, 282), (0, x1), (0, x2), (0, x3), (0, x4), (0, (if ¬ (x5 = 0) ∧ ¬ (x3 < 0) ∧ ¬ (h 2 320 (y0 + 1) - h 2 320 y0 - 1 < x3) then 1 else 0)), (0, y0), (9, 0)] [(0, (if ¬ (x4 < 0) ∧ ¬ (5 < x4) then 1 else 0)), (1, 282)] h = vrun mX13_cell 89 [(1, 282), (0, x1), (0, x2), (0, x3), (0, x4), (0, (if ¬ (x5 = 0) ∧ ¬ (x3 < 0) ∧ ¬ (h 2 320 (y0 + 1) - h 2 320 y0 - 1 < x3) then 1 else 0)), (0, y0), (9, 0)] [(0, (if ¬ (x4 < 0) ∧ ¬ (5 < x4) then 0 else 2)), (1, 282)] h := by
        refine (rg_bne (t := 88) (pc := 81) (dd bX13_cell dX13_cell_81) rfl).trans ?_
        by_cases c4 : ¬ (x4 < 0) ∧ ¬ (5 < x4)
        · refine (if_pos c4).trans ?_
          refine (rn_iconst (pc := 88) (dd bX13_cell dX13_cell_88) (by decide)).trans ?_
          refine Eq.trans (b := vrun mX13_cell 89 [(1, 282), (0, x1), (0, x2), (0, x3), (0, x4), (0, (if ¬ (x5 = 0) ∧ ¬ (x3 < 0) ∧ ¬ (h 2 320 (y0 + 1) - h 2 320 y0 - 1 < x3) then 1 else 0)), (0, y0), (9, 0)] [(0, 0), (1, 282)] h) rfl ?_
          simp only [if_pos c4]
        · refine (if_neg c4).trans ?_
          refine (rn_iconst (pc := 84) (dd bX13_cell dX13_cell_84) (by decide)).trans ?_
          refine (rn_goto (t := 89) (pc := 85) (dd bX13_cell dX13_cell_85) rfl).trans ?_
          refine Eq.trans (b := vrun mX13_cell 89 [(1, 282), (0, x1), (0, x2), (0, x3), (0, x4), (0, (if ¬ (x5 = 0) ∧ ¬ (x3 < 0) ∧ ¬ (h 2 320 (y0 + 1) - h 2 320 y0 - 1 < x3) then 1 else 0)), (0, y0), (9, 0)] [(0, 2), (1, 282)] h) rfl ?_
          simp only [if_neg c4]
      refine e3.trans ?_
      refine Eq.trans (b := vrun mX13_cell 89 [(1, 282), (0, x1), (0, x2), (0, x3), (0, x4), (0, (if ¬ (x5 = 0) ∧ ¬ (x3 < 0) ∧ ¬ (h 2 320 (y0 + 1) - h 2 320 y0 - 1 < x3) then 1 else 0)), (0, y0), (9, 0)] [(0, (if ¬ (x4 < 0) ∧ ¬ (5 < x4) then 0 else 2)), (1, 282)] h) rfl ?_
      simp only [if_pos c3]
    · refine (if_neg c3).trans ?_
      refine (rn_iconst (pc := 70) (dd bX13_cell dX13_cell_70) (by decide)).trans ?_
      refine (rn_goto (t := 89) (pc := 71) (dd bX13_cell dX13_cell_71) rfl).trans ?_
      refine Eq.trans (b := vrun mX13_cell 89 [(1, 282), (0, x1), (0, x2), (0, x3), (0, x4), (0, (if ¬ (x5 = 0) ∧ ¬ (x3 < 0) ∧ ¬ (h 2 320 (y0 + 1) - h 2 320 y0 - 1 < x3) then 1 else 0)), (0, y0), (9, 0)] [(0, 1), (1, 282)] h) rfl ?_
      simp only [if_neg c3]
  refine e4.trans ?_
  exact rg_virtual (pc := 89) (dd bX13_cell dX13_cell_89) rfl rfl (by decide) (kc := 34) rfl s1.1 (as := [(1, 282), (0, (if ¬ (x5 = 0) ∧ ¬ (x3 < 0) ∧ ¬ (h 2 320 (y0 + 1) - h 2 320 y0 - 1 < x3) then (if ¬ (x4 < 0) ∧ ¬ (5 < x4) then 0 else 2) else 1))]) rfl ⟨Nat.le_of_ble_eq_true rfl, Nat.le_of_ble_eq_true rfl, Nat.le_of_ble_eq_true rfl, Nat.le_of_ble_eq_true rfl⟩
theorem bX13_isPlace : vmB mX13_isPlace = cX13_isPlace := rfl
theorem rX13_isPlace_0 {x1 : Int} {x2 : Int} {x3 : Int} {h : vH} (s1 : shModel h) (p2 : 0 ≤ x1) (p3 : x1 < 60) : vrun mX13_isPlace 0 [(1, 282), (0, x1), (0, x2), (0, x3)] [] h = some (.inl (some (0, (if (¬ (x2 < 0) ∧ ¬ (h 2 284 x1 < x2)) ∧ ¬ (x3 < 0) ∧ ¬ (1 < x3) then 1 else 0))), h) := by
  refine (rn_iload_n (pc := 0) (dd bX13_isPlace dX13_isPlace_0) rfl).trans ?_
  refine (rn_iconst (pc := 1) (dd bX13_isPlace dX13_isPlace_1) (by decide)).trans ?_
  refine (rn_aload_n (pc := 2) (dd bX13_isPlace dX13_isPlace_2) rfl).trans ?_
  refine (rg_gf (pc := 3) (dd bX13_isPlace dX13_isPlace_3) (ci := 14) (j := 2) rfl rfl (key := 1502) rfl (kc := 34) rfl s1.1 s1.2.2.2.2.1).trans ?_
  refine (rn_iload_n (pc := 6) (dd bX13_isPlace dX13_isPlace_6) rfl).trans ?_
  refine (rg_iaload (pc := 7) (dd bX13_isPlace dX13_isPlace_7) s1.2.2.2.2.2.1 s1.2.2.2.2.2.2.1 p2 p3 rfl).trans ?_
  refine (rg_static (pc := 8) (dd bX13_isPlace dX13_isPlace_8) rfl (by decide) (Nat.le_of_ble_eq_true rfl) (as := [(0, x2), (0, 0), (0, h 2 284 x1)]) rfl rfl ⟨Nat.le_of_ble_eq_true rfl, Nat.le_of_ble_eq_true rfl, Nat.le_of_ble_eq_true rfl, Nat.le_of_ble_eq_true rfl⟩).trans ?_
  refine (vret_v spX13_isIn).trans ?_
  have e2 : vrun mX13_isPlace 11 [(1, 282), (0, x1), (0, x2), (0, x3)] [(0, (if ¬ (x2 < 0) ∧ ¬ (h 2 284 x1 < x2) then 1 else 0))] h = vrun mX13_isPlace 28 [(1, 282), (0, x1), (0, x2), (0, x3)] [(0, (if (¬ (x2 < 0) ∧ ¬ (h 2 284 x1 < x2)) ∧ ¬ (x3 < 0) ∧ ¬ (1 < x3) then 1 else 0))] h := by
    refine (rg_beq (t := 27) (pc := 11) (dd bX13_isPlace dX13_isPlace_11) rfl).trans ?_
    by_cases c1 : ¬ (x2 < 0) ∧ ¬ (h 2 284 x1 < x2)
    · refine (if_pos c1).trans ?_
      refine (rn_iload_n (pc := 14) (dd bX13_isPlace dX13_isPlace_14) rfl).trans ?_
      refine (rn_iconst (pc := 15) (dd bX13_isPlace dX13_isPlace_15) (by decide)).trans ?_
      refine (rn_iconst (pc := 16) (dd bX13_isPlace dX13_isPlace_16) (by decide)).trans ?_
      refine (rg_static (pc := 17) (dd bX13_isPlace dX13_isPlace_17) rfl (by decide) (Nat.le_of_ble_eq_true rfl) (as := [(0, x3), (0, 0), (0, 1)]) rfl rfl ⟨Nat.le_of_ble_eq_true rfl, Nat.le_of_ble_eq_true rfl, Nat.le_of_ble_eq_true rfl, Nat.le_of_ble_eq_true rfl⟩).trans ?_
      refine (vret_v spX13_isIn).trans ?_
      have e1 : vrun mX13_isPlace 20 [(1, 282), (0, x1), (0, x2), (0, x3)] [(0, (if ¬ (x3 < 0) ∧ ¬ (1 < x3) then 1 else 0))] h = vrun mX13_isPlace 28 [(1, 282), (0, x1), (0, x2), (0, x3)] [(0, (if ¬ (x3 < 0) ∧ ¬ (1 < x3) then 1 else 0))] h := by
        refine (rg_beq (t := 27) (pc := 20) (dd bX13_isPlace dX13_isPlace_20) rfl).trans ?_
        by_cases c2 : ¬ (x3 < 0) ∧ ¬ (1 < x3)
        · refine (if_pos c2).trans ?_
          refine (rn_iconst (pc := 23) (dd bX13_isPlace dX13_isPlace_23) (by decide)).trans ?_
          refine (rn_goto (t := 28) (pc := 24) (dd bX13_isPlace dX13_isPlace_24) rfl).trans ?_
          refine Eq.trans (b := vrun mX13_isPlace 28 [(1, 282), (0, x1), (0, x2), (0, x3)] [(0, 1)] h) rfl ?_
          simp only [c2, true_or, false_or, or_true, or_false, true_and, false_and, and_true, and_false, not_true_eq_false, not_false_eq_true, ne_eq, if_true, if_false, ↓reduceIte]
        · refine (if_neg c2).trans ?_
          refine (rn_iconst (pc := 27) (dd bX13_isPlace dX13_isPlace_27) (by decide)).trans ?_
          refine Eq.trans (b := vrun mX13_isPlace 28 [(1, 282), (0, x1), (0, x2), (0, x3)] [(0, 0)] h) rfl ?_
          simp only [c2, true_or, false_or, or_true, or_false, true_and, false_and, and_true, and_false, not_true_eq_false, not_false_eq_true, ne_eq, if_true, if_false, ↓reduceIte]
      refine e1.trans ?_
      refine Eq.trans (b := vrun mX13_isPlace 28 [(1, 282), (0, x1), (0, x2), (0, x3)] [(0, (if ¬ (x3 < 0) ∧ ¬ (1 < x3) then 1 else 0))] h) rfl ?_
      simp only [c1, true_or, false_or, or_true, or_false, true_and, false_and, and_true, and_false, not_true_eq_false, not_false_eq_true, ne_eq, if_true, if_false, ↓reduceIte]
    · refine (if_neg c1).trans ?_
      refine (rn_iconst (pc := 27) (dd bX13_isPlace dX13_isPlace_27) (by decide)).trans ?_
      refine Eq.trans (b := vrun mX13_isPlace 28 [(1, 282), (0, x1), (0, x2), (0, x3)] [(0, 0)] h) rfl ?_
      simp only [c1, true_or, false_or, or_true, or_false, true_and, false_and, and_true, and_false, not_true_eq_false, not_false_eq_true, ne_eq, if_true, if_false, ↓reduceIte]
  refine e2.trans ?_
  exact rn_ireturn (pc := 28) (dd bX13_isPlace dX13_isPlace_28) (Or.inr ⟨rfl, b01⟩)
def fX13_isPlace (h : vH) (x1 : Int) (x2 : Int) (x3 : Int) : Int := (if (¬ (x2 < 0) ∧ ¬ (h 2 284 x1 < x2)) ∧ ¬ (x3 < 0) ∧ ¬ (1 < x3) then 1 else 0)
theorem spX13_isPlace {x1 : Int} {x2 : Int} {x3 : Int} {h : vH} (s1 : shModel h) (p2 : 0 ≤ x1) (p3 : x1 < 60) : vcl mX13_isPlace [(1, 282), (0, x1), (0, x2), (0, x3)] h = some (.inl (some (0, fX13_isPlace h x1 x2 x3)), h) := by
  refine (show _ = _ from rX13_isPlace_0 s1 p2 p3).trans ?_
  rfl
theorem bX13_taken : vmB mX13_taken = cX13_taken := rfl
theorem rX13_taken_0 {x1 : Int} {x2 : Int} {h : vH} : vrun mX13_taken 0 [(1, 282), (0, x1), (0, x2), (9, 0), (9, 0), (9, 0), (9, 0), (9, 0)] [] h = vrun mX13_taken 14 [(1, 282), (0, x1), (0, x2), (0, (-1)), (0, (-1)), (0, (-1)), (0, (-1)), (0, 0)] [] h := by
  refine (rn_iconst (pc := 0) (dd bX13_taken dX13_taken_0) (by decide)).trans ?_
  refine (rn_istore_n (pc := 1) (dd bX13_taken dX13_taken_1) (Nat.le_of_ble_eq_true rfl) rfl).trans ?_
  refine (rn_iconst (pc := 2) (dd bX13_taken dX13_taken_2) (by decide)).trans ?_
  refine (rn_istore (pc := 3) (dd bX13_taken dX13_taken_3) (Nat.le_of_ble_eq_true rfl) rfl).trans ?_
  refine (rn_iconst (pc := 5) (dd bX13_taken dX13_taken_5) (by decide)).trans ?_
  refine (rn_istore (pc := 6) (dd bX13_taken dX13_taken_6) (Nat.le_of_ble_eq_true rfl) rfl).trans ?_
  refine (rn_iconst (pc := 8) (dd bX13_taken dX13_taken_8) (by decide)).trans ?_
  refine (rn_istore (pc := 9) (dd bX13_taken dX13_taken_9) (Nat.le_of_ble_eq_true rfl) rfl).trans ?_
  refine (rn_iconst (pc := 11) (dd bX13_taken dX13_taken_11) (by decide)).trans ?_
  refine (rn_istore (pc := 12) (dd bX13_taken dX13_taken_12) (Nat.le_of_ble_eq_true rfl) rfl).trans ?_
  rfl
theorem rX13_taken_14 {x1 : Int} {x2 : Int} {x3 : Int} {x4 : Int} {x5 : Int} {x6 : Int} {x7 : Int} {h : vH} (s1 : shModel h) (p2 : ¬ (h 1540 282 0 ≤ x7) → 0 ≤ x7) (p3 : ¬ (h 1540 282 0 ≤ x7) → x7 < 140) (p4 : ¬ (h 1540 282 0 ≤ x7) → ¬ (h 2 313 x7 = (-1)) → (-2147483648) ≤ h 2 313 x7 + h 2 312 x7) (p5 : ¬ (h 1540 282 0 ≤ x7) → ¬ (h 2 313 x7 = (-1)) → h 2 313 x7 + h 2 312 x7 < 2147483648) : vrun mX13_taken 14 [(1, 282), (0, x1), (0, x2), (0, x3), (0, x4), (0, x5), (0, x6), (0, x7)] [] h = if h 1540 282 0 ≤ x7 then some (.inl (some (0, (if x2 = 1 then (if x4 = (-1) then x5 else x4) else (if x3 = (-1) then x6 else x3)))), vup h 1542 282 0 (if x2 = 1 ∧ ¬ (x4 = (-1)) ∨ ¬ (x2 = 1) ∧ x3 = (-1) then 1 else 0)) else vrun mX13_taken 14 [(1, 282), (0, x1), (0, x2), (0, (if h 2 313 x7 = (-1) then x3 else (if x3 = (-1) then (if h 2 313 x7 < x1 then x3 else x7) else x3))), (0, (if h 2 313 x7 = (-1) then x4 else (if x1 < h 2 313 x7 + h 2 312 x7 then x4 else x7))), (0, (if h 2 313 x7 = (-1) then x5 else (if x5 = (-1) then x7 else x5))), (0, (if h 2 313 x7 = (-1) then x6 else x7)), (0, x7 + 1)] [] h := by
  refine (rn_iload (pc := 14) (dd bX13_taken dX13_taken_14) rfl).trans ?_
  refine (rn_aload_n (pc := 16) (dd bX13_taken dX13_taken_16) rfl).trans ?_
  refine (rg_gf (pc := 17) (dd bX13_taken dX13_taken_17) (ci := 14) (j := 40) rfl rfl (key := 1540) rfl (kc := 34) rfl s1.1 rfl).trans ?_
  refine (rn_icmp_ge (t := 110) (pc := 20) (dd bX13_taken dX13_taken_20) rfl).trans (itec (fun c1 => ?_) (fun c1 => ?_))
  · refine (rn_aload_n (pc := 110) (dd bX13_taken dX13_taken_110) rfl).trans ?_
    refine (rn_iload_n (pc := 111) (dd bX13_taken dX13_taken_111) rfl).trans ?_
    refine (rn_iconst (pc := 112) (dd bX13_taken dX13_taken_112) (by decide)).trans ?_
    have e3 : vrun mX13_taken 113 [(1, 282), (0, x1), (0, x2), (0, x3), (0, x4), (0, x5), (0, x6), (0, x7)] [(0, 1), (0, x2), (1, 282)] h = vrun mX13_taken 140 [(1, 282), (0, x1), (0, x2), (0, x3), (0, x4), (0, x5), (0, x6), (0, x7)] [(0, (if x2 = 1 ∧ ¬ (x4 = (-1)) ∨ ¬ (x2 = 1) ∧ x3 = (-1) then 1 else 0)), (1, 282)] h := by
      refine (rg_icmp_ne (t := 130) (pc := 113) (dd bX13_taken dX13_taken_113) rfl).trans ?_
      by_cases c2 : x2 = 1
      · refine (if_pos c2).trans ?_
        refine (rn_iload (pc := 116) (dd bX13_taken dX13_taken_116) rfl).trans ?_
        refine (rn_iconst (pc := 118) (dd bX13_taken dX13_taken_118) (by decide)).trans ?_
        have e1 : vrun mX13_taken 119 [(1, 282), (0, x1), (0, x2), (0, x3), (0, x4), (0, x5), (0, x6), (0, x7)] [(0, (-1)), (0, x4), (1, 282)] h = vrun mX13_taken 140 [(1, 282), (0, x1), (0, x2), (0, x3), (0, x4), (0, x5), (0, x6), (0, x7)] [(0, (if ¬ (x4 = (-1)) then 1 else 0)), (1, 282)] h := by
          refine (rn_icmp_eq (t := 126) (pc := 119) (dd bX13_taken dX13_taken_119) rfl).trans ?_
          by_cases c3 : x4 = (-1)
          · refine (if_pos c3).trans ?_
            refine (rn_iconst (pc := 126) (dd bX13_taken dX13_taken_126) (by decide)).trans ?_
            refine (rn_goto (t := 140) (pc := 127) (dd bX13_taken dX13_taken_127) rfl).trans ?_
            refine Eq.trans (b := vrun mX13_taken 140 [(1, 282), (0, x1), (0, x2), (0, x3), (0, x4), (0, x5), (0, x6), (0, x7)] [(0, 0), (1, 282)] h) rfl ?_
            simp only [c3, true_or, false_or, or_true, or_false, true_and, false_and, and_true, and_false, not_true_eq_false, not_false_eq_true, ne_eq, if_true, if_false, ↓reduceIte]
          · refine (if_neg c3).trans ?_
            refine (rn_iconst (pc := 122) (dd bX13_taken dX13_taken_122) (by decide)).trans ?_
            refine (rn_goto (t := 140) (pc := 123) (dd bX13_taken dX13_taken_123) rfl).trans ?_
            refine Eq.trans (b := vrun mX13_taken 140 [(1, 282), (0, x1), (0, x2), (0, x3), (0, x4), (0, x5), (0, x6), (0, x7)] [(0, 1), (1, 282)] h) rfl ?_
            simp only [c3, true_or, false_or, or_true, or_false, true_and, false_and, and_true, and_false, not_true_eq_false, not_false_eq_true, ne_eq, if_true, if_false, ↓reduceIte]
        refine e1.trans ?_
        refine Eq.trans (b := vrun mX13_taken 140 [(1, 282), (0, x1), (0, x2), (0, x3), (0, x4), (0, x5), (0, x6), (0, x7)] [(0, (if ¬ (x4 = (-1)) then 1 else 0)), (1, 282)] h) rfl ?_
        simp only [c2, true_or, false_or, or_true, or_false, true_and, false_and, and_true, and_false, not_true_eq_false, not_false_eq_true, ne_eq, if_true, if_false, ↓reduceIte]
      · refine (if_neg c2).trans ?_
        refine (rn_iload_n (pc := 130) (dd bX13_taken dX13_taken_130) rfl).trans ?_
        refine (rn_iconst (pc := 131) (dd bX13_taken dX13_taken_131) (by decide)).trans ?_
        have e2 : vrun mX13_taken 132 [(1, 282), (0, x1), (0, x2), (0, x3), (0, x4), (0, x5), (0, x6), (0, x7)] [(0, (-1)), (0, x3), (1, 282)] h = vrun mX13_taken 140 [(1, 282), (0, x1), (0, x2), (0, x3), (0, x4), (0, x5), (0, x6), (0, x7)] [(0, (if x3 = (-1) then 1 else 0)), (1, 282)] h := by
          refine (rg_icmp_ne (t := 139) (pc := 132) (dd bX13_taken dX13_taken_132) rfl).trans ?_
          by_cases c4 : x3 = (-1)
          · refine (if_pos c4).trans ?_
            refine (rn_iconst (pc := 135) (dd bX13_taken dX13_taken_135) (by decide)).trans ?_
            refine (rn_goto (t := 140) (pc := 136) (dd bX13_taken dX13_taken_136) rfl).trans ?_
            refine Eq.trans (b := vrun mX13_taken 140 [(1, 282), (0, x1), (0, x2), (0, x3), (0, x4), (0, x5), (0, x6), (0, x7)] [(0, 1), (1, 282)] h) rfl ?_
            simp only [c4, true_or, false_or, or_true, or_false, true_and, false_and, and_true, and_false, not_true_eq_false, not_false_eq_true, ne_eq, if_true, if_false, ↓reduceIte]
          · refine (if_neg c4).trans ?_
            refine (rn_iconst (pc := 139) (dd bX13_taken dX13_taken_139) (by decide)).trans ?_
            refine Eq.trans (b := vrun mX13_taken 140 [(1, 282), (0, x1), (0, x2), (0, x3), (0, x4), (0, x5), (0, x6), (0, x7)] [(0, 0), (1, 282)] h) rfl ?_
            simp only [c4, true_or, false_or, or_true, or_false, true_and, false_and, and_true, and_false, not_true_eq_false, not_false_eq_true, ne_eq, if_true, if_false, ↓reduceIte]
        refine e2.trans ?_
        refine Eq.trans (b := vrun mX13_taken 140 [(1, 282), (0, x1), (0, x2), (0, x3), (0, x4), (0, x5), (0, x6), (0, x7)] [(0, (if x3 = (-1) then 1 else 0)), (1, 282)] h) rfl ?_
        simp only [c2, true_or, false_or, or_true, or_false, true_and, false_and, and_true, and_false, not_true_eq_false, not_false_eq_true, ne_eq, if_true, if_false, ↓reduceIte]
    refine e3.trans ?_
    refine (rg_pf (pc := 140) (dd bX13_taken dX13_taken_140) (ci := 14) (j := 42) rfl (key := 1542) rfl (kc := 34) rfl s1.1 rfl (fun _ => b01) (by decide)).trans ?_
    refine (rn_iload_n (pc := 143) (dd bX13_taken dX13_taken_143) rfl).trans ?_
    refine (rn_iconst (pc := 144) (dd bX13_taken dX13_taken_144) (by decide)).trans ?_
    have e6 : vrun mX13_taken 145 [(1, 282), (0, x1), (0, x2), (0, x3), (0, x4), (0, x5), (0, x6), (0, x7)] [(0, 1), (0, x2)] (vup h 1542 282 0 (if x2 = 1 ∧ ¬ (x4 = (-1)) ∨ ¬ (x2 = 1) ∧ x3 = (-1) then 1 else 0)) = vrun mX13_taken 175 [(1, 282), (0, x1), (0, x2), (0, x3), (0, x4), (0, x5), (0, x6), (0, x7)] [(0, (if x2 = 1 then (if x4 = (-1) then x5 else x4) else (if x3 = (-1) then x6 else x3)))] (vup h 1542 282 0 (if x2 = 1 ∧ ¬ (x4 = (-1)) ∨ ¬ (x2 = 1) ∧ x3 = (-1) then 1 else 0)) := by
      refine (rg_icmp_ne (t := 164) (pc := 145) (dd bX13_taken dX13_taken_145) rfl).trans ?_
      by_cases c5 : x2 = 1
      · refine (if_pos c5).trans ?_
        refine (rn_iload (pc := 148) (dd bX13_taken dX13_taken_148) rfl).trans ?_
        refine (rn_iconst (pc := 150) (dd bX13_taken dX13_taken_150) (by decide)).trans ?_
        have e4 : vrun mX13_taken 151 [(1, 282), (0, x1), (0, x2), (0, x3), (0, x4), (0, x5), (0, x6), (0, x7)] [(0, (-1)), (0, x4)] (vup h 1542 282 0 (if x2 = 1 ∧ ¬ (x4 = (-1)) ∨ ¬ (x2 = 1) ∧ x3 = (-1) then 1 else 0)) = vrun mX13_taken 175 [(1, 282), (0, x1), (0, x2), (0, x3), (0, x4), (0, x5), (0, x6), (0, x7)] [(0, (if x4 = (-1) then x5 else x4))] (vup h 1542 282 0 (if x2 = 1 ∧ ¬ (x4 = (-1)) ∨ ¬ (x2 = 1) ∧ x3 = (-1) then 1 else 0)) := by
          refine (rn_icmp_eq (t := 159) (pc := 151) (dd bX13_taken dX13_taken_151) rfl).trans ?_
          by_cases c6 : x4 = (-1)
          · refine (if_pos c6).trans ?_
            refine (rn_iload (pc := 159) (dd bX13_taken dX13_taken_159) rfl).trans ?_
            refine (rn_goto (t := 175) (pc := 161) (dd bX13_taken dX13_taken_161) rfl).trans ?_
            refine Eq.trans (b := vrun mX13_taken 175 [(1, 282), (0, x1), (0, x2), (0, x3), (0, x4), (0, x5), (0, x6), (0, x7)] [(0, x5)] (vup h 1542 282 0 (if x2 = 1 ∧ ¬ (x4 = (-1)) ∨ ¬ (x2 = 1) ∧ x3 = (-1) then 1 else 0))) rfl ?_
            simp only [if_pos c6]
          · refine (if_neg c6).trans ?_
            refine (rn_iload (pc := 154) (dd bX13_taken dX13_taken_154) rfl).trans ?_
            refine (rn_goto (t := 175) (pc := 156) (dd bX13_taken dX13_taken_156) rfl).trans ?_
            refine Eq.trans (b := vrun mX13_taken 175 [(1, 282), (0, x1), (0, x2), (0, x3), (0, x4), (0, x5), (0, x6), (0, x7)] [(0, x4)] (vup h 1542 282 0 (if x2 = 1 ∧ ¬ (x4 = (-1)) ∨ ¬ (x2 = 1) ∧ x3 = (-1) then 1 else 0))) rfl ?_
            simp only [if_neg c6]
        refine e4.trans ?_
        refine Eq.trans (b := vrun mX13_taken 175 [(1, 282), (0, x1), (0, x2), (0, x3), (0, x4), (0, x5), (0, x6), (0, x7)] [(0, (if x4 = (-1) then x5 else x4))] (vup h 1542 282 0 (if x2 = 1 ∧ ¬ (x4 = (-1)) ∨ ¬ (x2 = 1) ∧ x3 = (-1) then 1 else 0))) rfl ?_
        simp only [if_pos c5]
      · refine (if_neg c5).trans ?_
        refine (rn_iload_n (pc := 164) (dd bX13_taken dX13_taken_164) rfl).trans ?_
        refine (rn_iconst (pc := 165) (dd bX13_taken dX13_taken_165) (by decide)).trans ?_
        have e5 : vrun mX13_taken 166 [(1, 282), (0, x1), (0, x2), (0, x3), (0, x4), (0, x5), (0, x6), (0, x7)] [(0, (-1)), (0, x3)] (vup h 1542 282 0 (if x2 = 1 ∧ ¬ (x4 = (-1)) ∨ ¬ (x2 = 1) ∧ x3 = (-1) then 1 else 0)) = vrun mX13_taken 175 [(1, 282), (0, x1), (0, x2), (0, x3), (0, x4), (0, x5), (0, x6), (0, x7)] [(0, (if x3 = (-1) then x6 else x3))] (vup h 1542 282 0 (if x2 = 1 ∧ ¬ (x4 = (-1)) ∨ ¬ (x2 = 1) ∧ x3 = (-1) then 1 else 0)) := by
          refine (rn_icmp_eq (t := 173) (pc := 166) (dd bX13_taken dX13_taken_166) rfl).trans ?_
          by_cases c7 : x3 = (-1)
          · refine (if_pos c7).trans ?_
            refine (rn_iload (pc := 173) (dd bX13_taken dX13_taken_173) rfl).trans ?_
            refine Eq.trans (b := vrun mX13_taken 175 [(1, 282), (0, x1), (0, x2), (0, x3), (0, x4), (0, x5), (0, x6), (0, x7)] [(0, x6)] (vup h 1542 282 0 (if x2 = 1 ∧ ¬ (x4 = (-1)) ∨ ¬ (x2 = 1) ∧ x3 = (-1) then 1 else 0))) rfl ?_
            simp only [if_pos c7]
          · refine (if_neg c7).trans ?_
            refine (rn_iload_n (pc := 169) (dd bX13_taken dX13_taken_169) rfl).trans ?_
            refine (rn_goto (t := 175) (pc := 170) (dd bX13_taken dX13_taken_170) rfl).trans ?_
            refine Eq.trans (b := vrun mX13_taken 175 [(1, 282), (0, x1), (0, x2), (0, x3), (0, x4), (0, x5), (0, x6), (0, x7)] [(0, x3)] (vup h 1542 282 0 (if x2 = 1 ∧ ¬ (x4 = (-1)) ∨ ¬ (x2 = 1) ∧ x3 = (-1) then 1 else 0))) rfl ?_
            simp only [if_neg c7]
        refine e5.trans ?_
        refine Eq.trans (b := vrun mX13_taken 175 [(1, 282), (0, x1), (0, x2), (0, x3), (0, x4), (0, x5), (0, x6), (0, x7)] [(0, (if x3 = (-1) then x6 else x3))] (vup h 1542 282 0 (if x2 = 1 ∧ ¬ (x4 = (-1)) ∨ ¬ (x2 = 1) ∧ x3 = (-1) then 1 else 0))) rfl ?_
        simp only [if_neg c5]
    refine e6.trans ?_
    exact rn_ireturn (pc := 175) (dd bX13_taken dX13_taken_175) (Or.inl rfl)
  · refine (rn_aload_n (pc := 23) (dd bX13_taken dX13_taken_23) rfl).trans ?_
    refine (rg_gf (pc := 24) (dd bX13_taken dX13_taken_24) (ci := 14) (j := 32) rfl rfl (key := 1532) rfl (kc := 34) rfl s1.1 s1.2.2.2.2.2.2.2.2.2.2.2.2.2.2.2.2.2.2.2.2.2.2.2.2.2.2.2.2.2.2.2.2.2.2.2.2.2.2.2.2.2.2.2.2.2.2.2.2.2.2.2.2.2.2.2.2.2.2.2.2.2.2.2.2.2.2.2.2.2.2.2.2.2.2.2.2.2.2.2.2.2.2.2.2.2.2.2.2.2.2.2.1).trans ?_
    refine (rn_iload (pc := 27) (dd bX13_taken dX13_taken_27) rfl).trans ?_
    refine (rg_iaload (pc := 29) (dd bX13_taken dX13_taken_29) s1.2.2.2.2.2.2.2.2.2.2.2.2.2.2.2.2.2.2.2.2.2.2.2.2.2.2.2.2.2.2.2.2.2.2.2.2.2.2.2.2.2.2.2.2.2.2.2.2.2.2.2.2.2.2.2.2.2.2.2.2.2.2.2.2.2.2.2.2.2.2.2.2.2.2.2.2.2.2.2.2.2.2.2.2.2.2.2.2.2.2.2.2.1 s1.2.2.2.2.2.2.2.2.2.2.2.2.2.2.2.2.2.2.2.2.2.2.2.2.2.2.2.2.2.2.2.2.2.2.2.2.2.2.2.2.2.2.2.2.2.2.2.2.2.2.2.2.2.2.2.2.2.2.2.2.2.2.2.2.2.2.2.2.2.2.2.2.2.2.2.2.2.2.2.2.2.2.2.2.2.2.2.2.2.2.2.2.2.1 (p2 c1) (p3 c1) rfl).trans ?_
    refine (rn_iconst (pc := 30) (dd bX13_taken dX13_taken_30) (by decide)).trans ?_
    have e11 : vrun mX13_taken 31 [(1, 282), (0, x1), (0, x2), (0, x3), (0, x4), (0, x5), (0, x6), (0, x7)] [(0, (-1)), (0, h 2 313 x7)] h = vrun mX13_taken 104 [(1, 282), (0, x1), (0, x2), (0, (if h 2 313 x7 = (-1) then x3 else (if x3 = (-1) then (if h 2 313 x7 < x1 then x3 else x7) else x3))), (0, (if h 2 313 x7 = (-1) then x4 else (if x1 < h 2 313 x7 + h 2 312 x7 then x4 else x7))), (0, (if h 2 313 x7 = (-1) then x5 else (if x5 = (-1) then x7 else x5))), (0, (if h 2 313 x7 = (-1) then x6 else x7)), (0, x7)] [] h := by
      refine (rn_icmp_eq (t := 104) (pc := 31) (dd bX13_taken dX13_taken_31) rfl).trans ?_
      by_cases c8 : h 2 313 x7 = (-1)
      · refine (if_pos c8).trans ?_
        refine Eq.trans (b := vrun mX13_taken 104 [(1, 282), (0, x1), (0, x2), (0, x3), (0, x4), (0, x5), (0, x6), (0, x7)] [] h) rfl ?_
        simp only [if_pos c8]
      · refine (if_neg c8).trans ?_
        refine (rn_iload_n (pc := 34) (dd bX13_taken dX13_taken_34) rfl).trans ?_
        refine (rn_iconst (pc := 35) (dd bX13_taken dX13_taken_35) (by decide)).trans ?_
        have e8 : vrun mX13_taken 36 [(1, 282), (0, x1), (0, x2), (0, x3), (0, x4), (0, x5), (0, x6), (0, x7)] [(0, (-1)), (0, x3)] h = vrun mX13_taken 56 [(1, 282), (0, x1), (0, x2), (0, x3), (0, x4), (0, x5), (0, x6), (0, x7)] [(0, (if x3 = (-1) then (if h 2 313 x7 < x1 then x3 else x7) else x3))] h := by
          refine (rg_icmp_ne (t := 55) (pc := 36) (dd bX13_taken dX13_taken_36) rfl).trans ?_
          by_cases c9 : x3 = (-1)
          · refine (if_pos c9).trans ?_
            refine (rn_aload_n (pc := 39) (dd bX13_taken dX13_taken_39) rfl).trans ?_
            refine (rg_gf (pc := 40) (dd bX13_taken dX13_taken_40) (ci := 14) (j := 32) rfl rfl (key := 1532) rfl (kc := 34) rfl s1.1 s1.2.2.2.2.2.2.2.2.2.2.2.2.2.2.2.2.2.2.2.2.2.2.2.2.2.2.2.2.2.2.2.2.2.2.2.2.2.2.2.2.2.2.2.2.2.2.2.2.2.2.2.2.2.2.2.2.2.2.2.2.2.2.2.2.2.2.2.2.2.2.2.2.2.2.2.2.2.2.2.2.2.2.2.2.2.2.2.2.2.2.2.1).trans ?_
            refine (rn_iload (pc := 43) (dd bX13_taken dX13_taken_43) rfl).trans ?_
            refine (rg_iaload (pc := 45) (dd bX13_taken dX13_taken_45) s1.2.2.2.2.2.2.2.2.2.2.2.2.2.2.2.2.2.2.2.2.2.2.2.2.2.2.2.2.2.2.2.2.2.2.2.2.2.2.2.2.2.2.2.2.2.2.2.2.2.2.2.2.2.2.2.2.2.2.2.2.2.2.2.2.2.2.2.2.2.2.2.2.2.2.2.2.2.2.2.2.2.2.2.2.2.2.2.2.2.2.2.2.1 s1.2.2.2.2.2.2.2.2.2.2.2.2.2.2.2.2.2.2.2.2.2.2.2.2.2.2.2.2.2.2.2.2.2.2.2.2.2.2.2.2.2.2.2.2.2.2.2.2.2.2.2.2.2.2.2.2.2.2.2.2.2.2.2.2.2.2.2.2.2.2.2.2.2.2.2.2.2.2.2.2.2.2.2.2.2.2.2.2.2.2.2.2.2.1 (by have z0 := p2 c1; have z1 := p3 c1; omega) (by have z0 := p2 c1; have z1 := p3 c1; omega) rfl).trans ?_
            refine (rn_iload_n (pc := 46) (dd bX13_taken dX13_taken_46) rfl).trans ?_
            have e7 : vrun mX13_taken 47 [(1, 282), (0, x1), (0, x2), (0, x3), (0, x4), (0, x5), (0, x6), (0, x7)] [(0, x1), (0, h 2 313 x7)] h = vrun mX13_taken 56 [(1, 282), (0, x1), (0, x2), (0, x3), (0, x4), (0, x5), (0, x6), (0, x7)] [(0, (if h 2 313 x7 < x1 then x3 else x7))] h := by
              refine (rn_icmp_lt (t := 55) (pc := 47) (dd bX13_taken dX13_taken_47) rfl).trans ?_
              by_cases c10 : h 2 313 x7 < x1
              · refine (if_pos c10).trans ?_
                refine (rn_iload_n (pc := 55) (dd bX13_taken dX13_taken_55) rfl).trans ?_
                refine Eq.trans (b := vrun mX13_taken 56 [(1, 282), (0, x1), (0, x2), (0, x3), (0, x4), (0, x5), (0, x6), (0, x7)] [(0, x3)] h) rfl ?_
                simp only [if_pos c10]
              · refine (if_neg c10).trans ?_
                refine (rn_iload (pc := 50) (dd bX13_taken dX13_taken_50) rfl).trans ?_
                refine (rn_goto (t := 56) (pc := 52) (dd bX13_taken dX13_taken_52) rfl).trans ?_
                refine Eq.trans (b := vrun mX13_taken 56 [(1, 282), (0, x1), (0, x2), (0, x3), (0, x4), (0, x5), (0, x6), (0, x7)] [(0, x7)] h) rfl ?_
                simp only [if_neg c10]
            refine e7.trans ?_
            refine Eq.trans (b := vrun mX13_taken 56 [(1, 282), (0, x1), (0, x2), (0, x3), (0, x4), (0, x5), (0, x6), (0, x7)] [(0, (if h 2 313 x7 < x1 then x3 else x7))] h) rfl ?_
            simp only [if_pos c9]
          · refine (if_neg c9).trans ?_
            refine (rn_iload_n (pc := 55) (dd bX13_taken dX13_taken_55) rfl).trans ?_
            refine Eq.trans (b := vrun mX13_taken 56 [(1, 282), (0, x1), (0, x2), (0, x3), (0, x4), (0, x5), (0, x6), (0, x7)] [(0, x3)] h) rfl ?_
            simp only [if_neg c9]
        refine e8.trans ?_
        refine (rn_istore_n (pc := 56) (dd bX13_taken dX13_taken_56) (Nat.le_of_ble_eq_true rfl) rfl).trans ?_
        refine (rn_aload_n (pc := 57) (dd bX13_taken dX13_taken_57) rfl).trans ?_
        refine (rg_gf (pc := 58) (dd bX13_taken dX13_taken_58) (ci := 14) (j := 32) rfl rfl (key := 1532) rfl (kc := 34) rfl s1.1 s1.2.2.2.2.2.2.2.2.2.2.2.2.2.2.2.2.2.2.2.2.2.2.2.2.2.2.2.2.2.2.2.2.2.2.2.2.2.2.2.2.2.2.2.2.2.2.2.2.2.2.2.2.2.2.2.2.2.2.2.2.2.2.2.2.2.2.2.2.2.2.2.2.2.2.2.2.2.2.2.2.2.2.2.2.2.2.2.2.2.2.2.1).trans ?_
        refine (rn_iload (pc := 61) (dd bX13_taken dX13_taken_61) rfl).trans ?_
        refine (rg_iaload (pc := 63) (dd bX13_taken dX13_taken_63) s1.2.2.2.2.2.2.2.2.2.2.2.2.2.2.2.2.2.2.2.2.2.2.2.2.2.2.2.2.2.2.2.2.2.2.2.2.2.2.2.2.2.2.2.2.2.2.2.2.2.2.2.2.2.2.2.2.2.2.2.2.2.2.2.2.2.2.2.2.2.2.2.2.2.2.2.2.2.2.2.2.2.2.2.2.2.2.2.2.2.2.2.2.1 s1.2.2.2.2.2.2.2.2.2.2.2.2.2.2.2.2.2.2.2.2.2.2.2.2.2.2.2.2.2.2.2.2.2.2.2.2.2.2.2.2.2.2.2.2.2.2.2.2.2.2.2.2.2.2.2.2.2.2.2.2.2.2.2.2.2.2.2.2.2.2.2.2.2.2.2.2.2.2.2.2.2.2.2.2.2.2.2.2.2.2.2.2.2.1 (by have z0 := p2 c1; have z1 := p3 c1; omega) (by have z0 := p2 c1; have z1 := p3 c1; omega) rfl).trans ?_
        refine (rn_aload_n (pc := 64) (dd bX13_taken dX13_taken_64) rfl).trans ?_
        refine (rg_gf (pc := 65) (dd bX13_taken dX13_taken_65) (ci := 14) (j := 31) rfl rfl (key := 1531) rfl (kc := 34) rfl s1.1 s1.2.2.2.2.2.2.2.2.2.2.2.2.2.2.2.2.2.2.2.2.2.2.2.2.2.2.2.2.2.2.2.2.2.2.2.2.2.2.2.2.2.2.2.2.2.2.2.2.2.2.2.2.2.2.2.2.2.2.2.2.2.2.2.2.2.2.2.2.2.2.2.2.2.2.2.2.2.2.2.2.2.2.2.2.2.2.2.2.1).trans ?_
        refine (rn_iload (pc := 68) (dd bX13_taken dX13_taken_68) rfl).trans ?_
        refine (rg_iaload (pc := 70) (dd bX13_taken dX13_taken_70) s1.2.2.2.2.2.2.2.2.2.2.2.2.2.2.2.2.2.2.2.2.2.2.2.2.2.2.2.2.2.2.2.2.2.2.2.2.2.2.2.2.2.2.2.2.2.2.2.2.2.2.2.2.2.2.2.2.2.2.2.2.2.2.2.2.2.2.2.2.2.2.2.2.2.2.2.2.2.2.2.2.2.2.2.2.2.2.2.2.2.1 s1.2.2.2.2.2.2.2.2.2.2.2.2.2.2.2.2.2.2.2.2.2.2.2.2.2.2.2.2.2.2.2.2.2.2.2.2.2.2.2.2.2.2.2.2.2.2.2.2.2.2.2.2.2.2.2.2.2.2.2.2.2.2.2.2.2.2.2.2.2.2.2.2.2.2.2.2.2.2.2.2.2.2.2.2.2.2.2.2.2.2.1 (by have z0 := p2 c1; have z1 := p3 c1; omega) (by have z0 := p2 c1; have z1 := p3 c1; omega) rfl).trans ?_
        refine (rg_iadd (pc := 71) (dd bX13_taken dX13_taken_71) (p4 c1 c8) (p5 c1 c8)).trans ?_
        refine (rn_iload_n (pc := 72) (dd bX13_taken dX13_taken_72) rfl).trans ?_
        have e9 : vrun mX13_taken 73 [(1, 282), (0, x1), (0, x2), (0, (if x3 = (-1) then (if h 2 313 x7 < x1 then x3 else x7) else x3)), (0, x4), (0, x5), (0, x6), (0, x7)] [(0, x1), (0, h 2 313 x7 + h 2 312 x7)] h = vrun mX13_taken 83 [(1, 282), (0, x1), (0, x2), (0, (if x3 = (-1) then (if h 2 313 x7 < x1 then x3 else x7) else x3)), (0, x4), (0, x5), (0, x6), (0, x7)] [(0, (if x1 < h 2 313 x7 + h 2 312 x7 then x4 else x7))] h := by
          refine (rn_icmp_gt (t := 81) (pc := 73) (dd bX13_taken dX13_taken_73) rfl).trans ?_
          by_cases c11 : x1 < h 2 313 x7 + h 2 312 x7
          · refine (if_pos c11).trans ?_
            refine (rn_iload (pc := 81) (dd bX13_taken dX13_taken_81) rfl).trans ?_
            refine Eq.trans (b := vrun mX13_taken 83 [(1, 282), (0, x1), (0, x2), (0, (if x3 = (-1) then (if h 2 313 x7 < x1 then x3 else x7) else x3)), (0, x4), (0, x5), (0, x6), (0, x7)] [(0, x4)] h) rfl ?_
            simp only [if_pos c11]
          · refine (if_neg c11).trans ?_
            refine (rn_iload (pc := 76) (dd bX13_taken dX13_taken_76) rfl).trans ?_
            refine (rn_goto (t := 83) (pc := 78) (dd bX13_taken dX13_taken_78) rfl).trans ?_
            refine Eq.trans (b := vrun mX13_taken 83 [(1, 282), (0, x1), (0, x2), (0, (if x3 = (-1) then (if h 2 313 x7 < x1 then x3 else x7) else x3)), (0, x4), (0, x5), (0, x6), (0, x7)] [(0, x7)] h) rfl ?_
            simp only [if_neg c11]
        refine e9.trans ?_
        refine (rn_istore (pc := 83) (dd bX13_taken dX13_taken_83) (Nat.le_of_ble_eq_true rfl) rfl).trans ?_
        refine (rn_iload (pc := 85) (dd bX13_taken dX13_taken_85) rfl).trans ?_
        refine (rn_iconst (pc := 87) (dd bX13_taken dX13_taken_87) (by decide)).trans ?_
        have e10 : vrun mX13_taken 88 [(1, 282), (0, x1), (0, x2), (0, (if x3 = (-1) then (if h 2 313 x7 < x1 then x3 else x7) else x3)), (0, (if x1 < h 2 313 x7 + h 2 312 x7 then x4 else x7)), (0, x5), (0, x6), (0, x7)] [(0, (-1)), (0, x5)] h = vrun mX13_taken 98 [(1, 282), (0, x1), (0, x2), (0, (if x3 = (-1) then (if h 2 313 x7 < x1 then x3 else x7) else x3)), (0, (if x1 < h 2 313 x7 + h 2 312 x7 then x4 else x7)), (0, x5), (0, x6), (0, x7)] [(0, (if x5 = (-1) then x7 else x5))] h := by
          refine (rg_icmp_ne (t := 96) (pc := 88) (dd bX13_taken dX13_taken_88) rfl).trans ?_
          by_cases c12 : x5 = (-1)
          · refine (if_pos c12).trans ?_
            refine (rn_iload (pc := 91) (dd bX13_taken dX13_taken_91) rfl).trans ?_
            refine (rn_goto (t := 98) (pc := 93) (dd bX13_taken dX13_taken_93) rfl).trans ?_
            refine Eq.trans (b := vrun mX13_taken 98 [(1, 282), (0, x1), (0, x2), (0, (if x3 = (-1) then (if h 2 313 x7 < x1 then x3 else x7) else x3)), (0, (if x1 < h 2 313 x7 + h 2 312 x7 then x4 else x7)), (0, x5), (0, x6), (0, x7)] [(0, x7)] h) rfl ?_
            simp only [if_pos c12]
          · refine (if_neg c12).trans ?_
            refine (rn_iload (pc := 96) (dd bX13_taken dX13_taken_96) rfl).trans ?_
            refine Eq.trans (b := vrun mX13_taken 98 [(1, 282), (0, x1), (0, x2), (0, (if x3 = (-1) then (if h 2 313 x7 < x1 then x3 else x7) else x3)), (0, (if x1 < h 2 313 x7 + h 2 312 x7 then x4 else x7)), (0, x5), (0, x6), (0, x7)] [(0, x5)] h) rfl ?_
            simp only [if_neg c12]
        refine e10.trans ?_
        refine (rn_istore (pc := 98) (dd bX13_taken dX13_taken_98) (Nat.le_of_ble_eq_true rfl) rfl).trans ?_
        refine (rn_iload (pc := 100) (dd bX13_taken dX13_taken_100) rfl).trans ?_
        refine (rn_istore (pc := 102) (dd bX13_taken dX13_taken_102) (Nat.le_of_ble_eq_true rfl) rfl).trans ?_
        refine Eq.trans (b := vrun mX13_taken 104 [(1, 282), (0, x1), (0, x2), (0, (if x3 = (-1) then (if h 2 313 x7 < x1 then x3 else x7) else x3)), (0, (if x1 < h 2 313 x7 + h 2 312 x7 then x4 else x7)), (0, (if x5 = (-1) then x7 else x5)), (0, x7), (0, x7)] [] h) rfl ?_
        simp only [if_neg c8]
    refine e11.trans ?_
    refine (rg_iinc (pc := 104) (dd bX13_taken dX13_taken_104) rfl (Nat.le_of_ble_eq_true rfl) (by have z0 := p2 c1; have z1 := p3 c1; omega) (by have z0 := p2 c1; have z1 := p3 c1; omega) rfl).trans ?_
    refine (rn_goto (t := 14) (pc := 107) (dd bX13_taken dX13_taken_107) rfl).trans ?_
    rfl
theorem bX13_downRow : vmB mX13_downRow = cX13_downRow := rfl
theorem rX13_downRow_0 {x1 : Int} {x2 : Int} {x3 : Int} {x4 : Int} {h : vH} (s1 : shModel h) : vrun mX13_downRow 0 [(1, 282), (0, x1), (0, x2), (0, x3), (0, x4), (9, 0), (9, 0)] [] h = vret vrun mX13_downRow 3 [(1, 282), (0, x1), (0, x2), (0, x3), (0, x4), (9, 0), (9, 0)] [] (vcl mX13_rowsAhead [(1, 282), (0, x1), (0, x2)] h) := by
  refine (rn_aload_n (pc := 0) (dd bX13_downRow dX13_downRow_0) rfl).trans ?_
  refine (rn_iload_n (pc := 1) (dd bX13_downRow dX13_downRow_1) rfl).trans ?_
  refine (rn_iload_n (pc := 2) (dd bX13_downRow dX13_downRow_2) rfl).trans ?_
  exact rg_virtual (pc := 3) (dd bX13_downRow dX13_downRow_3) rfl rfl (by decide) (kc := 34) rfl s1.1 (as := [(1, 282), (0, x1), (0, x2)]) rfl ⟨Nat.le_of_ble_eq_true rfl, Nat.le_of_ble_eq_true rfl, Nat.le_of_ble_eq_true rfl, Nat.le_of_ble_eq_true rfl⟩
theorem rX13_downRow_6 {x1 : Int} {x2 : Int} {x3 : Int} {x4 : Int} {y0 : Int} {h : vH} (s1 : shModel h) : vrun mX13_downRow 6 [(1, 282), (0, x1), (0, x2), (0, x3), (0, x4), (9, 0), (9, 0)] [(0, y0)] h = vret vrun mX13_downRow 11 [(1, 282), (0, x1), (0, x2), (0, x3), (0, x4), (0, y0), (9, 0)] [] (vcl mX13_lays [(1, 282), (0, x1), (0, x2)] h) := by
  refine (rn_istore (pc := 6) (dd bX13_downRow dX13_downRow_6) (Nat.le_of_ble_eq_true rfl) rfl).trans ?_
  refine (rn_aload_n (pc := 8) (dd bX13_downRow dX13_downRow_8) rfl).trans ?_
  refine (rn_iload_n (pc := 9) (dd bX13_downRow dX13_downRow_9) rfl).trans ?_
  refine (rn_iload_n (pc := 10) (dd bX13_downRow dX13_downRow_10) rfl).trans ?_
  exact rg_virtual (pc := 11) (dd bX13_downRow dX13_downRow_11) rfl rfl (by decide) (kc := 34) rfl s1.1 (as := [(1, 282), (0, x1), (0, x2)]) rfl ⟨Nat.le_of_ble_eq_true rfl, Nat.le_of_ble_eq_true rfl, Nat.le_of_ble_eq_true rfl, Nat.le_of_ble_eq_true rfl⟩
theorem rX13_downRow_14 {x1 : Int} {x2 : Int} {x3 : Int} {x4 : Int} {x5 : Int} {h : vH} (s1 : shModel h) : vrun mX13_downRow 14 [(1, 282), (0, x1), (0, x2), (0, x3), (0, x4), (0, x5), (9, 0)] [] h = vret vrun mX13_downRow 18 [(1, 282), (0, x1), (0, x2), (0, x3), (0, x4), (0, x5), (9, 0)] [] (vcl mX13_taken [(1, 282), (0, x3), (0, x4)] h) := by
  refine (rn_aload_n (pc := 14) (dd bX13_downRow dX13_downRow_14) rfl).trans ?_
  refine (rn_iload_n (pc := 15) (dd bX13_downRow dX13_downRow_15) rfl).trans ?_
  refine (rn_iload (pc := 16) (dd bX13_downRow dX13_downRow_16) rfl).trans ?_
  exact rg_virtual (pc := 18) (dd bX13_downRow dX13_downRow_18) rfl rfl (by decide) (kc := 34) rfl s1.1 (as := [(1, 282), (0, x3), (0, x4)]) rfl ⟨Nat.le_of_ble_eq_true rfl, Nat.le_of_ble_eq_true rfl, Nat.le_of_ble_eq_true rfl, Nat.le_of_ble_eq_true rfl⟩
theorem rX13_downRow_21 {x1 : Int} {x2 : Int} {x3 : Int} {x4 : Int} {x5 : Int} {y0 : Int} {h : vH} (s1 : shModel h) (p2 : ¬ (y0 = (-1)) → 0 ≤ y0) (p3 : ¬ (y0 = (-1)) → y0 < 140) (p4 : ¬ (y0 = (-1)) → (-2147483648) ≤ x5 + h 2 318 y0) (p5 : ¬ (y0 = (-1)) → x5 + h 2 318 y0 < 2147483648) : vrun mX13_downRow 21 [(1, 282), (0, x1), (0, x2), (0, x3), (0, x4), (0, x5), (9, 0)] [(0, y0)] h = some (.inl (some (0, (if y0 = (-1) then x5 else x5 + h 2 318 y0))), h) := by
  refine (rn_istore (pc := 21) (dd bX13_downRow dX13_downRow_21) (Nat.le_of_ble_eq_true rfl) rfl).trans ?_
  refine (rn_iload (pc := 23) (dd bX13_downRow dX13_downRow_23) rfl).trans ?_
  refine (rn_iconst (pc := 25) (dd bX13_downRow dX13_downRow_25) (by decide)).trans ?_
  have e1 : vrun mX13_downRow 26 [(1, 282), (0, x1), (0, x2), (0, x3), (0, x4), (0, x5), (0, y0)] [(0, (-1)), (0, y0)] h = vrun mX13_downRow 44 [(1, 282), (0, x1), (0, x2), (0, x3), (0, x4), (0, x5), (0, y0)] [(0, (if y0 = (-1) then x5 else x5 + h 2 318 y0))] h := by
    refine (rg_icmp_ne (t := 34) (pc := 26) (dd bX13_downRow dX13_downRow_26) rfl).trans ?_
    by_cases c1 : y0 = (-1)
    · refine (if_pos c1).trans ?_
      refine (rn_iload (pc := 29) (dd bX13_downRow dX13_downRow_29) rfl).trans ?_
      refine (rn_goto (t := 44) (pc := 31) (dd bX13_downRow dX13_downRow_31) rfl).trans ?_
      refine Eq.trans (b := vrun mX13_downRow 44 [(1, 282), (0, x1), (0, x2), (0, x3), (0, x4), (0, x5), (0, y0)] [(0, x5)] h) rfl ?_
      simp only [if_pos c1]
    · refine (if_neg c1).trans ?_
      refine (rn_iload (pc := 34) (dd bX13_downRow dX13_downRow_34) rfl).trans ?_
      refine (rn_aload_n (pc := 36) (dd bX13_downRow dX13_downRow_36) rfl).trans ?_
      refine (rg_gf (pc := 37) (dd bX13_downRow dX13_downRow_37) (ci := 14) (j := 37) rfl rfl (key := 1537) rfl (kc := 34) rfl s1.1 s1.2.2.2.2.2.2.2.2.2.2.2.2.2.2.2.2.2.2.2.2.2.2.2.2.2.2.2.2.2.2.2.2.2.2.2.2.2.2.2.2.2.2.2.2.2.2.2.2.2.2.2.2.2.2.2.2.2.2.2.2.2.2.2.2.2.2.2.2.2.2.2.2.2.2.2.2.2.2.2.2.2.2.2.2.2.2.2.2.2.2.2.2.2.2.2.2.2.2.2.2.2.2.2.2.2.2.1).trans ?_
      refine (rn_iload (pc := 40) (dd bX13_downRow dX13_downRow_40) rfl).trans ?_
      refine (rg_iaload (pc := 42) (dd bX13_downRow dX13_downRow_42) s1.2.2.2.2.2.2.2.2.2.2.2.2.2.2.2.2.2.2.2.2.2.2.2.2.2.2.2.2.2.2.2.2.2.2.2.2.2.2.2.2.2.2.2.2.2.2.2.2.2.2.2.2.2.2.2.2.2.2.2.2.2.2.2.2.2.2.2.2.2.2.2.2.2.2.2.2.2.2.2.2.2.2.2.2.2.2.2.2.2.2.2.2.2.2.2.2.2.2.2.2.2.2.2.2.2.2.2.1 s1.2.2.2.2.2.2.2.2.2.2.2.2.2.2.2.2.2.2.2.2.2.2.2.2.2.2.2.2.2.2.2.2.2.2.2.2.2.2.2.2.2.2.2.2.2.2.2.2.2.2.2.2.2.2.2.2.2.2.2.2.2.2.2.2.2.2.2.2.2.2.2.2.2.2.2.2.2.2.2.2.2.2.2.2.2.2.2.2.2.2.2.2.2.2.2.2.2.2.2.2.2.2.2.2.2.2.2.2.1 (p2 c1) (p3 c1) rfl).trans ?_
      refine (rg_iadd (pc := 43) (dd bX13_downRow dX13_downRow_43) (p4 c1) (p5 c1)).trans ?_
      refine Eq.trans (b := vrun mX13_downRow 44 [(1, 282), (0, x1), (0, x2), (0, x3), (0, x4), (0, x5), (0, y0)] [(0, x5 + h 2 318 y0)] h) rfl ?_
      simp only [if_neg c1]
  refine e1.trans ?_
  exact rn_ireturn (pc := 44) (dd bX13_downRow dX13_downRow_44) (Or.inl rfl)
theorem bX13_rowAt : vmB mX13_rowAt = cX13_rowAt := rfl
theorem rX13_rowAt_0 {x1 : Int} {x2 : Int} {x3 : Int} {x4 : Int} {h : vH} (s1 : shModel h) (p2 : ¬ (x1 < 0) ∧ ¬ (3 < x1) → (-2147483648) ≤ h 1504 282 0 - 1) (p3 : ¬ (x1 < 0) ∧ ¬ (3 < x1) → h 1504 282 0 - 1 < 2147483648) (p4 : (¬ (x1 < 0) ∧ ¬ (3 < x1)) ∧ ¬ (fX13_isLine h x2 = 0) → 0 ≤ x2) (p5 : (¬ (x1 < 0) ∧ ¬ (3 < x1)) ∧ ¬ (fX13_isLine h x2 = 0) → x2 < 60) : vrun mX13_rowAt 0 [(1, 282), (0, x1), (0, x2), (0, x3), (0, x4), (9, 0)] [] h = vret vrun mX13_rowAt 48 [(1, 282), (0, x1), (0, x2), (0, x3), (0, x4), (0, (if (¬ (x1 < 0) ∧ ¬ (3 < x1)) ∧ ¬ (fX13_isLine h x2 = 0) then 1 else 0))] [] (vcl mX13_isFine [(1, 282), (0, (if (¬ (x1 < 0) ∧ ¬ (3 < x1)) ∧ ¬ (fX13_isLine h x2 = 0) then (if fX13_isPlace h x2 x3 x4 = 0 then 2 else 0) else 1))] h) := by
  refine (rn_iload_n (pc := 0) (dd bX13_rowAt dX13_rowAt_0) rfl).trans ?_
  refine (rg_static (pc := 1) (dd bX13_rowAt dX13_rowAt_1) rfl (by decide) (Nat.le_of_ble_eq_true rfl) (as := [(0, x1)]) rfl rfl ⟨Nat.le_of_ble_eq_true rfl, Nat.le_of_ble_eq_true rfl, Nat.le_of_ble_eq_true rfl, Nat.le_of_ble_eq_true rfl⟩).trans ?_
  refine (vret_v spX13_isPane).trans ?_
  have e2 : vrun mX13_rowAt 4 [(1, 282), (0, x1), (0, x2), (0, x3), (0, x4), (9, 0)] [(0, (if ¬ (x1 < 0) ∧ ¬ (3 < x1) then 1 else 0))] h = vrun mX13_rowAt 20 [(1, 282), (0, x1), (0, x2), (0, x3), (0, x4), (9, 0)] [(0, (if (¬ (x1 < 0) ∧ ¬ (3 < x1)) ∧ ¬ (fX13_isLine h x2 = 0) then 1 else 0))] h := by
    refine (rg_beq (t := 19) (pc := 4) (dd bX13_rowAt dX13_rowAt_4) rfl).trans ?_
    by_cases c1 : ¬ (x1 < 0) ∧ ¬ (3 < x1)
    · refine (if_pos c1).trans ?_
      refine (rn_aload_n (pc := 7) (dd bX13_rowAt dX13_rowAt_7) rfl).trans ?_
      refine (rn_iload_n (pc := 8) (dd bX13_rowAt dX13_rowAt_8) rfl).trans ?_
      refine (rg_virtual (pc := 9) (dd bX13_rowAt dX13_rowAt_9) rfl rfl (by decide) (kc := 34) rfl s1.1 (as := [(1, 282), (0, x2)]) rfl ⟨Nat.le_of_ble_eq_true rfl, Nat.le_of_ble_eq_true rfl, Nat.le_of_ble_eq_true rfl, Nat.le_of_ble_eq_true rfl⟩).trans ?_
      refine (vret_v (spX13_isLine s1 (p2 c1) (p3 c1))).trans ?_
      have e1 : vrun mX13_rowAt 12 [(1, 282), (0, x1), (0, x2), (0, x3), (0, x4), (9, 0)] [(0, fX13_isLine h x2)] h = vrun mX13_rowAt 20 [(1, 282), (0, x1), (0, x2), (0, x3), (0, x4), (9, 0)] [(0, (if ¬ (fX13_isLine h x2 = 0) then 1 else 0))] h := by
        refine (rn_if_eq (t := 19) (pc := 12) (dd bX13_rowAt dX13_rowAt_12) rfl).trans ?_
        by_cases c2 : fX13_isLine h x2 = 0
        · refine (if_pos c2).trans ?_
          refine (rn_iconst (pc := 19) (dd bX13_rowAt dX13_rowAt_19) (by decide)).trans ?_
          refine Eq.trans (b := vrun mX13_rowAt 20 [(1, 282), (0, x1), (0, x2), (0, x3), (0, x4), (9, 0)] [(0, 0)] h) rfl ?_
          simp only [c2, true_or, false_or, or_true, or_false, true_and, false_and, and_true, and_false, not_true_eq_false, not_false_eq_true, ne_eq, if_true, if_false, ↓reduceIte]
        · refine (if_neg c2).trans ?_
          refine (rn_iconst (pc := 15) (dd bX13_rowAt dX13_rowAt_15) (by decide)).trans ?_
          refine (rn_goto (t := 20) (pc := 16) (dd bX13_rowAt dX13_rowAt_16) rfl).trans ?_
          refine Eq.trans (b := vrun mX13_rowAt 20 [(1, 282), (0, x1), (0, x2), (0, x3), (0, x4), (9, 0)] [(0, 1)] h) rfl ?_
          simp only [c2, true_or, false_or, or_true, or_false, true_and, false_and, and_true, and_false, not_true_eq_false, not_false_eq_true, ne_eq, if_true, if_false, ↓reduceIte]
      refine e1.trans ?_
      refine Eq.trans (b := vrun mX13_rowAt 20 [(1, 282), (0, x1), (0, x2), (0, x3), (0, x4), (9, 0)] [(0, (if ¬ (fX13_isLine h x2 = 0) then 1 else 0))] h) rfl ?_
      simp only [c1, true_or, false_or, or_true, or_false, true_and, false_and, and_true, and_false, not_true_eq_false, not_false_eq_true, ne_eq, if_true, if_false, ↓reduceIte]
    · refine (if_neg c1).trans ?_
      refine (rn_iconst (pc := 19) (dd bX13_rowAt dX13_rowAt_19) (by decide)).trans ?_
      refine Eq.trans (b := vrun mX13_rowAt 20 [(1, 282), (0, x1), (0, x2), (0, x3), (0, x4), (9, 0)] [(0, 0)] h) rfl ?_
      simp only [c1, true_or, false_or, or_true, or_false, true_and, false_and, and_true, and_false, not_true_eq_false, not_false_eq_true, ne_eq, if_true, if_false, ↓reduceIte]
  refine e2.trans ?_
  refine (rn_istore (pc := 20) (dd bX13_rowAt dX13_rowAt_20) (Nat.le_of_ble_eq_true rfl) rfl).trans ?_
  refine (rn_aload_n (pc := 22) (dd bX13_rowAt dX13_rowAt_22) rfl).trans ?_
  refine (rn_iload (pc := 23) (dd bX13_rowAt dX13_rowAt_23) rfl).trans ?_
  have e4 : vrun mX13_rowAt 25 [(1, 282), (0, x1), (0, x2), (0, x3), (0, x4), (0, (if (¬ (x1 < 0) ∧ ¬ (3 < x1)) ∧ ¬ (fX13_isLine h x2 = 0) then 1 else 0))] [(0, (if (¬ (x1 < 0) ∧ ¬ (3 < x1)) ∧ ¬ (fX13_isLine h x2 = 0) then 1 else 0)), (1, 282)] h = vrun mX13_rowAt 48 [(1, 282), (0, x1), (0, x2), (0, x3), (0, x4), (0, (if (¬ (x1 < 0) ∧ ¬ (3 < x1)) ∧ ¬ (fX13_isLine h x2 = 0) then 1 else 0))] [(0, (if (¬ (x1 < 0) ∧ ¬ (3 < x1)) ∧ ¬ (fX13_isLine h x2 = 0) then (if fX13_isPlace h x2 x3 x4 = 0 then 2 else 0) else 1)), (1, 282)] h := by
    refine (rg_bne (t := 32) (pc := 25) (dd bX13_rowAt dX13_rowAt_25) rfl).trans ?_
    by_cases c3 : (¬ (x1 < 0) ∧ ¬ (3 < x1)) ∧ ¬ (fX13_isLine h x2 = 0)
    · refine (if_pos c3).trans ?_
      refine (rn_aload_n (pc := 32) (dd bX13_rowAt dX13_rowAt_32) rfl).trans ?_
      refine (rn_iload_n (pc := 33) (dd bX13_rowAt dX13_rowAt_33) rfl).trans ?_
      refine (rn_iload_n (pc := 34) (dd bX13_rowAt dX13_rowAt_34) rfl).trans ?_
      refine (rn_iload (pc := 35) (dd bX13_rowAt dX13_rowAt_35) rfl).trans ?_
      refine (rg_virtual (pc := 37) (dd bX13_rowAt dX13_rowAt_37) rfl rfl (by decide) (kc := 34) rfl s1.1 (as := [(1, 282), (0, x2), (0, x3), (0, x4)]) rfl ⟨Nat.le_of_ble_eq_true rfl, Nat.le_of_ble_eq_true rfl, Nat.le_of_ble_eq_true rfl, Nat.le_of_ble_eq_true rfl⟩).trans ?_
      refine (vret_v (spX13_isPlace s1 (p4 c3) (p5 c3))).trans ?_
      have e3 : vrun mX13_rowAt 40 [(1, 282), (0, x1), (0, x2), (0, x3), (0, x4), (0, (if (¬ (x1 < 0) ∧ ¬ (3 < x1)) ∧ ¬ (fX13_isLine h x2 = 0) then 1 else 0))] [(0, fX13_isPlace h x2 x3 x4), (1, 282)] h = vrun mX13_rowAt 48 [(1, 282), (0, x1), (0, x2), (0, x3), (0, x4), (0, (if (¬ (x1 < 0) ∧ ¬ (3 < x1)) ∧ ¬ (fX13_isLine h x2 = 0) then 1 else 0))] [(0, (if fX13_isPlace h x2 x3 x4 = 0 then 2 else 0)), (1, 282)] h := by
        refine (rg_if_ne (t := 47) (pc := 40) (dd bX13_rowAt dX13_rowAt_40) rfl).trans ?_
        by_cases c4 : fX13_isPlace h x2 x3 x4 = 0
        · refine (if_pos c4).trans ?_
          refine (rn_iconst (pc := 43) (dd bX13_rowAt dX13_rowAt_43) (by decide)).trans ?_
          refine (rn_goto (t := 48) (pc := 44) (dd bX13_rowAt dX13_rowAt_44) rfl).trans ?_
          refine Eq.trans (b := vrun mX13_rowAt 48 [(1, 282), (0, x1), (0, x2), (0, x3), (0, x4), (0, (if (¬ (x1 < 0) ∧ ¬ (3 < x1)) ∧ ¬ (fX13_isLine h x2 = 0) then 1 else 0))] [(0, 2), (1, 282)] h) rfl ?_
          simp only [if_pos c4]
        · refine (if_neg c4).trans ?_
          refine (rn_iconst (pc := 47) (dd bX13_rowAt dX13_rowAt_47) (by decide)).trans ?_
          refine Eq.trans (b := vrun mX13_rowAt 48 [(1, 282), (0, x1), (0, x2), (0, x3), (0, x4), (0, (if (¬ (x1 < 0) ∧ ¬ (3 < x1)) ∧ ¬ (fX13_isLine h x2 = 0) then 1 else 0))] [(0, 0), (1, 282)] h) rfl ?_
          simp only [if_neg c4]
      refine e3.trans ?_
      refine Eq.trans (b := vrun mX13_rowAt 48 [(1, 282), (0, x1), (0, x2), (0, x3), (0, x4), (0, (if (¬ (x1 < 0) ∧ ¬ (3 < x1)) ∧ ¬ (fX13_isLine h x2 = 0) then 1 else 0))] [(0, (if fX13_isPlace h x2 x3 x4 = 0 then 2 else 0)), (1, 282)] h) rfl ?_
      simp only [if_pos c3]
    · refine (if_neg c3).trans ?_
      refine (rn_iconst (pc := 28) (dd bX13_rowAt dX13_rowAt_28) (by decide)).trans ?_
      refine (rn_goto (t := 48) (pc := 29) (dd bX13_rowAt dX13_rowAt_29) rfl).trans ?_
      refine Eq.trans (b := vrun mX13_rowAt 48 [(1, 282), (0, x1), (0, x2), (0, x3), (0, x4), (0, (if (¬ (x1 < 0) ∧ ¬ (3 < x1)) ∧ ¬ (fX13_isLine h x2 = 0) then 1 else 0))] [(0, 1), (1, 282)] h) rfl ?_
      simp only [if_neg c3]
  refine e4.trans ?_
  exact rg_virtual (pc := 48) (dd bX13_rowAt dX13_rowAt_48) rfl rfl (by decide) (kc := 34) rfl s1.1 (as := [(1, 282), (0, (if (¬ (x1 < 0) ∧ ¬ (3 < x1)) ∧ ¬ (fX13_isLine h x2 = 0) then (if fX13_isPlace h x2 x3 x4 = 0 then 2 else 0) else 1))]) rfl ⟨Nat.le_of_ble_eq_true rfl, Nat.le_of_ble_eq_true rfl, Nat.le_of_ble_eq_true rfl, Nat.le_of_ble_eq_true rfl⟩
theorem rX13_rowAt_51 {x1 : Int} {x2 : Int} {x3 : Int} {x4 : Int} {x5 : Int} {y0 : Int} {h : vH} (s1 : shModel h) : vrun mX13_rowAt 51 [(1, 282), (0, x1), (0, x2), (0, x3), (0, x4), (0, x5)] [(0, y0)] h = if y0 = 0 then some (.inl (some (0, 0)), h) else vret vrun mX13_rowAt 59 [(1, 282), (0, x1), (0, x2), (0, x3), (0, x4), (0, x5)] [] (vcl mX13_isInvisible [(1, 282), (0, x1), (0, x2)] h) := by
  refine (rg_if_ne (t := 56) (pc := 51) (dd bX13_rowAt dX13_rowAt_51) rfl).trans (itec (fun c1 => ?_) (fun c1 => ?_))
  · refine (rn_iconst (pc := 54) (dd bX13_rowAt dX13_rowAt_54) (by decide)).trans ?_
    exact rn_ireturn (pc := 55) (dd bX13_rowAt dX13_rowAt_55) (Or.inl rfl)
  · refine (rn_aload_n (pc := 56) (dd bX13_rowAt dX13_rowAt_56) rfl).trans ?_
    refine (rn_iload_n (pc := 57) (dd bX13_rowAt dX13_rowAt_57) rfl).trans ?_
    refine (rn_iload_n (pc := 58) (dd bX13_rowAt dX13_rowAt_58) rfl).trans ?_
    exact rg_virtual (pc := 59) (dd bX13_rowAt dX13_rowAt_59) rfl rfl (by decide) (kc := 34) rfl s1.1 (as := [(1, 282), (0, x1), (0, x2)]) rfl ⟨Nat.le_of_ble_eq_true rfl, Nat.le_of_ble_eq_true rfl, Nat.le_of_ble_eq_true rfl, Nat.le_of_ble_eq_true rfl⟩
theorem rX13_rowAt_62 {x1 : Int} {x2 : Int} {x3 : Int} {x4 : Int} {x5 : Int} {y0 : Int} {h : vH} (s1 : shModel h) : vrun mX13_rowAt 62 [(1, 282), (0, x1), (0, x2), (0, x3), (0, x4), (0, x5)] [(0, y0)] h = if y0 = 0 then vret vrun mX13_rowAt 75 [(1, 282), (0, x1), (0, x2), (0, x3), (0, x4), (0, x5)] [] (vcl mX13_downRow [(1, 282), (0, x1), (0, x2), (0, x3), (0, x4)] h) else some (.inl (some (0, (-1))), h) := by
  refine (rn_if_eq (t := 69) (pc := 62) (dd bX13_rowAt dX13_rowAt_62) rfl).trans (itec (fun c1 => ?_) (fun c1 => ?_))
  · refine (rn_aload_n (pc := 69) (dd bX13_rowAt dX13_rowAt_69) rfl).trans ?_
    refine (rn_iload_n (pc := 70) (dd bX13_rowAt dX13_rowAt_70) rfl).trans ?_
    refine (rn_iload_n (pc := 71) (dd bX13_rowAt dX13_rowAt_71) rfl).trans ?_
    refine (rn_iload_n (pc := 72) (dd bX13_rowAt dX13_rowAt_72) rfl).trans ?_
    refine (rn_iload (pc := 73) (dd bX13_rowAt dX13_rowAt_73) rfl).trans ?_
    exact rg_virtual (pc := 75) (dd bX13_rowAt dX13_rowAt_75) rfl rfl (by decide) (kc := 34) rfl s1.1 (as := [(1, 282), (0, x1), (0, x2), (0, x3), (0, x4)]) rfl ⟨Nat.le_of_ble_eq_true rfl, Nat.le_of_ble_eq_true rfl, Nat.le_of_ble_eq_true rfl, Nat.le_of_ble_eq_true rfl⟩
  · refine (rn_iconst (pc := 65) (dd bX13_rowAt dX13_rowAt_65) (by decide)).trans ?_
    refine (rn_goto (t := 78) (pc := 66) (dd bX13_rowAt dX13_rowAt_66) rfl).trans ?_
    exact rn_ireturn (pc := 78) (dd bX13_rowAt dX13_rowAt_78) (Or.inl rfl)
theorem rX13_rowAt_78 {x1 : Int} {x2 : Int} {x3 : Int} {x4 : Int} {x5 : Int} {y0 : Int} {h : vH} : vrun mX13_rowAt 78 [(1, 282), (0, x1), (0, x2), (0, x3), (0, x4), (0, x5)] [(0, y0)] h = some (.inl (some (0, y0)), h) := by
  exact rn_ireturn (pc := 78) (dd bX13_rowAt dX13_rowAt_78) (Or.inl rfl)
theorem bX13_downColumn : vmB mX13_downColumn = cX13_downColumn := rfl
theorem rX13_downColumn_0 {x1 : Int} {x2 : Int} {x3 : Int} {x4 : Int} {h : vH} (s1 : shModel h) : vrun mX13_downColumn 0 [(1, 282), (0, x1), (0, x2), (0, x3), (0, x4), (9, 0)] [] h = vret vrun mX13_downColumn 3 [(1, 282), (0, x1), (0, x2), (0, x3), (0, x4), (9, 0)] [] (vcl mX13_lays [(1, 282), (0, x1), (0, x2)] h) := by
  refine (rn_aload_n (pc := 0) (dd bX13_downColumn dX13_downColumn_0) rfl).trans ?_
  refine (rn_iload_n (pc := 1) (dd bX13_downColumn dX13_downColumn_1) rfl).trans ?_
  refine (rn_iload_n (pc := 2) (dd bX13_downColumn dX13_downColumn_2) rfl).trans ?_
  exact rg_virtual (pc := 3) (dd bX13_downColumn dX13_downColumn_3) rfl rfl (by decide) (kc := 34) rfl s1.1 (as := [(1, 282), (0, x1), (0, x2)]) rfl ⟨Nat.le_of_ble_eq_true rfl, Nat.le_of_ble_eq_true rfl, Nat.le_of_ble_eq_true rfl, Nat.le_of_ble_eq_true rfl⟩
theorem rX13_downColumn_6 {x1 : Int} {x2 : Int} {x3 : Int} {x4 : Int} {h : vH} (s1 : shModel h) : vrun mX13_downColumn 6 [(1, 282), (0, x1), (0, x2), (0, x3), (0, x4), (9, 0)] [] h = vret vrun mX13_downColumn 10 [(1, 282), (0, x1), (0, x2), (0, x3), (0, x4), (9, 0)] [] (vcl mX13_taken [(1, 282), (0, x3), (0, x4)] h) := by
  refine (rn_aload_n (pc := 6) (dd bX13_downColumn dX13_downColumn_6) rfl).trans ?_
  refine (rn_iload_n (pc := 7) (dd bX13_downColumn dX13_downColumn_7) rfl).trans ?_
  refine (rn_iload (pc := 8) (dd bX13_downColumn dX13_downColumn_8) rfl).trans ?_
  exact rg_virtual (pc := 10) (dd bX13_downColumn dX13_downColumn_10) rfl rfl (by decide) (kc := 34) rfl s1.1 (as := [(1, 282), (0, x3), (0, x4)]) rfl ⟨Nat.le_of_ble_eq_true rfl, Nat.le_of_ble_eq_true rfl, Nat.le_of_ble_eq_true rfl, Nat.le_of_ble_eq_true rfl⟩
theorem rX13_downColumn_13 {x1 : Int} {x2 : Int} {x3 : Int} {x4 : Int} {y0 : Int} {h : vH} (s1 : shModel h) (p2 : ¬ (y0 = (-1)) → 0 ≤ y0) (p3 : ¬ (y0 = (-1)) → y0 < 140) (p4 : ¬ (y0 = (-1)) → 0 ≤ h 2 316 y0) (p5 : ¬ (y0 = (-1)) → (-2147483648) ≤ h 2 317 y0 + (if h 1542 282 0 = (if h 2 316 y0 % 2 = 0 then 1 else 0) then h 2 315 y0 else 0)) (p6 : ¬ (y0 = (-1)) → h 2 317 y0 + (if h 1542 282 0 = (if h 2 316 y0 % 2 = 0 then 1 else 0) then h 2 315 y0 else 0) < 2147483648) : vrun mX13_downColumn 13 [(1, 282), (0, x1), (0, x2), (0, x3), (0, x4), (9, 0)] [(0, y0)] h = if y0 = (-1) then some (.inl (some (0, 0)), h) else some (.inl (some (0, h 2 317 y0 + (if h 1542 282 0 = (if h 2 316 y0 % 2 = 0 then 1 else 0) then h 2 315 y0 else 0))), h) := by
  refine (rn_istore (pc := 13) (dd bX13_downColumn dX13_downColumn_13) (Nat.le_of_ble_eq_true rfl) rfl).trans ?_
  refine (rn_iload (pc := 15) (dd bX13_downColumn dX13_downColumn_15) rfl).trans ?_
  refine (rn_iconst (pc := 17) (dd bX13_downColumn dX13_downColumn_17) (by decide)).trans ?_
  refine (rg_icmp_ne (t := 23) (pc := 18) (dd bX13_downColumn dX13_downColumn_18) rfl).trans (itec (fun c1 => ?_) (fun c1 => ?_))
  · refine (rn_iconst (pc := 21) (dd bX13_downColumn dX13_downColumn_21) (by decide)).trans ?_
    exact rn_ireturn (pc := 22) (dd bX13_downColumn dX13_downColumn_22) (Or.inl rfl)
  · refine (rn_aload_n (pc := 23) (dd bX13_downColumn dX13_downColumn_23) rfl).trans ?_
    refine (rg_gf (pc := 24) (dd bX13_downColumn dX13_downColumn_24) (ci := 14) (j := 36) rfl rfl (key := 1536) rfl (kc := 34) rfl s1.1 s1.2.2.2.2.2.2.2.2.2.2.2.2.2.2.2.2.2.2.2.2.2.2.2.2.2.2.2.2.2.2.2.2.2.2.2.2.2.2.2.2.2.2.2.2.2.2.2.2.2.2.2.2.2.2.2.2.2.2.2.2.2.2.2.2.2.2.2.2.2.2.2.2.2.2.2.2.2.2.2.2.2.2.2.2.2.2.2.2.2.2.2.2.2.2.2.2.2.2.2.2.2.2.2.1).trans ?_
    refine (rn_iload (pc := 27) (dd bX13_downColumn dX13_downColumn_27) rfl).trans ?_
    refine (rg_iaload (pc := 29) (dd bX13_downColumn dX13_downColumn_29) s1.2.2.2.2.2.2.2.2.2.2.2.2.2.2.2.2.2.2.2.2.2.2.2.2.2.2.2.2.2.2.2.2.2.2.2.2.2.2.2.2.2.2.2.2.2.2.2.2.2.2.2.2.2.2.2.2.2.2.2.2.2.2.2.2.2.2.2.2.2.2.2.2.2.2.2.2.2.2.2.2.2.2.2.2.2.2.2.2.2.2.2.2.2.2.2.2.2.2.2.2.2.2.2.2.1 s1.2.2.2.2.2.2.2.2.2.2.2.2.2.2.2.2.2.2.2.2.2.2.2.2.2.2.2.2.2.2.2.2.2.2.2.2.2.2.2.2.2.2.2.2.2.2.2.2.2.2.2.2.2.2.2.2.2.2.2.2.2.2.2.2.2.2.2.2.2.2.2.2.2.2.2.2.2.2.2.2.2.2.2.2.2.2.2.2.2.2.2.2.2.2.2.2.2.2.2.2.2.2.2.2.2.1 (p2 c1) (p3 c1) rfl).trans ?_
    refine (rn_aload_n (pc := 30) (dd bX13_downColumn dX13_downColumn_30) rfl).trans ?_
    refine (rg_gf (pc := 31) (dd bX13_downColumn dX13_downColumn_31) (ci := 14) (j := 42) rfl rfl (key := 1542) rfl (kc := 34) rfl s1.1 rfl).trans ?_
    refine (rn_aload_n (pc := 34) (dd bX13_downColumn dX13_downColumn_34) rfl).trans ?_
    refine (rg_gf (pc := 35) (dd bX13_downColumn dX13_downColumn_35) (ci := 14) (j := 35) rfl rfl (key := 1535) rfl (kc := 34) rfl s1.1 s1.2.2.2.2.2.2.2.2.2.2.2.2.2.2.2.2.2.2.2.2.2.2.2.2.2.2.2.2.2.2.2.2.2.2.2.2.2.2.2.2.2.2.2.2.2.2.2.2.2.2.2.2.2.2.2.2.2.2.2.2.2.2.2.2.2.2.2.2.2.2.2.2.2.2.2.2.2.2.2.2.2.2.2.2.2.2.2.2.2.2.2.2.2.2.2.2.2.2.2.2.1).trans ?_
    refine (rn_iload (pc := 38) (dd bX13_downColumn dX13_downColumn_38) rfl).trans ?_
    refine (rg_iaload (pc := 40) (dd bX13_downColumn dX13_downColumn_40) s1.2.2.2.2.2.2.2.2.2.2.2.2.2.2.2.2.2.2.2.2.2.2.2.2.2.2.2.2.2.2.2.2.2.2.2.2.2.2.2.2.2.2.2.2.2.2.2.2.2.2.2.2.2.2.2.2.2.2.2.2.2.2.2.2.2.2.2.2.2.2.2.2.2.2.2.2.2.2.2.2.2.2.2.2.2.2.2.2.2.2.2.2.2.2.2.2.2.2.2.2.2.1 s1.2.2.2.2.2.2.2.2.2.2.2.2.2.2.2.2.2.2.2.2.2.2.2.2.2.2.2.2.2.2.2.2.2.2.2.2.2.2.2.2.2.2.2.2.2.2.2.2.2.2.2.2.2.2.2.2.2.2.2.2.2.2.2.2.2.2.2.2.2.2.2.2.2.2.2.2.2.2.2.2.2.2.2.2.2.2.2.2.2.2.2.2.2.2.2.2.2.2.2.2.2.2.1 (by have z0 := p2 c1; have z1 := p3 c1; omega) (by have z0 := p2 c1; have z1 := p3 c1; omega) rfl).trans ?_
    refine (rn_iconst (pc := 41) (dd bX13_downColumn dX13_downColumn_41) (by decide)).trans ?_
    refine (rg_irem (pc := 42) (dd bX13_downColumn dX13_downColumn_42) (by decide) (p4 c1)).trans ?_
    have e1 : vrun mX13_downColumn 43 [(1, 282), (0, x1), (0, x2), (0, x3), (0, x4), (0, y0)] [(0, h 2 316 y0 % 2), (0, h 1542 282 0), (0, h 2 317 y0)] h = vrun mX13_downColumn 51 [(1, 282), (0, x1), (0, x2), (0, x3), (0, x4), (0, y0)] [(0, (if h 2 316 y0 % 2 = 0 then 1 else 0)), (0, h 1542 282 0), (0, h 2 317 y0)] h := by
      refine (rg_if_ne (t := 50) (pc := 43) (dd bX13_downColumn dX13_downColumn_43) rfl).trans ?_
      by_cases c2 : h 2 316 y0 % 2 = 0
      · refine (if_pos c2).trans ?_
        refine (rn_iconst (pc := 46) (dd bX13_downColumn dX13_downColumn_46) (by decide)).trans ?_
        refine (rn_goto (t := 51) (pc := 47) (dd bX13_downColumn dX13_downColumn_47) rfl).trans ?_
        refine Eq.trans (b := vrun mX13_downColumn 51 [(1, 282), (0, x1), (0, x2), (0, x3), (0, x4), (0, y0)] [(0, 1), (0, h 1542 282 0), (0, h 2 317 y0)] h) rfl ?_
        simp only [c2, true_or, false_or, or_true, or_false, true_and, false_and, and_true, and_false, not_true_eq_false, not_false_eq_true, ne_eq, if_true, if_false, ↓reduceIte]
      · refine (if_neg c2).trans ?_
        refine (rn_iconst (pc := 50) (dd bX13_downColumn dX13_downColumn_50) (by decide)).trans ?_
        refine Eq.trans (b := vrun mX13_downColumn 51 [(1, 282), (0, x1), (0, x2), (0, x3), (0, x4), (0, y0)] [(0, 0), (0, h 1542 282 0), (0, h 2 317 y0)] h) rfl ?_
        simp only [c2, true_or, false_or, or_true, or_false, true_and, false_and, and_true, and_false, not_true_eq_false, not_false_eq_true, ne_eq, if_true, if_false, ↓reduceIte]
    refine e1.trans ?_
    have e2 : vrun mX13_downColumn 51 [(1, 282), (0, x1), (0, x2), (0, x3), (0, x4), (0, y0)] [(0, (if h 2 316 y0 % 2 = 0 then 1 else 0)), (0, h 1542 282 0), (0, h 2 317 y0)] h = vrun mX13_downColumn 65 [(1, 282), (0, x1), (0, x2), (0, x3), (0, x4), (0, y0)] [(0, (if h 1542 282 0 = (if h 2 316 y0 % 2 = 0 then 1 else 0) then h 2 315 y0 else 0)), (0, h 2 317 y0)] h := by
      refine (rg_icmp_ne (t := 64) (pc := 51) (dd bX13_downColumn dX13_downColumn_51) rfl).trans ?_
      by_cases c3 : h 1542 282 0 = (if h 2 316 y0 % 2 = 0 then 1 else 0)
      · refine (if_pos c3).trans ?_
        refine (rn_aload_n (pc := 54) (dd bX13_downColumn dX13_downColumn_54) rfl).trans ?_
        refine (rg_gf (pc := 55) (dd bX13_downColumn dX13_downColumn_55) (ci := 14) (j := 34) rfl rfl (key := 1534) rfl (kc := 34) rfl s1.1 s1.2.2.2.2.2.2.2.2.2.2.2.2.2.2.2.2.2.2.2.2.2.2.2.2.2.2.2.2.2.2.2.2.2.2.2.2.2.2.2.2.2.2.2.2.2.2.2.2.2.2.2.2.2.2.2.2.2.2.2.2.2.2.2.2.2.2.2.2.2.2.2.2.2.2.2.2.2.2.2.2.2.2.2.2.2.2.2.2.2.2.2.2.2.2.2.2.2.1).trans ?_
        refine (rn_iload (pc := 58) (dd bX13_downColumn dX13_downColumn_58) rfl).trans ?_
        refine (rg_iaload (pc := 60) (dd bX13_downColumn dX13_downColumn_60) s1.2.2.2.2.2.2.2.2.2.2.2.2.2.2.2.2.2.2.2.2.2.2.2.2.2.2.2.2.2.2.2.2.2.2.2.2.2.2.2.2.2.2.2.2.2.2.2.2.2.2.2.2.2.2.2.2.2.2.2.2.2.2.2.2.2.2.2.2.2.2.2.2.2.2.2.2.2.2.2.2.2.2.2.2.2.2.2.2.2.2.2.2.2.2.2.2.2.2.1 s1.2.2.2.2.2.2.2.2.2.2.2.2.2.2.2.2.2.2.2.2.2.2.2.2.2.2.2.2.2.2.2.2.2.2.2.2.2.2.2.2.2.2.2.2.2.2.2.2.2.2.2.2.2.2.2.2.2.2.2.2.2.2.2.2.2.2.2.2.2.2.2.2.2.2.2.2.2.2.2.2.2.2.2.2.2.2.2.2.2.2.2.2.2.2.2.2.2.2.2.1 (by have z0 := p2 c1; have z1 := p3 c1; omega) (by have z0 := p2 c1; have z1 := p3 c1; omega) rfl).trans ?_
        refine (rn_goto (t := 65) (pc := 61) (dd bX13_downColumn dX13_downColumn_61) rfl).trans ?_
        refine Eq.trans (b := vrun mX13_downColumn 65 [(1, 282), (0, x1), (0, x2), (0, x3), (0, x4), (0, y0)] [(0, h 2 315 y0), (0, h 2 317 y0)] h) rfl ?_
        simp only [if_pos c3]
      · refine (if_neg c3).trans ?_
        refine (rn_iconst (pc := 64) (dd bX13_downColumn dX13_downColumn_64) (by decide)).trans ?_
        refine Eq.trans (b := vrun mX13_downColumn 65 [(1, 282), (0, x1), (0, x2), (0, x3), (0, x4), (0, y0)] [(0, 0), (0, h 2 317 y0)] h) rfl ?_
        simp only [if_neg c3]
    refine e2.trans ?_
    refine (rg_iadd (pc := 65) (dd bX13_downColumn dX13_downColumn_65) (p5 c1) (p6 c1)).trans ?_
    exact rn_ireturn (pc := 66) (dd bX13_downColumn dX13_downColumn_66) (Or.inl rfl)
theorem bX13_columnAt : vmB mX13_columnAt = cX13_columnAt := rfl
theorem rX13_columnAt_0 {x1 : Int} {x2 : Int} {x3 : Int} {x4 : Int} {h : vH} (s1 : shModel h) (p2 : ¬ (x1 < 0) ∧ ¬ (3 < x1) → (-2147483648) ≤ h 1504 282 0 - 1) (p3 : ¬ (x1 < 0) ∧ ¬ (3 < x1) → h 1504 282 0 - 1 < 2147483648) (p4 : (¬ (x1 < 0) ∧ ¬ (3 < x1)) ∧ ¬ (fX13_isLine h x2 = 0) → 0 ≤ x2) (p5 : (¬ (x1 < 0) ∧ ¬ (3 < x1)) ∧ ¬ (fX13_isLine h x2 = 0) → x2 < 60) : vrun mX13_columnAt 0 [(1, 282), (0, x1), (0, x2), (0, x3), (0, x4), (9, 0)] [] h = vret vrun mX13_columnAt 48 [(1, 282), (0, x1), (0, x2), (0, x3), (0, x4), (0, (if (¬ (x1 < 0) ∧ ¬ (3 < x1)) ∧ ¬ (fX13_isLine h x2 = 0) then 1 else 0))] [] (vcl mX13_isFine [(1, 282), (0, (if (¬ (x1 < 0) ∧ ¬ (3 < x1)) ∧ ¬ (fX13_isLine h x2 = 0) then (if fX13_isPlace h x2 x3 x4 = 0 then 2 else 0) else 1))] h) := by
  refine (rn_iload_n (pc := 0) (dd bX13_columnAt dX13_columnAt_0) rfl).trans ?_
  refine (rg_static (pc := 1) (dd bX13_columnAt dX13_columnAt_1) rfl (by decide) (Nat.le_of_ble_eq_true rfl) (as := [(0, x1)]) rfl rfl ⟨Nat.le_of_ble_eq_true rfl, Nat.le_of_ble_eq_true rfl, Nat.le_of_ble_eq_true rfl, Nat.le_of_ble_eq_true rfl⟩).trans ?_
  refine (vret_v spX13_isPane).trans ?_
  have e2 : vrun mX13_columnAt 4 [(1, 282), (0, x1), (0, x2), (0, x3), (0, x4), (9, 0)] [(0, (if ¬ (x1 < 0) ∧ ¬ (3 < x1) then 1 else 0))] h = vrun mX13_columnAt 20 [(1, 282), (0, x1), (0, x2), (0, x3), (0, x4), (9, 0)] [(0, (if (¬ (x1 < 0) ∧ ¬ (3 < x1)) ∧ ¬ (fX13_isLine h x2 = 0) then 1 else 0))] h := by
    refine (rg_beq (t := 19) (pc := 4) (dd bX13_columnAt dX13_columnAt_4) rfl).trans ?_
    by_cases c1 : ¬ (x1 < 0) ∧ ¬ (3 < x1)
    · refine (if_pos c1).trans ?_
      refine (rn_aload_n (pc := 7) (dd bX13_columnAt dX13_columnAt_7) rfl).trans ?_
      refine (rn_iload_n (pc := 8) (dd bX13_columnAt dX13_columnAt_8) rfl).trans ?_
      refine (rg_virtual (pc := 9) (dd bX13_columnAt dX13_columnAt_9) rfl rfl (by decide) (kc := 34) rfl s1.1 (as := [(1, 282), (0, x2)]) rfl ⟨Nat.le_of_ble_eq_true rfl, Nat.le_of_ble_eq_true rfl, Nat.le_of_ble_eq_true rfl, Nat.le_of_ble_eq_true rfl⟩).trans ?_
      refine (vret_v (spX13_isLine s1 (p2 c1) (p3 c1))).trans ?_
      have e1 : vrun mX13_columnAt 12 [(1, 282), (0, x1), (0, x2), (0, x3), (0, x4), (9, 0)] [(0, fX13_isLine h x2)] h = vrun mX13_columnAt 20 [(1, 282), (0, x1), (0, x2), (0, x3), (0, x4), (9, 0)] [(0, (if ¬ (fX13_isLine h x2 = 0) then 1 else 0))] h := by
        refine (rn_if_eq (t := 19) (pc := 12) (dd bX13_columnAt dX13_columnAt_12) rfl).trans ?_
        by_cases c2 : fX13_isLine h x2 = 0
        · refine (if_pos c2).trans ?_
          refine (rn_iconst (pc := 19) (dd bX13_columnAt dX13_columnAt_19) (by decide)).trans ?_
          refine Eq.trans (b := vrun mX13_columnAt 20 [(1, 282), (0, x1), (0, x2), (0, x3), (0, x4), (9, 0)] [(0, 0)] h) rfl ?_
          simp only [c2, true_or, false_or, or_true, or_false, true_and, false_and, and_true, and_false, not_true_eq_false, not_false_eq_true, ne_eq, if_true, if_false, ↓reduceIte]
        · refine (if_neg c2).trans ?_
          refine (rn_iconst (pc := 15) (dd bX13_columnAt dX13_columnAt_15) (by decide)).trans ?_
          refine (rn_goto (t := 20) (pc := 16) (dd bX13_columnAt dX13_columnAt_16) rfl).trans ?_
          refine Eq.trans (b := vrun mX13_columnAt 20 [(1, 282), (0, x1), (0, x2), (0, x3), (0, x4), (9, 0)] [(0, 1)] h) rfl ?_
          simp only [c2, true_or, false_or, or_true, or_false, true_and, false_and, and_true, and_false, not_true_eq_false, not_false_eq_true, ne_eq, if_true, if_false, ↓reduceIte]
      refine e1.trans ?_
      refine Eq.trans (b := vrun mX13_columnAt 20 [(1, 282), (0, x1), (0, x2), (0, x3), (0, x4), (9, 0)] [(0, (if ¬ (fX13_isLine h x2 = 0) then 1 else 0))] h) rfl ?_
      simp only [c1, true_or, false_or, or_true, or_false, true_and, false_and, and_true, and_false, not_true_eq_false, not_false_eq_true, ne_eq, if_true, if_false, ↓reduceIte]
    · refine (if_neg c1).trans ?_
      refine (rn_iconst (pc := 19) (dd bX13_columnAt dX13_columnAt_19) (by decide)).trans ?_
      refine Eq.trans (b := vrun mX13_columnAt 20 [(1, 282), (0, x1), (0, x2), (0, x3), (0, x4), (9, 0)] [(0, 0)] h) rfl ?_
      simp only [c1, true_or, false_or, or_true, or_false, true_and, false_and, and_true, and_false, not_true_eq_false, not_false_eq_true, ne_eq, if_true, if_false, ↓reduceIte]
  refine e2.trans ?_
  refine (rn_istore (pc := 20) (dd bX13_columnAt dX13_columnAt_20) (Nat.le_of_ble_eq_true rfl) rfl).trans ?_
  refine (rn_aload_n (pc := 22) (dd bX13_columnAt dX13_columnAt_22) rfl).trans ?_
  refine (rn_iload (pc := 23) (dd bX13_columnAt dX13_columnAt_23) rfl).trans ?_
  have e4 : vrun mX13_columnAt 25 [(1, 282), (0, x1), (0, x2), (0, x3), (0, x4), (0, (if (¬ (x1 < 0) ∧ ¬ (3 < x1)) ∧ ¬ (fX13_isLine h x2 = 0) then 1 else 0))] [(0, (if (¬ (x1 < 0) ∧ ¬ (3 < x1)) ∧ ¬ (fX13_isLine h x2 = 0) then 1 else 0)), (1, 282)] h = vrun mX13_columnAt 48 [(1, 282), (0, x1), (0, x2), (0, x3), (0, x4), (0, (if (¬ (x1 < 0) ∧ ¬ (3 < x1)) ∧ ¬ (fX13_isLine h x2 = 0) then 1 else 0))] [(0, (if (¬ (x1 < 0) ∧ ¬ (3 < x1)) ∧ ¬ (fX13_isLine h x2 = 0) then (if fX13_isPlace h x2 x3 x4 = 0 then 2 else 0) else 1)), (1, 282)] h := by
    refine (rg_bne (t := 32) (pc := 25) (dd bX13_columnAt dX13_columnAt_25) rfl).trans ?_
    by_cases c3 : (¬ (x1 < 0) ∧ ¬ (3 < x1)) ∧ ¬ (fX13_isLine h x2 = 0)
    · refine (if_pos c3).trans ?_
      refine (rn_aload_n (pc := 32) (dd bX13_columnAt dX13_columnAt_32) rfl).trans ?_
      refine (rn_iload_n (pc := 33) (dd bX13_columnAt dX13_columnAt_33) rfl).trans ?_
      refine (rn_iload_n (pc := 34) (dd bX13_columnAt dX13_columnAt_34) rfl).trans ?_
      refine (rn_iload (pc := 35) (dd bX13_columnAt dX13_columnAt_35) rfl).trans ?_
      refine (rg_virtual (pc := 37) (dd bX13_columnAt dX13_columnAt_37) rfl rfl (by decide) (kc := 34) rfl s1.1 (as := [(1, 282), (0, x2), (0, x3), (0, x4)]) rfl ⟨Nat.le_of_ble_eq_true rfl, Nat.le_of_ble_eq_true rfl, Nat.le_of_ble_eq_true rfl, Nat.le_of_ble_eq_true rfl⟩).trans ?_
      refine (vret_v (spX13_isPlace s1 (p4 c3) (p5 c3))).trans ?_
      have e3 : vrun mX13_columnAt 40 [(1, 282), (0, x1), (0, x2), (0, x3), (0, x4), (0, (if (¬ (x1 < 0) ∧ ¬ (3 < x1)) ∧ ¬ (fX13_isLine h x2 = 0) then 1 else 0))] [(0, fX13_isPlace h x2 x3 x4), (1, 282)] h = vrun mX13_columnAt 48 [(1, 282), (0, x1), (0, x2), (0, x3), (0, x4), (0, (if (¬ (x1 < 0) ∧ ¬ (3 < x1)) ∧ ¬ (fX13_isLine h x2 = 0) then 1 else 0))] [(0, (if fX13_isPlace h x2 x3 x4 = 0 then 2 else 0)), (1, 282)] h := by
        refine (rg_if_ne (t := 47) (pc := 40) (dd bX13_columnAt dX13_columnAt_40) rfl).trans ?_
        by_cases c4 : fX13_isPlace h x2 x3 x4 = 0
        · refine (if_pos c4).trans ?_
          refine (rn_iconst (pc := 43) (dd bX13_columnAt dX13_columnAt_43) (by decide)).trans ?_
          refine (rn_goto (t := 48) (pc := 44) (dd bX13_columnAt dX13_columnAt_44) rfl).trans ?_
          refine Eq.trans (b := vrun mX13_columnAt 48 [(1, 282), (0, x1), (0, x2), (0, x3), (0, x4), (0, (if (¬ (x1 < 0) ∧ ¬ (3 < x1)) ∧ ¬ (fX13_isLine h x2 = 0) then 1 else 0))] [(0, 2), (1, 282)] h) rfl ?_
          simp only [if_pos c4]
        · refine (if_neg c4).trans ?_
          refine (rn_iconst (pc := 47) (dd bX13_columnAt dX13_columnAt_47) (by decide)).trans ?_
          refine Eq.trans (b := vrun mX13_columnAt 48 [(1, 282), (0, x1), (0, x2), (0, x3), (0, x4), (0, (if (¬ (x1 < 0) ∧ ¬ (3 < x1)) ∧ ¬ (fX13_isLine h x2 = 0) then 1 else 0))] [(0, 0), (1, 282)] h) rfl ?_
          simp only [if_neg c4]
      refine e3.trans ?_
      refine Eq.trans (b := vrun mX13_columnAt 48 [(1, 282), (0, x1), (0, x2), (0, x3), (0, x4), (0, (if (¬ (x1 < 0) ∧ ¬ (3 < x1)) ∧ ¬ (fX13_isLine h x2 = 0) then 1 else 0))] [(0, (if fX13_isPlace h x2 x3 x4 = 0 then 2 else 0)), (1, 282)] h) rfl ?_
      simp only [if_pos c3]
    · refine (if_neg c3).trans ?_
      refine (rn_iconst (pc := 28) (dd bX13_columnAt dX13_columnAt_28) (by decide)).trans ?_
      refine (rn_goto (t := 48) (pc := 29) (dd bX13_columnAt dX13_columnAt_29) rfl).trans ?_
      refine Eq.trans (b := vrun mX13_columnAt 48 [(1, 282), (0, x1), (0, x2), (0, x3), (0, x4), (0, (if (¬ (x1 < 0) ∧ ¬ (3 < x1)) ∧ ¬ (fX13_isLine h x2 = 0) then 1 else 0))] [(0, 1), (1, 282)] h) rfl ?_
      simp only [if_neg c3]
  refine e4.trans ?_
  exact rg_virtual (pc := 48) (dd bX13_columnAt dX13_columnAt_48) rfl rfl (by decide) (kc := 34) rfl s1.1 (as := [(1, 282), (0, (if (¬ (x1 < 0) ∧ ¬ (3 < x1)) ∧ ¬ (fX13_isLine h x2 = 0) then (if fX13_isPlace h x2 x3 x4 = 0 then 2 else 0) else 1))]) rfl ⟨Nat.le_of_ble_eq_true rfl, Nat.le_of_ble_eq_true rfl, Nat.le_of_ble_eq_true rfl, Nat.le_of_ble_eq_true rfl⟩
theorem rX13_columnAt_51 {x1 : Int} {x2 : Int} {x3 : Int} {x4 : Int} {x5 : Int} {y0 : Int} {h : vH} (s1 : shModel h) : vrun mX13_columnAt 51 [(1, 282), (0, x1), (0, x2), (0, x3), (0, x4), (0, x5)] [(0, y0)] h = if y0 = 0 then some (.inl (some (0, 0)), h) else vret vrun mX13_columnAt 59 [(1, 282), (0, x1), (0, x2), (0, x3), (0, x4), (0, x5)] [] (vcl mX13_isInvisible [(1, 282), (0, x1), (0, x2)] h) := by
  refine (rg_if_ne (t := 56) (pc := 51) (dd bX13_columnAt dX13_columnAt_51) rfl).trans (itec (fun c1 => ?_) (fun c1 => ?_))
  · refine (rn_iconst (pc := 54) (dd bX13_columnAt dX13_columnAt_54) (by decide)).trans ?_
    exact rn_ireturn (pc := 55) (dd bX13_columnAt dX13_columnAt_55) (Or.inl rfl)
  · refine (rn_aload_n (pc := 56) (dd bX13_columnAt dX13_columnAt_56) rfl).trans ?_
    refine (rn_iload_n (pc := 57) (dd bX13_columnAt dX13_columnAt_57) rfl).trans ?_
    refine (rn_iload_n (pc := 58) (dd bX13_columnAt dX13_columnAt_58) rfl).trans ?_
    exact rg_virtual (pc := 59) (dd bX13_columnAt dX13_columnAt_59) rfl rfl (by decide) (kc := 34) rfl s1.1 (as := [(1, 282), (0, x1), (0, x2)]) rfl ⟨Nat.le_of_ble_eq_true rfl, Nat.le_of_ble_eq_true rfl, Nat.le_of_ble_eq_true rfl, Nat.le_of_ble_eq_true rfl⟩
theorem rX13_columnAt_62 {x1 : Int} {x2 : Int} {x3 : Int} {x4 : Int} {x5 : Int} {y0 : Int} {h : vH} (s1 : shModel h) : vrun mX13_columnAt 62 [(1, 282), (0, x1), (0, x2), (0, x3), (0, x4), (0, x5)] [(0, y0)] h = if y0 = 0 then vret vrun mX13_columnAt 75 [(1, 282), (0, x1), (0, x2), (0, x3), (0, x4), (0, x5)] [] (vcl mX13_downColumn [(1, 282), (0, x1), (0, x2), (0, x3), (0, x4)] h) else some (.inl (some (0, (-1))), h) := by
  refine (rn_if_eq (t := 69) (pc := 62) (dd bX13_columnAt dX13_columnAt_62) rfl).trans (itec (fun c1 => ?_) (fun c1 => ?_))
  · refine (rn_aload_n (pc := 69) (dd bX13_columnAt dX13_columnAt_69) rfl).trans ?_
    refine (rn_iload_n (pc := 70) (dd bX13_columnAt dX13_columnAt_70) rfl).trans ?_
    refine (rn_iload_n (pc := 71) (dd bX13_columnAt dX13_columnAt_71) rfl).trans ?_
    refine (rn_iload_n (pc := 72) (dd bX13_columnAt dX13_columnAt_72) rfl).trans ?_
    refine (rn_iload (pc := 73) (dd bX13_columnAt dX13_columnAt_73) rfl).trans ?_
    exact rg_virtual (pc := 75) (dd bX13_columnAt dX13_columnAt_75) rfl rfl (by decide) (kc := 34) rfl s1.1 (as := [(1, 282), (0, x1), (0, x2), (0, x3), (0, x4)]) rfl ⟨Nat.le_of_ble_eq_true rfl, Nat.le_of_ble_eq_true rfl, Nat.le_of_ble_eq_true rfl, Nat.le_of_ble_eq_true rfl⟩
  · refine (rn_iconst (pc := 65) (dd bX13_columnAt dX13_columnAt_65) (by decide)).trans ?_
    refine (rn_goto (t := 78) (pc := 66) (dd bX13_columnAt dX13_columnAt_66) rfl).trans ?_
    exact rn_ireturn (pc := 78) (dd bX13_columnAt dX13_columnAt_78) (Or.inl rfl)
theorem rX13_columnAt_78 {x1 : Int} {x2 : Int} {x3 : Int} {x4 : Int} {x5 : Int} {y0 : Int} {h : vH} : vrun mX13_columnAt 78 [(1, 282), (0, x1), (0, x2), (0, x3), (0, x4), (0, x5)] [(0, y0)] h = some (.inl (some (0, y0)), h) := by
  exact rn_ireturn (pc := 78) (dd bX13_columnAt dX13_columnAt_78) (Or.inl rfl)
theorem bX13_lineAt : vmB mX13_lineAt = cX13_lineAt := rfl
theorem rX13_lineAt_0 {x1 : Int} {x2 : Int} {h : vH} (s1 : shModel h) : vrun mX13_lineAt 0 [(1, 282), (0, x1), (0, x2)] [] h = vret vrun mX13_lineAt 4 [(1, 282), (0, x1), (0, x2)] [(1, 282)] (vcl mX13_isRow [(1, 282), (0, x1), (0, x2)] h) := by
  refine (rn_aload_n (pc := 0) (dd bX13_lineAt dX13_lineAt_0) rfl).trans ?_
  refine (rn_aload_n (pc := 1) (dd bX13_lineAt dX13_lineAt_1) rfl).trans ?_
  refine (rn_iload_n (pc := 2) (dd bX13_lineAt dX13_lineAt_2) rfl).trans ?_
  refine (rn_iload_n (pc := 3) (dd bX13_lineAt dX13_lineAt_3) rfl).trans ?_
  exact rg_virtual (pc := 4) (dd bX13_lineAt dX13_lineAt_4) rfl rfl (by decide) (kc := 34) rfl s1.1 (as := [(1, 282), (0, x1), (0, x2)]) rfl ⟨Nat.le_of_ble_eq_true rfl, Nat.le_of_ble_eq_true rfl, Nat.le_of_ble_eq_true rfl, Nat.le_of_ble_eq_true rfl⟩
theorem rX13_lineAt_7 {x1 : Int} {x2 : Int} {y0 : Int} {h : vH} (s1 : shModel h) : vrun mX13_lineAt 7 [(1, 282), (0, x1), (0, x2)] [(0, y0), (1, 282)] h = vret vrun mX13_lineAt 15 [(1, 282), (0, x1), (0, x2)] [] (vcl mX13_isFine [(1, 282), (0, (if y0 = 0 then 1 else 0))] h) := by
  have e1 : vrun mX13_lineAt 7 [(1, 282), (0, x1), (0, x2)] [(0, y0), (1, 282)] h = vrun mX13_lineAt 15 [(1, 282), (0, x1), (0, x2)] [(0, (if y0 = 0 then 1 else 0)), (1, 282)] h := by
    refine (rn_if_eq (t := 14) (pc := 7) (dd bX13_lineAt dX13_lineAt_7) rfl).trans ?_
    by_cases c1 : y0 = 0
    · refine (if_pos c1).trans ?_
      refine (rn_iconst (pc := 14) (dd bX13_lineAt dX13_lineAt_14) (by decide)).trans ?_
      refine Eq.trans (b := vrun mX13_lineAt 15 [(1, 282), (0, x1), (0, x2)] [(0, 1), (1, 282)] h) rfl ?_
      simp only [c1, true_or, false_or, or_true, or_false, true_and, false_and, and_true, and_false, not_true_eq_false, not_false_eq_true, ne_eq, if_true, if_false, ↓reduceIte]
    · refine (if_neg c1).trans ?_
      refine (rn_iconst (pc := 10) (dd bX13_lineAt dX13_lineAt_10) (by decide)).trans ?_
      refine (rn_goto (t := 15) (pc := 11) (dd bX13_lineAt dX13_lineAt_11) rfl).trans ?_
      refine Eq.trans (b := vrun mX13_lineAt 15 [(1, 282), (0, x1), (0, x2)] [(0, 0), (1, 282)] h) rfl ?_
      simp only [c1, true_or, false_or, or_true, or_false, true_and, false_and, and_true, and_false, not_true_eq_false, not_false_eq_true, ne_eq, if_true, if_false, ↓reduceIte]
  refine e1.trans ?_
  exact rg_virtual (pc := 15) (dd bX13_lineAt dX13_lineAt_15) rfl rfl (by decide) (kc := 34) rfl s1.1 (as := [(1, 282), (0, (if y0 = 0 then 1 else 0))]) rfl ⟨Nat.le_of_ble_eq_true rfl, Nat.le_of_ble_eq_true rfl, Nat.le_of_ble_eq_true rfl, Nat.le_of_ble_eq_true rfl⟩
theorem rX13_lineAt_18 {x1 : Int} {x2 : Int} {y0 : Int} {h : vH} (s1 : shModel h) : vrun mX13_lineAt 18 [(1, 282), (0, x1), (0, x2)] [(0, y0)] h = if y0 = 0 then some (.inl (some (0, 0)), h) else vret vrun mX13_lineAt 24 [(1, 282), (0, x1), (0, x2)] [] (vcl mX13_lineOf [(1, 282), (0, x1), (0, x2)] h) := by
  refine (rn_if_eq (t := 30) (pc := 18) (dd bX13_lineAt dX13_lineAt_18) rfl).trans (itec (fun c1 => ?_) (fun c1 => ?_))
  · refine (rn_iconst (pc := 30) (dd bX13_lineAt dX13_lineAt_30) (by decide)).trans ?_
    exact rn_ireturn (pc := 31) (dd bX13_lineAt dX13_lineAt_31) (Or.inl rfl)
  · refine (rn_aload_n (pc := 21) (dd bX13_lineAt dX13_lineAt_21) rfl).trans ?_
    refine (rn_iload_n (pc := 22) (dd bX13_lineAt dX13_lineAt_22) rfl).trans ?_
    refine (rn_iload_n (pc := 23) (dd bX13_lineAt dX13_lineAt_23) rfl).trans ?_
    exact rg_virtual (pc := 24) (dd bX13_lineAt dX13_lineAt_24) rfl rfl (by decide) (kc := 34) rfl s1.1 (as := [(1, 282), (0, x1), (0, x2)]) rfl ⟨Nat.le_of_ble_eq_true rfl, Nat.le_of_ble_eq_true rfl, Nat.le_of_ble_eq_true rfl, Nat.le_of_ble_eq_true rfl⟩
theorem rX13_lineAt_27 {x1 : Int} {x2 : Int} {y0 : Int} {h : vH} : vrun mX13_lineAt 27 [(1, 282), (0, x1), (0, x2)] [(0, y0)] h = some (.inl (some (0, y0)), h) := by
  refine (rn_goto (t := 31) (pc := 27) (dd bX13_lineAt dX13_lineAt_27) rfl).trans ?_
  exact rn_ireturn (pc := 31) (dd bX13_lineAt dX13_lineAt_31) (Or.inl rfl)
theorem bX13_goesUp : vmB mX13_goesUp = cX13_goesUp := rfl
theorem rX13_goesUp_0 {x1 : Int} {x2 : Int} {x3 : Int} {h : vH} (s1 : shModel h) : vrun mX13_goesUp 0 [(1, 282), (0, x1), (0, x2), (0, x3), (9, 0), (9, 0), (9, 0), (9, 0), (9, 0), (9, 0), (9, 0), (9, 0)] [] h = vret vrun mX13_goesUp 3 [(1, 282), (0, x1), (0, x2), (0, x3), (9, 0), (9, 0), (9, 0), (9, 0), (9, 0), (9, 0), (9, 0), (9, 0)] [] (vcl mX13_lineOf [(1, 282), (0, x1), (0, x2)] h) := by
  refine (rn_aload_n (pc := 0) (dd bX13_goesUp dX13_goesUp_0) rfl).trans ?_
  refine (rn_iload_n (pc := 1) (dd bX13_goesUp dX13_goesUp_1) rfl).trans ?_
  refine (rn_iload_n (pc := 2) (dd bX13_goesUp dX13_goesUp_2) rfl).trans ?_
  exact rg_virtual (pc := 3) (dd bX13_goesUp dX13_goesUp_3) rfl rfl (by decide) (kc := 34) rfl s1.1 (as := [(1, 282), (0, x1), (0, x2)]) rfl ⟨Nat.le_of_ble_eq_true rfl, Nat.le_of_ble_eq_true rfl, Nat.le_of_ble_eq_true rfl, Nat.le_of_ble_eq_true rfl⟩
theorem rX13_goesUp_6 {x1 : Int} {x2 : Int} {x3 : Int} {y0 : Int} {h : vH} (s1 : shModel h) : vrun mX13_goesUp 6 [(1, 282), (0, x1), (0, x2), (0, x3), (9, 0), (9, 0), (9, 0), (9, 0), (9, 0), (9, 0), (9, 0), (9, 0)] [(0, y0)] h = vret vrun mX13_goesUp 11 [(1, 282), (0, x1), (0, x2), (0, x3), (0, y0), (9, 0), (9, 0), (9, 0), (9, 0), (9, 0), (9, 0), (9, 0)] [] (vcl mX13_laysRow [(1, 282), (0, x1), (0, x2)] h) := by
  refine (rn_istore (pc := 6) (dd bX13_goesUp dX13_goesUp_6) (Nat.le_of_ble_eq_true rfl) rfl).trans ?_
  refine (rn_aload_n (pc := 8) (dd bX13_goesUp dX13_goesUp_8) rfl).trans ?_
  refine (rn_iload_n (pc := 9) (dd bX13_goesUp dX13_goesUp_9) rfl).trans ?_
  refine (rn_iload_n (pc := 10) (dd bX13_goesUp dX13_goesUp_10) rfl).trans ?_
  exact rg_virtual (pc := 11) (dd bX13_goesUp dX13_goesUp_11) rfl rfl (by decide) (kc := 34) rfl s1.1 (as := [(1, 282), (0, x1), (0, x2)]) rfl ⟨Nat.le_of_ble_eq_true rfl, Nat.le_of_ble_eq_true rfl, Nat.le_of_ble_eq_true rfl, Nat.le_of_ble_eq_true rfl⟩
theorem rX13_goesUp_14 {x1 : Int} {x2 : Int} {x3 : Int} {x4 : Int} {y0 : Int} {h : vH} (s1 : shModel h) (p2 : 0 ≤ y0) (p3 : y0 < 142) (p4 : y0 + 1 < 142) (p5 : h 2 320 y0 = h 2 320 (y0 + 1) → 0 ≤ x4) (p6 : h 2 320 y0 = h 2 320 (y0 + 1) → x4 < 60) (p7 : ¬ (h 2 320 y0 = h 2 320 (y0 + 1)) → (-2147483648) ≤ h 2 320 (y0 + 1) - 1) (p8 : ¬ (h 2 320 y0 = h 2 320 (y0 + 1)) → h 2 320 (y0 + 1) - 1 < 2147483648) (p9 : ¬ (h 2 320 y0 = h 2 320 (y0 + 1)) → 0 ≤ h 2 320 (y0 + 1) - 1) (p10 : ¬ (h 2 320 y0 = h 2 320 (y0 + 1)) → h 2 320 (y0 + 1) - 1 < 140) : vrun mX13_goesUp 14 [(1, 282), (0, x1), (0, x2), (0, x3), (0, x4), (9, 0), (9, 0), (9, 0), (9, 0), (9, 0), (9, 0), (9, 0)] [(0, y0)] h = if h 2 320 y0 = h 2 320 (y0 + 1) then some (.inl (some (0, h 2 284 x4)), h) else vrun mX13_goesUp 69 [(1, 282), (0, x1), (0, x2), (0, x3), (0, x4), (0, y0), (0, h 2 320 y0), (0, h 2 320 (y0 + 1)), (0, (-1)), (0, h 2 319 (h 2 320 (y0 + 1) - 1)), (0, h 2 320 y0), (9, 0)] [] h := by
  refine (rn_istore (pc := 14) (dd bX13_goesUp dX13_goesUp_14) (Nat.le_of_ble_eq_true rfl) rfl).trans ?_
  refine (rn_aload_n (pc := 16) (dd bX13_goesUp dX13_goesUp_16) rfl).trans ?_
  refine (rg_gf (pc := 17) (dd bX13_goesUp dX13_goesUp_17) (ci := 14) (j := 39) rfl rfl (key := 1539) rfl (kc := 34) rfl s1.1 s1.2.2.2.2.2.2.2.2.2.2.2.2.2.2.2.2.2.2.2.2.2.2.2.2.2.2.2.2.2.2.2.2.2.2.2.2.2.2.2.2.2.2.2.2.2.2.2.2.2.2.2.2.2.2.2.2.2.2.2.2.2.2.2.2.2.2.2.2.2.2.2.2.2.2.2.2.2.2.2.2.2.2.2.2.2.2.2.2.2.2.2.2.2.2.2.2.2.2.2.2.2.2.2.2.2.2.2.2.2.2.2.2.1).trans ?_
  refine (rn_iload (pc := 20) (dd bX13_goesUp dX13_goesUp_20) rfl).trans ?_
  refine (rg_iaload (pc := 22) (dd bX13_goesUp dX13_goesUp_22) s1.2.2.2.2.2.2.2.2.2.2.2.2.2.2.2.2.2.2.2.2.2.2.2.2.2.2.2.2.2.2.2.2.2.2.2.2.2.2.2.2.2.2.2.2.2.2.2.2.2.2.2.2.2.2.2.2.2.2.2.2.2.2.2.2.2.2.2.2.2.2.2.2.2.2.2.2.2.2.2.2.2.2.2.2.2.2.2.2.2.2.2.2.2.2.2.2.2.2.2.2.2.2.2.2.2.2.2.2.2.2.2.2.2.1 s1.2.2.2.2.2.2.2.2.2.2.2.2.2.2.2.2.2.2.2.2.2.2.2.2.2.2.2.2.2.2.2.2.2.2.2.2.2.2.2.2.2.2.2.2.2.2.2.2.2.2.2.2.2.2.2.2.2.2.2.2.2.2.2.2.2.2.2.2.2.2.2.2.2.2.2.2.2.2.2.2.2.2.2.2.2.2.2.2.2.2.2.2.2.2.2.2.2.2.2.2.2.2.2.2.2.2.2.2.2.2.2.2.2.2.1 p2 p3 rfl).trans ?_
  refine (rn_istore (pc := 23) (dd bX13_goesUp dX13_goesUp_23) (Nat.le_of_ble_eq_true rfl) rfl).trans ?_
  refine (rn_aload_n (pc := 25) (dd bX13_goesUp dX13_goesUp_25) rfl).trans ?_
  refine (rg_gf (pc := 26) (dd bX13_goesUp dX13_goesUp_26) (ci := 14) (j := 39) rfl rfl (key := 1539) rfl (kc := 34) rfl s1.1 s1.2.2.2.2.2.2.2.2.2.2.2.2.2.2.2.2.2.2.2.2.2.2.2.2.2.2.2.2.2.2.2.2.2.2.2.2.2.2.2.2.2.2.2.2.2.2.2.2.2.2.2.2.2.2.2.2.2.2.2.2.2.2.2.2.2.2.2.2.2.2.2.2.2.2.2.2.2.2.2.2.2.2.2.2.2.2.2.2.2.2.2.2.2.2.2.2.2.2.2.2.2.2.2.2.2.2.2.2.2.2.2.2.1).trans ?_
  refine (rn_iload (pc := 29) (dd bX13_goesUp dX13_goesUp_29) rfl).trans ?_
  refine (rn_iconst (pc := 31) (dd bX13_goesUp dX13_goesUp_31) (by decide)).trans ?_
  refine (rg_iadd (pc := 32) (dd bX13_goesUp dX13_goesUp_32) (by omega) (by omega)).trans ?_
  refine (rg_iaload (pc := 33) (dd bX13_goesUp dX13_goesUp_33) s1.2.2.2.2.2.2.2.2.2.2.2.2.2.2.2.2.2.2.2.2.2.2.2.2.2.2.2.2.2.2.2.2.2.2.2.2.2.2.2.2.2.2.2.2.2.2.2.2.2.2.2.2.2.2.2.2.2.2.2.2.2.2.2.2.2.2.2.2.2.2.2.2.2.2.2.2.2.2.2.2.2.2.2.2.2.2.2.2.2.2.2.2.2.2.2.2.2.2.2.2.2.2.2.2.2.2.2.2.2.2.2.2.2.1 s1.2.2.2.2.2.2.2.2.2.2.2.2.2.2.2.2.2.2.2.2.2.2.2.2.2.2.2.2.2.2.2.2.2.2.2.2.2.2.2.2.2.2.2.2.2.2.2.2.2.2.2.2.2.2.2.2.2.2.2.2.2.2.2.2.2.2.2.2.2.2.2.2.2.2.2.2.2.2.2.2.2.2.2.2.2.2.2.2.2.2.2.2.2.2.2.2.2.2.2.2.2.2.2.2.2.2.2.2.2.2.2.2.2.2.1 (by omega) p4 rfl).trans ?_
  refine (rn_istore (pc := 34) (dd bX13_goesUp dX13_goesUp_34) (Nat.le_of_ble_eq_true rfl) rfl).trans ?_
  refine (rn_iload (pc := 36) (dd bX13_goesUp dX13_goesUp_36) rfl).trans ?_
  refine (rn_iload (pc := 38) (dd bX13_goesUp dX13_goesUp_38) rfl).trans ?_
  refine (rg_icmp_ne (t := 51) (pc := 40) (dd bX13_goesUp dX13_goesUp_40) rfl).trans (itec (fun c1 => ?_) (fun c1 => ?_))
  · refine (rn_aload_n (pc := 43) (dd bX13_goesUp dX13_goesUp_43) rfl).trans ?_
    refine (rg_gf (pc := 44) (dd bX13_goesUp dX13_goesUp_44) (ci := 14) (j := 2) rfl rfl (key := 1502) rfl (kc := 34) rfl s1.1 s1.2.2.2.2.1).trans ?_
    refine (rn_iload (pc := 47) (dd bX13_goesUp dX13_goesUp_47) rfl).trans ?_
    refine (rg_iaload (pc := 49) (dd bX13_goesUp dX13_goesUp_49) s1.2.2.2.2.2.1 s1.2.2.2.2.2.2.1 (p5 c1) (p6 c1) rfl).trans ?_
    exact rn_ireturn (pc := 50) (dd bX13_goesUp dX13_goesUp_50) (Or.inl rfl)
  · refine (rn_iconst (pc := 51) (dd bX13_goesUp dX13_goesUp_51) (by decide)).trans ?_
    refine (rn_istore (pc := 52) (dd bX13_goesUp dX13_goesUp_52) (Nat.le_of_ble_eq_true rfl) rfl).trans ?_
    refine (rn_aload_n (pc := 54) (dd bX13_goesUp dX13_goesUp_54) rfl).trans ?_
    refine (rg_gf (pc := 55) (dd bX13_goesUp dX13_goesUp_55) (ci := 14) (j := 38) rfl rfl (key := 1538) rfl (kc := 34) rfl s1.1 s1.2.2.2.2.2.2.2.2.2.2.2.2.2.2.2.2.2.2.2.2.2.2.2.2.2.2.2.2.2.2.2.2.2.2.2.2.2.2.2.2.2.2.2.2.2.2.2.2.2.2.2.2.2.2.2.2.2.2.2.2.2.2.2.2.2.2.2.2.2.2.2.2.2.2.2.2.2.2.2.2.2.2.2.2.2.2.2.2.2.2.2.2.2.2.2.2.2.2.2.2.2.2.2.2.2.2.2.2.2.1).trans ?_
    refine (rn_iload (pc := 58) (dd bX13_goesUp dX13_goesUp_58) rfl).trans ?_
    refine (rn_iconst (pc := 60) (dd bX13_goesUp dX13_goesUp_60) (by decide)).trans ?_
    refine (rg_isub (pc := 61) (dd bX13_goesUp dX13_goesUp_61) (p7 c1) (p8 c1)).trans ?_
    refine (rg_iaload (pc := 62) (dd bX13_goesUp dX13_goesUp_62) s1.2.2.2.2.2.2.2.2.2.2.2.2.2.2.2.2.2.2.2.2.2.2.2.2.2.2.2.2.2.2.2.2.2.2.2.2.2.2.2.2.2.2.2.2.2.2.2.2.2.2.2.2.2.2.2.2.2.2.2.2.2.2.2.2.2.2.2.2.2.2.2.2.2.2.2.2.2.2.2.2.2.2.2.2.2.2.2.2.2.2.2.2.2.2.2.2.2.2.2.2.2.2.2.2.2.2.2.2.2.2.1 s1.2.2.2.2.2.2.2.2.2.2.2.2.2.2.2.2.2.2.2.2.2.2.2.2.2.2.2.2.2.2.2.2.2.2.2.2.2.2.2.2.2.2.2.2.2.2.2.2.2.2.2.2.2.2.2.2.2.2.2.2.2.2.2.2.2.2.2.2.2.2.2.2.2.2.2.2.2.2.2.2.2.2.2.2.2.2.2.2.2.2.2.2.2.2.2.2.2.2.2.2.2.2.2.2.2.2.2.2.2.2.2.1 (p9 c1) (p10 c1) rfl).trans ?_
    refine (rn_istore (pc := 63) (dd bX13_goesUp dX13_goesUp_63) (Nat.le_of_ble_eq_true rfl) rfl).trans ?_
    refine (rn_iload (pc := 65) (dd bX13_goesUp dX13_goesUp_65) rfl).trans ?_
    refine (rn_istore (pc := 67) (dd bX13_goesUp dX13_goesUp_67) (Nat.le_of_ble_eq_true rfl) rfl).trans ?_
    rfl
theorem rX13_goesUp_69 {x1 : Int} {x2 : Int} {x3 : Int} {x4 : Int} {x5 : Int} {x6 : Int} {x7 : Int} {x8 : Int} {x9 : Int} {x10 : Int} {v11 : vv} {h : vH} (p1 : x7 ≤ x10 → (-2147483648) ≤ x7 - 1) (p2 : x7 ≤ x10 → x7 - 1 < 2147483648) (s3 : shModel h) (p4 : ¬ (x7 ≤ x10) → 0 ≤ x10) (p5 : ¬ (x7 ≤ x10) → x10 < 140) (p6 : ¬ (x7 ≤ x10) → 0 ≤ h 2 319 x10) (p7 : ¬ (x7 ≤ x10) → h 2 319 x10 < 140) (p8 : ¬ (x7 ≤ x10) → ¬ (h 2 315 (h 2 319 x10) ≤ 0) → ¬ (x3 < h 2 317 (h 2 319 x10)) → (-2147483648) ≤ h 2 317 (h 2 319 x10) + h 2 315 (h 2 319 x10)) (p9 : ¬ (x7 ≤ x10) → ¬ (h 2 315 (h 2 319 x10) ≤ 0) → ¬ (x3 < h 2 317 (h 2 319 x10)) → h 2 317 (h 2 319 x10) + h 2 315 (h 2 319 x10) < 2147483648) : vrun mX13_goesUp 69 [(1, 282), (0, x1), (0, x2), (0, x3), (0, x4), (0, x5), (0, x6), (0, x7), (0, x8), (0, x9), (0, x10), v11] [] h = if x7 ≤ x10 then vrun mX13_goesUp 146 [(1, 282), (0, x1), (0, x2), (0, x3), (0, x4), (0, x5), (0, x6), (0, x7), (0, x8), (0, x9), (0, x7 - 1), v11] [] h else vrun mX13_goesUp 69 [(1, 282), (0, x1), (0, x2), (0, x3), (0, x4), (0, x5), (0, x6), (0, x7), (0, (if h 2 315 (h 2 319 x10) ≤ 0 then x8 else (if x3 < h 2 317 (h 2 319 x10) then x8 else (if h 2 317 (h 2 319 x10) + h 2 315 (h 2 319 x10) ≤ x3 then x8 else h 2 319 x10)))), (0, x9), (0, x10 + 1), (0, h 2 319 x10)] [] h := by
  refine (rn_iload (pc := 69) (dd bX13_goesUp dX13_goesUp_69) rfl).trans ?_
  refine (rn_iload (pc := 71) (dd bX13_goesUp dX13_goesUp_71) rfl).trans ?_
  refine (rn_icmp_ge (t := 140) (pc := 73) (dd bX13_goesUp dX13_goesUp_73) rfl).trans (itec (fun c1 => ?_) (fun c1 => ?_))
  · refine (rn_iload (pc := 140) (dd bX13_goesUp dX13_goesUp_140) rfl).trans ?_
    refine (rn_iconst (pc := 142) (dd bX13_goesUp dX13_goesUp_142) (by decide)).trans ?_
    refine (rg_isub (pc := 143) (dd bX13_goesUp dX13_goesUp_143) (p1 c1) (p2 c1)).trans ?_
    refine (rn_istore (pc := 144) (dd bX13_goesUp dX13_goesUp_144) (Nat.le_of_ble_eq_true rfl) rfl).trans ?_
    rfl
  · refine (rn_aload_n (pc := 76) (dd bX13_goesUp dX13_goesUp_76) rfl).trans ?_
    refine (rg_gf (pc := 77) (dd bX13_goesUp dX13_goesUp_77) (ci := 14) (j := 38) rfl rfl (key := 1538) rfl (kc := 34) rfl s3.1 s3.2.2.2.2.2.2.2.2.2.2.2.2.2.2.2.2.2.2.2.2.2.2.2.2.2.2.2.2.2.2.2.2.2.2.2.2.2.2.2.2.2.2.2.2.2.2.2.2.2.2.2.2.2.2.2.2.2.2.2.2.2.2.2.2.2.2.2.2.2.2.2.2.2.2.2.2.2.2.2.2.2.2.2.2.2.2.2.2.2.2.2.2.2.2.2.2.2.2.2.2.2.2.2.2.2.2.2.2.2.1).trans ?_
    refine (rn_iload (pc := 80) (dd bX13_goesUp dX13_goesUp_80) rfl).trans ?_
    refine (rg_iaload (pc := 82) (dd bX13_goesUp dX13_goesUp_82) s3.2.2.2.2.2.2.2.2.2.2.2.2.2.2.2.2.2.2.2.2.2.2.2.2.2.2.2.2.2.2.2.2.2.2.2.2.2.2.2.2.2.2.2.2.2.2.2.2.2.2.2.2.2.2.2.2.2.2.2.2.2.2.2.2.2.2.2.2.2.2.2.2.2.2.2.2.2.2.2.2.2.2.2.2.2.2.2.2.2.2.2.2.2.2.2.2.2.2.2.2.2.2.2.2.2.2.2.2.2.2.1 s3.2.2.2.2.2.2.2.2.2.2.2.2.2.2.2.2.2.2.2.2.2.2.2.2.2.2.2.2.2.2.2.2.2.2.2.2.2.2.2.2.2.2.2.2.2.2.2.2.2.2.2.2.2.2.2.2.2.2.2.2.2.2.2.2.2.2.2.2.2.2.2.2.2.2.2.2.2.2.2.2.2.2.2.2.2.2.2.2.2.2.2.2.2.2.2.2.2.2.2.2.2.2.2.2.2.2.2.2.2.2.2.1 (p4 c1) (p5 c1) rfl).trans ?_
    refine (rn_istore (pc := 83) (dd bX13_goesUp dX13_goesUp_83) (Nat.le_of_ble_eq_true rfl) rfl).trans ?_
    refine (rn_aload_n (pc := 85) (dd bX13_goesUp dX13_goesUp_85) rfl).trans ?_
    refine (rg_gf (pc := 86) (dd bX13_goesUp dX13_goesUp_86) (ci := 14) (j := 34) rfl rfl (key := 1534) rfl (kc := 34) rfl s3.1 s3.2.2.2.2.2.2.2.2.2.2.2.2.2.2.2.2.2.2.2.2.2.2.2.2.2.2.2.2.2.2.2.2.2.2.2.2.2.2.2.2.2.2.2.2.2.2.2.2.2.2.2.2.2.2.2.2.2.2.2.2.2.2.2.2.2.2.2.2.2.2.2.2.2.2.2.2.2.2.2.2.2.2.2.2.2.2.2.2.2.2.2.2.2.2.2.2.2.1).trans ?_
    refine (rn_iload (pc := 89) (dd bX13_goesUp dX13_goesUp_89) rfl).trans ?_
    refine (rg_iaload (pc := 91) (dd bX13_goesUp dX13_goesUp_91) s3.2.2.2.2.2.2.2.2.2.2.2.2.2.2.2.2.2.2.2.2.2.2.2.2.2.2.2.2.2.2.2.2.2.2.2.2.2.2.2.2.2.2.2.2.2.2.2.2.2.2.2.2.2.2.2.2.2.2.2.2.2.2.2.2.2.2.2.2.2.2.2.2.2.2.2.2.2.2.2.2.2.2.2.2.2.2.2.2.2.2.2.2.2.2.2.2.2.2.1 s3.2.2.2.2.2.2.2.2.2.2.2.2.2.2.2.2.2.2.2.2.2.2.2.2.2.2.2.2.2.2.2.2.2.2.2.2.2.2.2.2.2.2.2.2.2.2.2.2.2.2.2.2.2.2.2.2.2.2.2.2.2.2.2.2.2.2.2.2.2.2.2.2.2.2.2.2.2.2.2.2.2.2.2.2.2.2.2.2.2.2.2.2.2.2.2.2.2.2.2.1 (p6 c1) (p7 c1) rfl).trans ?_
    have e3 : vrun mX13_goesUp 92 [(1, 282), (0, x1), (0, x2), (0, x3), (0, x4), (0, x5), (0, x6), (0, x7), (0, x8), (0, x9), (0, x10), (0, h 2 319 x10)] [(0, h 2 315 (h 2 319 x10))] h = vrun mX13_goesUp 132 [(1, 282), (0, x1), (0, x2), (0, x3), (0, x4), (0, x5), (0, x6), (0, x7), (0, x8), (0, x9), (0, x10), (0, h 2 319 x10)] [(0, (if h 2 315 (h 2 319 x10) ≤ 0 then x8 else (if x3 < h 2 317 (h 2 319 x10) then x8 else (if h 2 317 (h 2 319 x10) + h 2 315 (h 2 319 x10) ≤ x3 then x8 else h 2 319 x10))))] h := by
      refine (rn_if_le (t := 130) (pc := 92) (dd bX13_goesUp dX13_goesUp_92) rfl).trans ?_
      by_cases c2 : h 2 315 (h 2 319 x10) ≤ 0
      · refine (if_pos c2).trans ?_
        refine (rn_iload (pc := 130) (dd bX13_goesUp dX13_goesUp_130) rfl).trans ?_
        refine Eq.trans (b := vrun mX13_goesUp 132 [(1, 282), (0, x1), (0, x2), (0, x3), (0, x4), (0, x5), (0, x6), (0, x7), (0, x8), (0, x9), (0, x10), (0, h 2 319 x10)] [(0, x8)] h) rfl ?_
        simp only [if_pos c2]
      · refine (if_neg c2).trans ?_
        refine (rn_iload_n (pc := 95) (dd bX13_goesUp dX13_goesUp_95) rfl).trans ?_
        refine (rn_aload_n (pc := 96) (dd bX13_goesUp dX13_goesUp_96) rfl).trans ?_
        refine (rg_gf (pc := 97) (dd bX13_goesUp dX13_goesUp_97) (ci := 14) (j := 36) rfl rfl (key := 1536) rfl (kc := 34) rfl s3.1 s3.2.2.2.2.2.2.2.2.2.2.2.2.2.2.2.2.2.2.2.2.2.2.2.2.2.2.2.2.2.2.2.2.2.2.2.2.2.2.2.2.2.2.2.2.2.2.2.2.2.2.2.2.2.2.2.2.2.2.2.2.2.2.2.2.2.2.2.2.2.2.2.2.2.2.2.2.2.2.2.2.2.2.2.2.2.2.2.2.2.2.2.2.2.2.2.2.2.2.2.2.2.2.2.1).trans ?_
        refine (rn_iload (pc := 100) (dd bX13_goesUp dX13_goesUp_100) rfl).trans ?_
        refine (rg_iaload (pc := 102) (dd bX13_goesUp dX13_goesUp_102) s3.2.2.2.2.2.2.2.2.2.2.2.2.2.2.2.2.2.2.2.2.2.2.2.2.2.2.2.2.2.2.2.2.2.2.2.2.2.2.2.2.2.2.2.2.2.2.2.2.2.2.2.2.2.2.2.2.2.2.2.2.2.2.2.2.2.2.2.2.2.2.2.2.2.2.2.2.2.2.2.2.2.2.2.2.2.2.2.2.2.2.2.2.2.2.2.2.2.2.2.2.2.2.2.2.1 s3.2.2.2.2.2.2.2.2.2.2.2.2.2.2.2.2.2.2.2.2.2.2.2.2.2.2.2.2.2.2.2.2.2.2.2.2.2.2.2.2.2.2.2.2.2.2.2.2.2.2.2.2.2.2.2.2.2.2.2.2.2.2.2.2.2.2.2.2.2.2.2.2.2.2.2.2.2.2.2.2.2.2.2.2.2.2.2.2.2.2.2.2.2.2.2.2.2.2.2.2.2.2.2.2.2.1 (by have z0 := p6 c1; have z1 := p7 c1; omega) (by have z0 := p6 c1; have z1 := p7 c1; omega) rfl).trans ?_
        have e2 : vrun mX13_goesUp 103 [(1, 282), (0, x1), (0, x2), (0, x3), (0, x4), (0, x5), (0, x6), (0, x7), (0, x8), (0, x9), (0, x10), (0, h 2 319 x10)] [(0, h 2 317 (h 2 319 x10)), (0, x3)] h = vrun mX13_goesUp 132 [(1, 282), (0, x1), (0, x2), (0, x3), (0, x4), (0, x5), (0, x6), (0, x7), (0, x8), (0, x9), (0, x10), (0, h 2 319 x10)] [(0, (if x3 < h 2 317 (h 2 319 x10) then x8 else (if h 2 317 (h 2 319 x10) + h 2 315 (h 2 319 x10) ≤ x3 then x8 else h 2 319 x10)))] h := by
          refine (rn_icmp_lt (t := 130) (pc := 103) (dd bX13_goesUp dX13_goesUp_103) rfl).trans ?_
          by_cases c3 : x3 < h 2 317 (h 2 319 x10)
          · refine (if_pos c3).trans ?_
            refine (rn_iload (pc := 130) (dd bX13_goesUp dX13_goesUp_130) rfl).trans ?_
            refine Eq.trans (b := vrun mX13_goesUp 132 [(1, 282), (0, x1), (0, x2), (0, x3), (0, x4), (0, x5), (0, x6), (0, x7), (0, x8), (0, x9), (0, x10), (0, h 2 319 x10)] [(0, x8)] h) rfl ?_
            simp only [if_pos c3]
          · refine (if_neg c3).trans ?_
            refine (rn_iload_n (pc := 106) (dd bX13_goesUp dX13_goesUp_106) rfl).trans ?_
            refine (rn_aload_n (pc := 107) (dd bX13_goesUp dX13_goesUp_107) rfl).trans ?_
            refine (rg_gf (pc := 108) (dd bX13_goesUp dX13_goesUp_108) (ci := 14) (j := 36) rfl rfl (key := 1536) rfl (kc := 34) rfl s3.1 s3.2.2.2.2.2.2.2.2.2.2.2.2.2.2.2.2.2.2.2.2.2.2.2.2.2.2.2.2.2.2.2.2.2.2.2.2.2.2.2.2.2.2.2.2.2.2.2.2.2.2.2.2.2.2.2.2.2.2.2.2.2.2.2.2.2.2.2.2.2.2.2.2.2.2.2.2.2.2.2.2.2.2.2.2.2.2.2.2.2.2.2.2.2.2.2.2.2.2.2.2.2.2.2.1).trans ?_
            refine (rn_iload (pc := 111) (dd bX13_goesUp dX13_goesUp_111) rfl).trans ?_
            refine (rg_iaload (pc := 113) (dd bX13_goesUp dX13_goesUp_113) s3.2.2.2.2.2.2.2.2.2.2.2.2.2.2.2.2.2.2.2.2.2.2.2.2.2.2.2.2.2.2.2.2.2.2.2.2.2.2.2.2.2.2.2.2.2.2.2.2.2.2.2.2.2.2.2.2.2.2.2.2.2.2.2.2.2.2.2.2.2.2.2.2.2.2.2.2.2.2.2.2.2.2.2.2.2.2.2.2.2.2.2.2.2.2.2.2.2.2.2.2.2.2.2.2.1 s3.2.2.2.2.2.2.2.2.2.2.2.2.2.2.2.2.2.2.2.2.2.2.2.2.2.2.2.2.2.2.2.2.2.2.2.2.2.2.2.2.2.2.2.2.2.2.2.2.2.2.2.2.2.2.2.2.2.2.2.2.2.2.2.2.2.2.2.2.2.2.2.2.2.2.2.2.2.2.2.2.2.2.2.2.2.2.2.2.2.2.2.2.2.2.2.2.2.2.2.2.2.2.2.2.2.1 (by have z0 := p6 c1; have z1 := p7 c1; omega) (by have z0 := p6 c1; have z1 := p7 c1; omega) rfl).trans ?_
            refine (rn_aload_n (pc := 114) (dd bX13_goesUp dX13_goesUp_114) rfl).trans ?_
            refine (rg_gf (pc := 115) (dd bX13_goesUp dX13_goesUp_115) (ci := 14) (j := 34) rfl rfl (key := 1534) rfl (kc := 34) rfl s3.1 s3.2.2.2.2.2.2.2.2.2.2.2.2.2.2.2.2.2.2.2.2.2.2.2.2.2.2.2.2.2.2.2.2.2.2.2.2.2.2.2.2.2.2.2.2.2.2.2.2.2.2.2.2.2.2.2.2.2.2.2.2.2.2.2.2.2.2.2.2.2.2.2.2.2.2.2.2.2.2.2.2.2.2.2.2.2.2.2.2.2.2.2.2.2.2.2.2.2.1).trans ?_
            refine (rn_iload (pc := 118) (dd bX13_goesUp dX13_goesUp_118) rfl).trans ?_
            refine (rg_iaload (pc := 120) (dd bX13_goesUp dX13_goesUp_120) s3.2.2.2.2.2.2.2.2.2.2.2.2.2.2.2.2.2.2.2.2.2.2.2.2.2.2.2.2.2.2.2.2.2.2.2.2.2.2.2.2.2.2.2.2.2.2.2.2.2.2.2.2.2.2.2.2.2.2.2.2.2.2.2.2.2.2.2.2.2.2.2.2.2.2.2.2.2.2.2.2.2.2.2.2.2.2.2.2.2.2.2.2.2.2.2.2.2.2.1 s3.2.2.2.2.2.2.2.2.2.2.2.2.2.2.2.2.2.2.2.2.2.2.2.2.2.2.2.2.2.2.2.2.2.2.2.2.2.2.2.2.2.2.2.2.2.2.2.2.2.2.2.2.2.2.2.2.2.2.2.2.2.2.2.2.2.2.2.2.2.2.2.2.2.2.2.2.2.2.2.2.2.2.2.2.2.2.2.2.2.2.2.2.2.2.2.2.2.2.2.1 (by have z0 := p6 c1; have z1 := p7 c1; omega) (by have z0 := p6 c1; have z1 := p7 c1; omega) rfl).trans ?_
            refine (rg_iadd (pc := 121) (dd bX13_goesUp dX13_goesUp_121) (p8 c1 c2 c3) (p9 c1 c2 c3)).trans ?_
            have e1 : vrun mX13_goesUp 122 [(1, 282), (0, x1), (0, x2), (0, x3), (0, x4), (0, x5), (0, x6), (0, x7), (0, x8), (0, x9), (0, x10), (0, h 2 319 x10)] [(0, h 2 317 (h 2 319 x10) + h 2 315 (h 2 319 x10)), (0, x3)] h = vrun mX13_goesUp 132 [(1, 282), (0, x1), (0, x2), (0, x3), (0, x4), (0, x5), (0, x6), (0, x7), (0, x8), (0, x9), (0, x10), (0, h 2 319 x10)] [(0, (if h 2 317 (h 2 319 x10) + h 2 315 (h 2 319 x10) ≤ x3 then x8 else h 2 319 x10))] h := by
              refine (rn_icmp_ge (t := 130) (pc := 122) (dd bX13_goesUp dX13_goesUp_122) rfl).trans ?_
              by_cases c4 : h 2 317 (h 2 319 x10) + h 2 315 (h 2 319 x10) ≤ x3
              · refine (if_pos c4).trans ?_
                refine (rn_iload (pc := 130) (dd bX13_goesUp dX13_goesUp_130) rfl).trans ?_
                refine Eq.trans (b := vrun mX13_goesUp 132 [(1, 282), (0, x1), (0, x2), (0, x3), (0, x4), (0, x5), (0, x6), (0, x7), (0, x8), (0, x9), (0, x10), (0, h 2 319 x10)] [(0, x8)] h) rfl ?_
                simp only [if_pos c4]
              · refine (if_neg c4).trans ?_
                refine (rn_iload (pc := 125) (dd bX13_goesUp dX13_goesUp_125) rfl).trans ?_
                refine (rn_goto (t := 132) (pc := 127) (dd bX13_goesUp dX13_goesUp_127) rfl).trans ?_
                refine Eq.trans (b := vrun mX13_goesUp 132 [(1, 282), (0, x1), (0, x2), (0, x3), (0, x4), (0, x5), (0, x6), (0, x7), (0, x8), (0, x9), (0, x10), (0, h 2 319 x10)] [(0, h 2 319 x10)] h) rfl ?_
                simp only [if_neg c4]
            refine e1.trans ?_
            refine Eq.trans (b := vrun mX13_goesUp 132 [(1, 282), (0, x1), (0, x2), (0, x3), (0, x4), (0, x5), (0, x6), (0, x7), (0, x8), (0, x9), (0, x10), (0, h 2 319 x10)] [(0, (if h 2 317 (h 2 319 x10) + h 2 315 (h 2 319 x10) ≤ x3 then x8 else h 2 319 x10))] h) rfl ?_
            simp only [if_neg c3]
        refine e2.trans ?_
        refine Eq.trans (b := vrun mX13_goesUp 132 [(1, 282), (0, x1), (0, x2), (0, x3), (0, x4), (0, x5), (0, x6), (0, x7), (0, x8), (0, x9), (0, x10), (0, h 2 319 x10)] [(0, (if x3 < h 2 317 (h 2 319 x10) then x8 else (if h 2 317 (h 2 319 x10) + h 2 315 (h 2 319 x10) ≤ x3 then x8 else h 2 319 x10)))] h) rfl ?_
        simp only [if_neg c2]
    refine e3.trans ?_
    refine (rn_istore (pc := 132) (dd bX13_goesUp dX13_goesUp_132) (Nat.le_of_ble_eq_true rfl) rfl).trans ?_
    refine (rg_iinc (pc := 134) (dd bX13_goesUp dX13_goesUp_134) rfl (Nat.le_of_ble_eq_true rfl) (by have z0 := p4 c1; have z1 := p5 c1; omega) (by have z0 := p4 c1; have z1 := p5 c1; omega) rfl).trans ?_
    refine (rn_goto (t := 69) (pc := 137) (dd bX13_goesUp dX13_goesUp_137) rfl).trans ?_
    rfl
theorem rX13_goesUp_146 {x1 : Int} {x2 : Int} {x3 : Int} {x4 : Int} {x5 : Int} {x6 : Int} {x7 : Int} {x8 : Int} {x9 : Int} {x10 : Int} {v11 : vv} {h : vH} (s1 : shModel h) (p2 : x10 < x6 → x8 = (-1) → 0 ≤ x6) (p3 : x10 < x6 → x8 = (-1) → x6 < 140) (p4 : x10 < x6 → x8 = (-1) → 0 ≤ h 2 319 x6) (p5 : x10 < x6 → x8 = (-1) → h 2 319 x6 < 140) (p6 : x10 < x6 → 0 ≤ (if x8 = (-1) then (if h 2 317 (h 2 319 x6) ≤ x3 then x9 else h 2 319 x6) else x8)) (p7 : x10 < x6 → (if x8 = (-1) then (if h 2 317 (h 2 319 x6) ≤ x3 then x9 else h 2 319 x6) else x8) < 140) (p8 : ¬ (x10 < x6) → 0 ≤ x9) (p9 : ¬ (x10 < x6) → x9 < 140) (p10 : ¬ (x10 < x6) → h 2 315 x9 = 0 → 0 ≤ x10) (p11 : ¬ (x10 < x6) → h 2 315 x9 = 0 → x10 < 140) (p12 : ¬ (x10 < x6) → h 2 315 x9 = 0 → 0 ≤ h 2 319 x10) (p13 : ¬ (x10 < x6) → h 2 315 x9 = 0 → h 2 319 x10 < 140) (p14 : ¬ (x10 < x6) → ¬ (h 2 315 x9 = 0) → x8 = (-1) → 0 ≤ x6) (p15 : ¬ (x10 < x6) → ¬ (h 2 315 x9 = 0) → x8 = (-1) → x6 < 140) (p16 : ¬ (x10 < x6) → ¬ (h 2 315 x9 = 0) → x8 = (-1) → 0 ≤ h 2 319 x6) (p17 : ¬ (x10 < x6) → ¬ (h 2 315 x9 = 0) → x8 = (-1) → h 2 319 x6 < 140) (p18 : ¬ (x10 < x6) → ¬ (h 2 315 x9 = 0) → 0 ≤ (if x8 = (-1) then (if h 2 317 (h 2 319 x6) ≤ x3 then x9 else h 2 319 x6) else x8)) (p19 : ¬ (x10 < x6) → ¬ (h 2 315 x9 = 0) → (if x8 = (-1) then (if h 2 317 (h 2 319 x6) ≤ x3 then x9 else h 2 319 x6) else x8) < 140) : vrun mX13_goesUp 146 [(1, 282), (0, x1), (0, x2), (0, x3), (0, x4), (0, x5), (0, x6), (0, x7), (0, x8), (0, x9), (0, x10), v11] [] h = if x10 < x6 then some (.inl (some (0, h 2 314 (if x8 = (-1) then (if h 2 317 (h 2 319 x6) ≤ x3 then x9 else h 2 319 x6) else x8))), h) else if h 2 315 x9 = 0 then vrun mX13_goesUp 146 [(1, 282), (0, x1), (0, x2), (0, x3), (0, x4), (0, x5), (0, x6), (0, x7), (0, x8), (0, (if h 2 315 (h 2 319 x10) ≤ 0 then x9 else h 2 319 x10)), (0, x10 + (-1)), v11] [] h else some (.inl (some (0, h 2 314 (if x8 = (-1) then (if h 2 317 (h 2 319 x6) ≤ x3 then x9 else h 2 319 x6) else x8))), h) := by
  refine (rn_iload (pc := 146) (dd bX13_goesUp dX13_goesUp_146) rfl).trans ?_
  refine (rn_iload (pc := 148) (dd bX13_goesUp dX13_goesUp_148) rfl).trans ?_
  refine (rn_icmp_lt (t := 198) (pc := 150) (dd bX13_goesUp dX13_goesUp_150) rfl).trans (itec (fun c1 => ?_) (fun c1 => ?_))
  · refine (rn_aload_n (pc := 198) (dd bX13_goesUp dX13_goesUp_198) rfl).trans ?_
    refine (rg_gf (pc := 199) (dd bX13_goesUp dX13_goesUp_199) (ci := 14) (j := 33) rfl rfl (key := 1533) rfl (kc := 34) rfl s1.1 s1.2.2.2.2.2.2.2.2.2.2.2.2.2.2.2.2.2.2.2.2.2.2.2.2.2.2.2.2.2.2.2.2.2.2.2.2.2.2.2.2.2.2.2.2.2.2.2.2.2.2.2.2.2.2.2.2.2.2.2.2.2.2.2.2.2.2.2.2.2.2.2.2.2.2.2.2.2.2.2.2.2.2.2.2.2.2.2.2.2.2.2.2.2.2.1).trans ?_
    refine (rn_iload (pc := 202) (dd bX13_goesUp dX13_goesUp_202) rfl).trans ?_
    refine (rn_iconst (pc := 204) (dd bX13_goesUp dX13_goesUp_204) (by decide)).trans ?_
    have e2 : vrun mX13_goesUp 205 [(1, 282), (0, x1), (0, x2), (0, x3), (0, x4), (0, x5), (0, x6), (0, x7), (0, x8), (0, x9), (0, x10), v11] [(0, (-1)), (0, x8), (1, 314)] h = vrun mX13_goesUp 241 [(1, 282), (0, x1), (0, x2), (0, x3), (0, x4), (0, x5), (0, x6), (0, x7), (0, x8), (0, x9), (0, x10), v11] [(0, (if x8 = (-1) then (if h 2 317 (h 2 319 x6) ≤ x3 then x9 else h 2 319 x6) else x8)), (1, 314)] h := by
      refine (rn_icmp_eq (t := 213) (pc := 205) (dd bX13_goesUp dX13_goesUp_205) rfl).trans ?_
      by_cases c2 : x8 = (-1)
      · refine (if_pos c2).trans ?_
        refine (rn_iload_n (pc := 213) (dd bX13_goesUp dX13_goesUp_213) rfl).trans ?_
        refine (rn_aload_n (pc := 214) (dd bX13_goesUp dX13_goesUp_214) rfl).trans ?_
        refine (rg_gf (pc := 215) (dd bX13_goesUp dX13_goesUp_215) (ci := 14) (j := 36) rfl rfl (key := 1536) rfl (kc := 34) rfl s1.1 s1.2.2.2.2.2.2.2.2.2.2.2.2.2.2.2.2.2.2.2.2.2.2.2.2.2.2.2.2.2.2.2.2.2.2.2.2.2.2.2.2.2.2.2.2.2.2.2.2.2.2.2.2.2.2.2.2.2.2.2.2.2.2.2.2.2.2.2.2.2.2.2.2.2.2.2.2.2.2.2.2.2.2.2.2.2.2.2.2.2.2.2.2.2.2.2.2.2.2.2.2.2.2.2.1).trans ?_
        refine (rn_aload_n (pc := 218) (dd bX13_goesUp dX13_goesUp_218) rfl).trans ?_
        refine (rg_gf (pc := 219) (dd bX13_goesUp dX13_goesUp_219) (ci := 14) (j := 38) rfl rfl (key := 1538) rfl (kc := 34) rfl s1.1 s1.2.2.2.2.2.2.2.2.2.2.2.2.2.2.2.2.2.2.2.2.2.2.2.2.2.2.2.2.2.2.2.2.2.2.2.2.2.2.2.2.2.2.2.2.2.2.2.2.2.2.2.2.2.2.2.2.2.2.2.2.2.2.2.2.2.2.2.2.2.2.2.2.2.2.2.2.2.2.2.2.2.2.2.2.2.2.2.2.2.2.2.2.2.2.2.2.2.2.2.2.2.2.2.2.2.2.2.2.2.1).trans ?_
        refine (rn_iload (pc := 222) (dd bX13_goesUp dX13_goesUp_222) rfl).trans ?_
        refine (rg_iaload (pc := 224) (dd bX13_goesUp dX13_goesUp_224) s1.2.2.2.2.2.2.2.2.2.2.2.2.2.2.2.2.2.2.2.2.2.2.2.2.2.2.2.2.2.2.2.2.2.2.2.2.2.2.2.2.2.2.2.2.2.2.2.2.2.2.2.2.2.2.2.2.2.2.2.2.2.2.2.2.2.2.2.2.2.2.2.2.2.2.2.2.2.2.2.2.2.2.2.2.2.2.2.2.2.2.2.2.2.2.2.2.2.2.2.2.2.2.2.2.2.2.2.2.2.2.1 s1.2.2.2.2.2.2.2.2.2.2.2.2.2.2.2.2.2.2.2.2.2.2.2.2.2.2.2.2.2.2.2.2.2.2.2.2.2.2.2.2.2.2.2.2.2.2.2.2.2.2.2.2.2.2.2.2.2.2.2.2.2.2.2.2.2.2.2.2.2.2.2.2.2.2.2.2.2.2.2.2.2.2.2.2.2.2.2.2.2.2.2.2.2.2.2.2.2.2.2.2.2.2.2.2.2.2.2.2.2.2.2.1 (p2 c1 c2) (p3 c1 c2) rfl).trans ?_
        refine (rg_iaload (pc := 225) (dd bX13_goesUp dX13_goesUp_225) s1.2.2.2.2.2.2.2.2.2.2.2.2.2.2.2.2.2.2.2.2.2.2.2.2.2.2.2.2.2.2.2.2.2.2.2.2.2.2.2.2.2.2.2.2.2.2.2.2.2.2.2.2.2.2.2.2.2.2.2.2.2.2.2.2.2.2.2.2.2.2.2.2.2.2.2.2.2.2.2.2.2.2.2.2.2.2.2.2.2.2.2.2.2.2.2.2.2.2.2.2.2.2.2.2.1 s1.2.2.2.2.2.2.2.2.2.2.2.2.2.2.2.2.2.2.2.2.2.2.2.2.2.2.2.2.2.2.2.2.2.2.2.2.2.2.2.2.2.2.2.2.2.2.2.2.2.2.2.2.2.2.2.2.2.2.2.2.2.2.2.2.2.2.2.2.2.2.2.2.2.2.2.2.2.2.2.2.2.2.2.2.2.2.2.2.2.2.2.2.2.2.2.2.2.2.2.2.2.2.2.2.2.1 (p4 c1 c2) (p5 c1 c2) rfl).trans ?_
        have e1 : vrun mX13_goesUp 226 [(1, 282), (0, x1), (0, x2), (0, x3), (0, x4), (0, x5), (0, x6), (0, x7), (0, x8), (0, x9), (0, x10), v11] [(0, h 2 317 (h 2 319 x6)), (0, x3), (1, 314)] h = vrun mX13_goesUp 241 [(1, 282), (0, x1), (0, x2), (0, x3), (0, x4), (0, x5), (0, x6), (0, x7), (0, x8), (0, x9), (0, x10), v11] [(0, (if h 2 317 (h 2 319 x6) ≤ x3 then x9 else h 2 319 x6)), (1, 314)] h := by
          refine (rn_icmp_ge (t := 239) (pc := 226) (dd bX13_goesUp dX13_goesUp_226) rfl).trans ?_
          by_cases c3 : h 2 317 (h 2 319 x6) ≤ x3
          · refine (if_pos c3).trans ?_
            refine (rn_iload (pc := 239) (dd bX13_goesUp dX13_goesUp_239) rfl).trans ?_
            refine Eq.trans (b := vrun mX13_goesUp 241 [(1, 282), (0, x1), (0, x2), (0, x3), (0, x4), (0, x5), (0, x6), (0, x7), (0, x8), (0, x9), (0, x10), v11] [(0, x9), (1, 314)] h) rfl ?_
            simp only [if_pos c3]
          · refine (if_neg c3).trans ?_
            refine (rn_aload_n (pc := 229) (dd bX13_goesUp dX13_goesUp_229) rfl).trans ?_
            refine (rg_gf (pc := 230) (dd bX13_goesUp dX13_goesUp_230) (ci := 14) (j := 38) rfl rfl (key := 1538) rfl (kc := 34) rfl s1.1 s1.2.2.2.2.2.2.2.2.2.2.2.2.2.2.2.2.2.2.2.2.2.2.2.2.2.2.2.2.2.2.2.2.2.2.2.2.2.2.2.2.2.2.2.2.2.2.2.2.2.2.2.2.2.2.2.2.2.2.2.2.2.2.2.2.2.2.2.2.2.2.2.2.2.2.2.2.2.2.2.2.2.2.2.2.2.2.2.2.2.2.2.2.2.2.2.2.2.2.2.2.2.2.2.2.2.2.2.2.2.1).trans ?_
            refine (rn_iload (pc := 233) (dd bX13_goesUp dX13_goesUp_233) rfl).trans ?_
            refine (rg_iaload (pc := 235) (dd bX13_goesUp dX13_goesUp_235) s1.2.2.2.2.2.2.2.2.2.2.2.2.2.2.2.2.2.2.2.2.2.2.2.2.2.2.2.2.2.2.2.2.2.2.2.2.2.2.2.2.2.2.2.2.2.2.2.2.2.2.2.2.2.2.2.2.2.2.2.2.2.2.2.2.2.2.2.2.2.2.2.2.2.2.2.2.2.2.2.2.2.2.2.2.2.2.2.2.2.2.2.2.2.2.2.2.2.2.2.2.2.2.2.2.2.2.2.2.2.2.1 s1.2.2.2.2.2.2.2.2.2.2.2.2.2.2.2.2.2.2.2.2.2.2.2.2.2.2.2.2.2.2.2.2.2.2.2.2.2.2.2.2.2.2.2.2.2.2.2.2.2.2.2.2.2.2.2.2.2.2.2.2.2.2.2.2.2.2.2.2.2.2.2.2.2.2.2.2.2.2.2.2.2.2.2.2.2.2.2.2.2.2.2.2.2.2.2.2.2.2.2.2.2.2.2.2.2.2.2.2.2.2.2.1 (by have z0 := p2 c1 c2; have z1 := p3 c1 c2; omega) (by have z0 := p2 c1 c2; have z1 := p3 c1 c2; omega) rfl).trans ?_
            refine (rn_goto (t := 241) (pc := 236) (dd bX13_goesUp dX13_goesUp_236) rfl).trans ?_
            refine Eq.trans (b := vrun mX13_goesUp 241 [(1, 282), (0, x1), (0, x2), (0, x3), (0, x4), (0, x5), (0, x6), (0, x7), (0, x8), (0, x9), (0, x10), v11] [(0, h 2 319 x6), (1, 314)] h) rfl ?_
            simp only [if_neg c3]
        refine e1.trans ?_
        refine Eq.trans (b := vrun mX13_goesUp 241 [(1, 282), (0, x1), (0, x2), (0, x3), (0, x4), (0, x5), (0, x6), (0, x7), (0, x8), (0, x9), (0, x10), v11] [(0, (if h 2 317 (h 2 319 x6) ≤ x3 then x9 else h 2 319 x6)), (1, 314)] h) rfl ?_
        simp only [if_pos c2]
      · refine (if_neg c2).trans ?_
        refine (rn_iload (pc := 208) (dd bX13_goesUp dX13_goesUp_208) rfl).trans ?_
        refine (rn_goto (t := 241) (pc := 210) (dd bX13_goesUp dX13_goesUp_210) rfl).trans ?_
        refine Eq.trans (b := vrun mX13_goesUp 241 [(1, 282), (0, x1), (0, x2), (0, x3), (0, x4), (0, x5), (0, x6), (0, x7), (0, x8), (0, x9), (0, x10), v11] [(0, x8), (1, 314)] h) rfl ?_
        simp only [if_neg c2]
    refine e2.trans ?_
    refine (rg_iaload (pc := 241) (dd bX13_goesUp dX13_goesUp_241) s1.2.2.2.2.2.2.2.2.2.2.2.2.2.2.2.2.2.2.2.2.2.2.2.2.2.2.2.2.2.2.2.2.2.2.2.2.2.2.2.2.2.2.2.2.2.2.2.2.2.2.2.2.2.2.2.2.2.2.2.2.2.2.2.2.2.2.2.2.2.2.2.2.2.2.2.2.2.2.2.2.2.2.2.2.2.2.2.2.2.2.2.2.2.2.2.1 s1.2.2.2.2.2.2.2.2.2.2.2.2.2.2.2.2.2.2.2.2.2.2.2.2.2.2.2.2.2.2.2.2.2.2.2.2.2.2.2.2.2.2.2.2.2.2.2.2.2.2.2.2.2.2.2.2.2.2.2.2.2.2.2.2.2.2.2.2.2.2.2.2.2.2.2.2.2.2.2.2.2.2.2.2.2.2.2.2.2.2.2.2.2.2.2.2.1 (p6 c1) (p7 c1) rfl).trans ?_
    exact rn_ireturn (pc := 242) (dd bX13_goesUp dX13_goesUp_242) (Or.inl rfl)
  · refine (rn_aload_n (pc := 153) (dd bX13_goesUp dX13_goesUp_153) rfl).trans ?_
    refine (rg_gf (pc := 154) (dd bX13_goesUp dX13_goesUp_154) (ci := 14) (j := 34) rfl rfl (key := 1534) rfl (kc := 34) rfl s1.1 s1.2.2.2.2.2.2.2.2.2.2.2.2.2.2.2.2.2.2.2.2.2.2.2.2.2.2.2.2.2.2.2.2.2.2.2.2.2.2.2.2.2.2.2.2.2.2.2.2.2.2.2.2.2.2.2.2.2.2.2.2.2.2.2.2.2.2.2.2.2.2.2.2.2.2.2.2.2.2.2.2.2.2.2.2.2.2.2.2.2.2.2.2.2.2.2.2.2.1).trans ?_
    refine (rn_iload (pc := 157) (dd bX13_goesUp dX13_goesUp_157) rfl).trans ?_
    refine (rg_iaload (pc := 159) (dd bX13_goesUp dX13_goesUp_159) s1.2.2.2.2.2.2.2.2.2.2.2.2.2.2.2.2.2.2.2.2.2.2.2.2.2.2.2.2.2.2.2.2.2.2.2.2.2.2.2.2.2.2.2.2.2.2.2.2.2.2.2.2.2.2.2.2.2.2.2.2.2.2.2.2.2.2.2.2.2.2.2.2.2.2.2.2.2.2.2.2.2.2.2.2.2.2.2.2.2.2.2.2.2.2.2.2.2.2.1 s1.2.2.2.2.2.2.2.2.2.2.2.2.2.2.2.2.2.2.2.2.2.2.2.2.2.2.2.2.2.2.2.2.2.2.2.2.2.2.2.2.2.2.2.2.2.2.2.2.2.2.2.2.2.2.2.2.2.2.2.2.2.2.2.2.2.2.2.2.2.2.2.2.2.2.2.2.2.2.2.2.2.2.2.2.2.2.2.2.2.2.2.2.2.2.2.2.2.2.2.1 (p8 c1) (p9 c1) rfl).trans ?_
    refine (rg_if_ne (t := 198) (pc := 160) (dd bX13_goesUp dX13_goesUp_160) rfl).trans (itec (fun c4 => ?_) (fun c4 => ?_))
    · refine (rn_aload_n (pc := 163) (dd bX13_goesUp dX13_goesUp_163) rfl).trans ?_
      refine (rg_gf (pc := 164) (dd bX13_goesUp dX13_goesUp_164) (ci := 14) (j := 34) rfl rfl (key := 1534) rfl (kc := 34) rfl s1.1 s1.2.2.2.2.2.2.2.2.2.2.2.2.2.2.2.2.2.2.2.2.2.2.2.2.2.2.2.2.2.2.2.2.2.2.2.2.2.2.2.2.2.2.2.2.2.2.2.2.2.2.2.2.2.2.2.2.2.2.2.2.2.2.2.2.2.2.2.2.2.2.2.2.2.2.2.2.2.2.2.2.2.2.2.2.2.2.2.2.2.2.2.2.2.2.2.2.2.1).trans ?_
      refine (rn_aload_n (pc := 167) (dd bX13_goesUp dX13_goesUp_167) rfl).trans ?_
      refine (rg_gf (pc := 168) (dd bX13_goesUp dX13_goesUp_168) (ci := 14) (j := 38) rfl rfl (key := 1538) rfl (kc := 34) rfl s1.1 s1.2.2.2.2.2.2.2.2.2.2.2.2.2.2.2.2.2.2.2.2.2.2.2.2.2.2.2.2.2.2.2.2.2.2.2.2.2.2.2.2.2.2.2.2.2.2.2.2.2.2.2.2.2.2.2.2.2.2.2.2.2.2.2.2.2.2.2.2.2.2.2.2.2.2.2.2.2.2.2.2.2.2.2.2.2.2.2.2.2.2.2.2.2.2.2.2.2.2.2.2.2.2.2.2.2.2.2.2.2.1).trans ?_
      refine (rn_iload (pc := 171) (dd bX13_goesUp dX13_goesUp_171) rfl).trans ?_
      refine (rg_iaload (pc := 173) (dd bX13_goesUp dX13_goesUp_173) s1.2.2.2.2.2.2.2.2.2.2.2.2.2.2.2.2.2.2.2.2.2.2.2.2.2.2.2.2.2.2.2.2.2.2.2.2.2.2.2.2.2.2.2.2.2.2.2.2.2.2.2.2.2.2.2.2.2.2.2.2.2.2.2.2.2.2.2.2.2.2.2.2.2.2.2.2.2.2.2.2.2.2.2.2.2.2.2.2.2.2.2.2.2.2.2.2.2.2.2.2.2.2.2.2.2.2.2.2.2.2.1 s1.2.2.2.2.2.2.2.2.2.2.2.2.2.2.2.2.2.2.2.2.2.2.2.2.2.2.2.2.2.2.2.2.2.2.2.2.2.2.2.2.2.2.2.2.2.2.2.2.2.2.2.2.2.2.2.2.2.2.2.2.2.2.2.2.2.2.2.2.2.2.2.2.2.2.2.2.2.2.2.2.2.2.2.2.2.2.2.2.2.2.2.2.2.2.2.2.2.2.2.2.2.2.2.2.2.2.2.2.2.2.2.1 (p10 c1 c4) (p11 c1 c4) rfl).trans ?_
      refine (rg_iaload (pc := 174) (dd bX13_goesUp dX13_goesUp_174) s1.2.2.2.2.2.2.2.2.2.2.2.2.2.2.2.2.2.2.2.2.2.2.2.2.2.2.2.2.2.2.2.2.2.2.2.2.2.2.2.2.2.2.2.2.2.2.2.2.2.2.2.2.2.2.2.2.2.2.2.2.2.2.2.2.2.2.2.2.2.2.2.2.2.2.2.2.2.2.2.2.2.2.2.2.2.2.2.2.2.2.2.2.2.2.2.2.2.2.1 s1.2.2.2.2.2.2.2.2.2.2.2.2.2.2.2.2.2.2.2.2.2.2.2.2.2.2.2.2.2.2.2.2.2.2.2.2.2.2.2.2.2.2.2.2.2.2.2.2.2.2.2.2.2.2.2.2.2.2.2.2.2.2.2.2.2.2.2.2.2.2.2.2.2.2.2.2.2.2.2.2.2.2.2.2.2.2.2.2.2.2.2.2.2.2.2.2.2.2.2.1 (p12 c1 c4) (p13 c1 c4) rfl).trans ?_
      have e3 : vrun mX13_goesUp 175 [(1, 282), (0, x1), (0, x2), (0, x3), (0, x4), (0, x5), (0, x6), (0, x7), (0, x8), (0, x9), (0, x10), v11] [(0, h 2 315 (h 2 319 x10))] h = vrun mX13_goesUp 190 [(1, 282), (0, x1), (0, x2), (0, x3), (0, x4), (0, x5), (0, x6), (0, x7), (0, x8), (0, x9), (0, x10), v11] [(0, (if h 2 315 (h 2 319 x10) ≤ 0 then x9 else h 2 319 x10))] h := by
        refine (rn_if_le (t := 188) (pc := 175) (dd bX13_goesUp dX13_goesUp_175) rfl).trans ?_
        by_cases c5 : h 2 315 (h 2 319 x10) ≤ 0
        · refine (if_pos c5).trans ?_
          refine (rn_iload (pc := 188) (dd bX13_goesUp dX13_goesUp_188) rfl).trans ?_
          refine Eq.trans (b := vrun mX13_goesUp 190 [(1, 282), (0, x1), (0, x2), (0, x3), (0, x4), (0, x5), (0, x6), (0, x7), (0, x8), (0, x9), (0, x10), v11] [(0, x9)] h) rfl ?_
          simp only [if_pos c5]
        · refine (if_neg c5).trans ?_
          refine (rn_aload_n (pc := 178) (dd bX13_goesUp dX13_goesUp_178) rfl).trans ?_
          refine (rg_gf (pc := 179) (dd bX13_goesUp dX13_goesUp_179) (ci := 14) (j := 38) rfl rfl (key := 1538) rfl (kc := 34) rfl s1.1 s1.2.2.2.2.2.2.2.2.2.2.2.2.2.2.2.2.2.2.2.2.2.2.2.2.2.2.2.2.2.2.2.2.2.2.2.2.2.2.2.2.2.2.2.2.2.2.2.2.2.2.2.2.2.2.2.2.2.2.2.2.2.2.2.2.2.2.2.2.2.2.2.2.2.2.2.2.2.2.2.2.2.2.2.2.2.2.2.2.2.2.2.2.2.2.2.2.2.2.2.2.2.2.2.2.2.2.2.2.2.1).trans ?_
          refine (rn_iload (pc := 182) (dd bX13_goesUp dX13_goesUp_182) rfl).trans ?_
          refine (rg_iaload (pc := 184) (dd bX13_goesUp dX13_goesUp_184) s1.2.2.2.2.2.2.2.2.2.2.2.2.2.2.2.2.2.2.2.2.2.2.2.2.2.2.2.2.2.2.2.2.2.2.2.2.2.2.2.2.2.2.2.2.2.2.2.2.2.2.2.2.2.2.2.2.2.2.2.2.2.2.2.2.2.2.2.2.2.2.2.2.2.2.2.2.2.2.2.2.2.2.2.2.2.2.2.2.2.2.2.2.2.2.2.2.2.2.2.2.2.2.2.2.2.2.2.2.2.2.1 s1.2.2.2.2.2.2.2.2.2.2.2.2.2.2.2.2.2.2.2.2.2.2.2.2.2.2.2.2.2.2.2.2.2.2.2.2.2.2.2.2.2.2.2.2.2.2.2.2.2.2.2.2.2.2.2.2.2.2.2.2.2.2.2.2.2.2.2.2.2.2.2.2.2.2.2.2.2.2.2.2.2.2.2.2.2.2.2.2.2.2.2.2.2.2.2.2.2.2.2.2.2.2.2.2.2.2.2.2.2.2.2.1 (by have z0 := p10 c1 c4; have z1 := p11 c1 c4; omega) (by have z0 := p10 c1 c4; have z1 := p11 c1 c4; omega) rfl).trans ?_
          refine (rn_goto (t := 190) (pc := 185) (dd bX13_goesUp dX13_goesUp_185) rfl).trans ?_
          refine Eq.trans (b := vrun mX13_goesUp 190 [(1, 282), (0, x1), (0, x2), (0, x3), (0, x4), (0, x5), (0, x6), (0, x7), (0, x8), (0, x9), (0, x10), v11] [(0, h 2 319 x10)] h) rfl ?_
          simp only [if_neg c5]
      refine e3.trans ?_
      refine (rn_istore (pc := 190) (dd bX13_goesUp dX13_goesUp_190) (Nat.le_of_ble_eq_true rfl) rfl).trans ?_
      refine (rg_iinc (pc := 192) (dd bX13_goesUp dX13_goesUp_192) rfl (Nat.le_of_ble_eq_true rfl) (by have z0 := p10 c1 c4; have z1 := p11 c1 c4; omega) (by have z0 := p10 c1 c4; have z1 := p11 c1 c4; omega) rfl).trans ?_
      refine (rn_goto (t := 146) (pc := 195) (dd bX13_goesUp dX13_goesUp_195) rfl).trans ?_
      rfl
    · refine (rn_aload_n (pc := 198) (dd bX13_goesUp dX13_goesUp_198) rfl).trans ?_
      refine (rg_gf (pc := 199) (dd bX13_goesUp dX13_goesUp_199) (ci := 14) (j := 33) rfl rfl (key := 1533) rfl (kc := 34) rfl s1.1 s1.2.2.2.2.2.2.2.2.2.2.2.2.2.2.2.2.2.2.2.2.2.2.2.2.2.2.2.2.2.2.2.2.2.2.2.2.2.2.2.2.2.2.2.2.2.2.2.2.2.2.2.2.2.2.2.2.2.2.2.2.2.2.2.2.2.2.2.2.2.2.2.2.2.2.2.2.2.2.2.2.2.2.2.2.2.2.2.2.2.2.2.2.2.2.1).trans ?_
      refine (rn_iload (pc := 202) (dd bX13_goesUp dX13_goesUp_202) rfl).trans ?_
      refine (rn_iconst (pc := 204) (dd bX13_goesUp dX13_goesUp_204) (by decide)).trans ?_
      have e5 : vrun mX13_goesUp 205 [(1, 282), (0, x1), (0, x2), (0, x3), (0, x4), (0, x5), (0, x6), (0, x7), (0, x8), (0, x9), (0, x10), v11] [(0, (-1)), (0, x8), (1, 314)] h = vrun mX13_goesUp 241 [(1, 282), (0, x1), (0, x2), (0, x3), (0, x4), (0, x5), (0, x6), (0, x7), (0, x8), (0, x9), (0, x10), v11] [(0, (if x8 = (-1) then (if h 2 317 (h 2 319 x6) ≤ x3 then x9 else h 2 319 x6) else x8)), (1, 314)] h := by
        refine (rn_icmp_eq (t := 213) (pc := 205) (dd bX13_goesUp dX13_goesUp_205) rfl).trans ?_
        by_cases c6 : x8 = (-1)
        · refine (if_pos c6).trans ?_
          refine (rn_iload_n (pc := 213) (dd bX13_goesUp dX13_goesUp_213) rfl).trans ?_
          refine (rn_aload_n (pc := 214) (dd bX13_goesUp dX13_goesUp_214) rfl).trans ?_
          refine (rg_gf (pc := 215) (dd bX13_goesUp dX13_goesUp_215) (ci := 14) (j := 36) rfl rfl (key := 1536) rfl (kc := 34) rfl s1.1 s1.2.2.2.2.2.2.2.2.2.2.2.2.2.2.2.2.2.2.2.2.2.2.2.2.2.2.2.2.2.2.2.2.2.2.2.2.2.2.2.2.2.2.2.2.2.2.2.2.2.2.2.2.2.2.2.2.2.2.2.2.2.2.2.2.2.2.2.2.2.2.2.2.2.2.2.2.2.2.2.2.2.2.2.2.2.2.2.2.2.2.2.2.2.2.2.2.2.2.2.2.2.2.2.1).trans ?_
          refine (rn_aload_n (pc := 218) (dd bX13_goesUp dX13_goesUp_218) rfl).trans ?_
          refine (rg_gf (pc := 219) (dd bX13_goesUp dX13_goesUp_219) (ci := 14) (j := 38) rfl rfl (key := 1538) rfl (kc := 34) rfl s1.1 s1.2.2.2.2.2.2.2.2.2.2.2.2.2.2.2.2.2.2.2.2.2.2.2.2.2.2.2.2.2.2.2.2.2.2.2.2.2.2.2.2.2.2.2.2.2.2.2.2.2.2.2.2.2.2.2.2.2.2.2.2.2.2.2.2.2.2.2.2.2.2.2.2.2.2.2.2.2.2.2.2.2.2.2.2.2.2.2.2.2.2.2.2.2.2.2.2.2.2.2.2.2.2.2.2.2.2.2.2.2.1).trans ?_
          refine (rn_iload (pc := 222) (dd bX13_goesUp dX13_goesUp_222) rfl).trans ?_
          refine (rg_iaload (pc := 224) (dd bX13_goesUp dX13_goesUp_224) s1.2.2.2.2.2.2.2.2.2.2.2.2.2.2.2.2.2.2.2.2.2.2.2.2.2.2.2.2.2.2.2.2.2.2.2.2.2.2.2.2.2.2.2.2.2.2.2.2.2.2.2.2.2.2.2.2.2.2.2.2.2.2.2.2.2.2.2.2.2.2.2.2.2.2.2.2.2.2.2.2.2.2.2.2.2.2.2.2.2.2.2.2.2.2.2.2.2.2.2.2.2.2.2.2.2.2.2.2.2.2.1 s1.2.2.2.2.2.2.2.2.2.2.2.2.2.2.2.2.2.2.2.2.2.2.2.2.2.2.2.2.2.2.2.2.2.2.2.2.2.2.2.2.2.2.2.2.2.2.2.2.2.2.2.2.2.2.2.2.2.2.2.2.2.2.2.2.2.2.2.2.2.2.2.2.2.2.2.2.2.2.2.2.2.2.2.2.2.2.2.2.2.2.2.2.2.2.2.2.2.2.2.2.2.2.2.2.2.2.2.2.2.2.2.1 (p14 c1 c4 c6) (p15 c1 c4 c6) rfl).trans ?_
          refine (rg_iaload (pc := 225) (dd bX13_goesUp dX13_goesUp_225) s1.2.2.2.2.2.2.2.2.2.2.2.2.2.2.2.2.2.2.2.2.2.2.2.2.2.2.2.2.2.2.2.2.2.2.2.2.2.2.2.2.2.2.2.2.2.2.2.2.2.2.2.2.2.2.2.2.2.2.2.2.2.2.2.2.2.2.2.2.2.2.2.2.2.2.2.2.2.2.2.2.2.2.2.2.2.2.2.2.2.2.2.2.2.2.2.2.2.2.2.2.2.2.2.2.1 s1.2.2.2.2.2.2.2.2.2.2.2.2.2.2.2.2.2.2.2.2.2.2.2.2.2.2.2.2.2.2.2.2.2.2.2.2.2.2.2.2.2.2.2.2.2.2.2.2.2.2.2.2.2.2.2.2.2.2.2.2.2.2.2.2.2.2.2.2.2.2.2.2.2.2.2.2.2.2.2.2.2.2.2.2.2.2.2.2.2.2.2.2.2.2.2.2.2.2.2.2.2.2.2.2.2.1 (p16 c1 c4 c6) (p17 c1 c4 c6) rfl).trans ?_
          have e4 : vrun mX13_goesUp 226 [(1, 282), (0, x1), (0, x2), (0, x3), (0, x4), (0, x5), (0, x6), (0, x7), (0, x8), (0, x9), (0, x10), v11] [(0, h 2 317 (h 2 319 x6)), (0, x3), (1, 314)] h = vrun mX13_goesUp 241 [(1, 282), (0, x1), (0, x2), (0, x3), (0, x4), (0, x5), (0, x6), (0, x7), (0, x8), (0, x9), (0, x10), v11] [(0, (if h 2 317 (h 2 319 x6) ≤ x3 then x9 else h 2 319 x6)), (1, 314)] h := by
            refine (rn_icmp_ge (t := 239) (pc := 226) (dd bX13_goesUp dX13_goesUp_226) rfl).trans ?_
            by_cases c7 : h 2 317 (h 2 319 x6) ≤ x3
            · refine (if_pos c7).trans ?_
              refine (rn_iload (pc := 239) (dd bX13_goesUp dX13_goesUp_239) rfl).trans ?_
              refine Eq.trans (b := vrun mX13_goesUp 241 [(1, 282), (0, x1), (0, x2), (0, x3), (0, x4), (0, x5), (0, x6), (0, x7), (0, x8), (0, x9), (0, x10), v11] [(0, x9), (1, 314)] h) rfl ?_
              simp only [if_pos c7]
            · refine (if_neg c7).trans ?_
              refine (rn_aload_n (pc := 229) (dd bX13_goesUp dX13_goesUp_229) rfl).trans ?_
              refine (rg_gf (pc := 230) (dd bX13_goesUp dX13_goesUp_230) (ci := 14) (j := 38) rfl rfl (key := 1538) rfl (kc := 34) rfl s1.1 s1.2.2.2.2.2.2.2.2.2.2.2.2.2.2.2.2.2.2.2.2.2.2.2.2.2.2.2.2.2.2.2.2.2.2.2.2.2.2.2.2.2.2.2.2.2.2.2.2.2.2.2.2.2.2.2.2.2.2.2.2.2.2.2.2.2.2.2.2.2.2.2.2.2.2.2.2.2.2.2.2.2.2.2.2.2.2.2.2.2.2.2.2.2.2.2.2.2.2.2.2.2.2.2.2.2.2.2.2.2.1).trans ?_
              refine (rn_iload (pc := 233) (dd bX13_goesUp dX13_goesUp_233) rfl).trans ?_
              refine (rg_iaload (pc := 235) (dd bX13_goesUp dX13_goesUp_235) s1.2.2.2.2.2.2.2.2.2.2.2.2.2.2.2.2.2.2.2.2.2.2.2.2.2.2.2.2.2.2.2.2.2.2.2.2.2.2.2.2.2.2.2.2.2.2.2.2.2.2.2.2.2.2.2.2.2.2.2.2.2.2.2.2.2.2.2.2.2.2.2.2.2.2.2.2.2.2.2.2.2.2.2.2.2.2.2.2.2.2.2.2.2.2.2.2.2.2.2.2.2.2.2.2.2.2.2.2.2.2.1 s1.2.2.2.2.2.2.2.2.2.2.2.2.2.2.2.2.2.2.2.2.2.2.2.2.2.2.2.2.2.2.2.2.2.2.2.2.2.2.2.2.2.2.2.2.2.2.2.2.2.2.2.2.2.2.2.2.2.2.2.2.2.2.2.2.2.2.2.2.2.2.2.2.2.2.2.2.2.2.2.2.2.2.2.2.2.2.2.2.2.2.2.2.2.2.2.2.2.2.2.2.2.2.2.2.2.2.2.2.2.2.2.1 (by have z0 := p14 c1 c4 c6; have z1 := p15 c1 c4 c6; omega) (by have z0 := p14 c1 c4 c6; have z1 := p15 c1 c4 c6; omega) rfl).trans ?_
              refine (rn_goto (t := 241) (pc := 236) (dd bX13_goesUp dX13_goesUp_236) rfl).trans ?_
              refine Eq.trans (b := vrun mX13_goesUp 241 [(1, 282), (0, x1), (0, x2), (0, x3), (0, x4), (0, x5), (0, x6), (0, x7), (0, x8), (0, x9), (0, x10), v11] [(0, h 2 319 x6), (1, 314)] h) rfl ?_
              simp only [if_neg c7]
          refine e4.trans ?_
          refine Eq.trans (b := vrun mX13_goesUp 241 [(1, 282), (0, x1), (0, x2), (0, x3), (0, x4), (0, x5), (0, x6), (0, x7), (0, x8), (0, x9), (0, x10), v11] [(0, (if h 2 317 (h 2 319 x6) ≤ x3 then x9 else h 2 319 x6)), (1, 314)] h) rfl ?_
          simp only [if_pos c6]
        · refine (if_neg c6).trans ?_
          refine (rn_iload (pc := 208) (dd bX13_goesUp dX13_goesUp_208) rfl).trans ?_
          refine (rn_goto (t := 241) (pc := 210) (dd bX13_goesUp dX13_goesUp_210) rfl).trans ?_
          refine Eq.trans (b := vrun mX13_goesUp 241 [(1, 282), (0, x1), (0, x2), (0, x3), (0, x4), (0, x5), (0, x6), (0, x7), (0, x8), (0, x9), (0, x10), v11] [(0, x8), (1, 314)] h) rfl ?_
          simp only [if_neg c6]
      refine e5.trans ?_
      refine (rg_iaload (pc := 241) (dd bX13_goesUp dX13_goesUp_241) s1.2.2.2.2.2.2.2.2.2.2.2.2.2.2.2.2.2.2.2.2.2.2.2.2.2.2.2.2.2.2.2.2.2.2.2.2.2.2.2.2.2.2.2.2.2.2.2.2.2.2.2.2.2.2.2.2.2.2.2.2.2.2.2.2.2.2.2.2.2.2.2.2.2.2.2.2.2.2.2.2.2.2.2.2.2.2.2.2.2.2.2.2.2.2.2.1 s1.2.2.2.2.2.2.2.2.2.2.2.2.2.2.2.2.2.2.2.2.2.2.2.2.2.2.2.2.2.2.2.2.2.2.2.2.2.2.2.2.2.2.2.2.2.2.2.2.2.2.2.2.2.2.2.2.2.2.2.2.2.2.2.2.2.2.2.2.2.2.2.2.2.2.2.2.2.2.2.2.2.2.2.2.2.2.2.2.2.2.2.2.2.2.2.2.1 (p18 c1 c4) (p19 c1 c4) rfl).trans ?_
      exact rn_ireturn (pc := 242) (dd bX13_goesUp dX13_goesUp_242) (Or.inl rfl)
theorem bX13_placeAt : vmB mX13_placeAt = cX13_placeAt := rfl
theorem rX13_placeAt_0 {x1 : Int} {x2 : Int} {x3 : Int} {h : vH} (s1 : shModel h) : vrun mX13_placeAt 0 [(1, 282), (0, x1), (0, x2), (0, x3), (9, 0)] [] h = vret vrun mX13_placeAt 3 [(1, 282), (0, x1), (0, x2), (0, x3), (9, 0)] [] (vcl mX13_isRow [(1, 282), (0, x1), (0, x2)] h) := by
  refine (rn_aload_n (pc := 0) (dd bX13_placeAt dX13_placeAt_0) rfl).trans ?_
  refine (rn_iload_n (pc := 1) (dd bX13_placeAt dX13_placeAt_1) rfl).trans ?_
  refine (rn_iload_n (pc := 2) (dd bX13_placeAt dX13_placeAt_2) rfl).trans ?_
  exact rg_virtual (pc := 3) (dd bX13_placeAt dX13_placeAt_3) rfl rfl (by decide) (kc := 34) rfl s1.1 (as := [(1, 282), (0, x1), (0, x2)]) rfl ⟨Nat.le_of_ble_eq_true rfl, Nat.le_of_ble_eq_true rfl, Nat.le_of_ble_eq_true rfl, Nat.le_of_ble_eq_true rfl⟩
theorem rX13_placeAt_6 {x1 : Int} {x2 : Int} {x3 : Int} {y0 : Int} {h : vH} (s1 : shModel h) : vrun mX13_placeAt 6 [(1, 282), (0, x1), (0, x2), (0, x3), (9, 0)] [(0, y0)] h = vret vrun mX13_placeAt 33 [(1, 282), (0, x1), (0, x2), (0, x3), (0, y0)] [] (vcl mX13_isFine [(1, 282), (0, (if y0 = 0 then 1 else (if ¬ (x3 < 0) ∧ ¬ (39 < x3) then 0 else 2)))] h) := by
  refine (rn_istore (pc := 6) (dd bX13_placeAt dX13_placeAt_6) (Nat.le_of_ble_eq_true rfl) rfl).trans ?_
  refine (rn_aload_n (pc := 8) (dd bX13_placeAt dX13_placeAt_8) rfl).trans ?_
  refine (rn_iload (pc := 9) (dd bX13_placeAt dX13_placeAt_9) rfl).trans ?_
  have e2 : vrun mX13_placeAt 11 [(1, 282), (0, x1), (0, x2), (0, x3), (0, y0)] [(0, y0), (1, 282)] h = vrun mX13_placeAt 33 [(1, 282), (0, x1), (0, x2), (0, x3), (0, y0)] [(0, (if y0 = 0 then 1 else (if ¬ (x3 < 0) ∧ ¬ (39 < x3) then 0 else 2))), (1, 282)] h := by
    refine (rg_if_ne (t := 18) (pc := 11) (dd bX13_placeAt dX13_placeAt_11) rfl).trans ?_
    by_cases c1 : y0 = 0
    · refine (if_pos c1).trans ?_
      refine (rn_iconst (pc := 14) (dd bX13_placeAt dX13_placeAt_14) (by decide)).trans ?_
      refine (rn_goto (t := 33) (pc := 15) (dd bX13_placeAt dX13_placeAt_15) rfl).trans ?_
      refine Eq.trans (b := vrun mX13_placeAt 33 [(1, 282), (0, x1), (0, x2), (0, x3), (0, y0)] [(0, 1), (1, 282)] h) rfl ?_
      simp only [if_pos c1]
    · refine (if_neg c1).trans ?_
      refine (rn_iload_n (pc := 18) (dd bX13_placeAt dX13_placeAt_18) rfl).trans ?_
      refine (rn_iconst (pc := 19) (dd bX13_placeAt dX13_placeAt_19) (by decide)).trans ?_
      refine (rn_bipush (pc := 20) (dd bX13_placeAt dX13_placeAt_20) (by decide)).trans ?_
      refine (rg_static (pc := 22) (dd bX13_placeAt dX13_placeAt_22) rfl (by decide) (Nat.le_of_ble_eq_true rfl) (as := [(0, x3), (0, 0), (0, 39)]) rfl rfl ⟨Nat.le_of_ble_eq_true rfl, Nat.le_of_ble_eq_true rfl, Nat.le_of_ble_eq_true rfl, Nat.le_of_ble_eq_true rfl⟩).trans ?_
      refine (vret_v spX13_isIn).trans ?_
      have e1 : vrun mX13_placeAt 25 [(1, 282), (0, x1), (0, x2), (0, x3), (0, y0)] [(0, (if ¬ (x3 < 0) ∧ ¬ (39 < x3) then 1 else 0)), (1, 282)] h = vrun mX13_placeAt 33 [(1, 282), (0, x1), (0, x2), (0, x3), (0, y0)] [(0, (if ¬ (x3 < 0) ∧ ¬ (39 < x3) then 0 else 2)), (1, 282)] h := by
        refine (rg_bne (t := 32) (pc := 25) (dd bX13_placeAt dX13_placeAt_25) rfl).trans ?_
        by_cases c2 : ¬ (x3 < 0) ∧ ¬ (39 < x3)
        · refine (if_pos c2).trans ?_
          refine (rn_iconst (pc := 32) (dd bX13_placeAt dX13_placeAt_32) (by decide)).trans ?_
          refine Eq.trans (b := vrun mX13_placeAt 33 [(1, 282), (0, x1), (0, x2), (0, x3), (0, y0)] [(0, 0), (1, 282)] h) rfl ?_
          simp only [if_pos c2]
        · refine (if_neg c2).trans ?_
          refine (rn_iconst (pc := 28) (dd bX13_placeAt dX13_placeAt_28) (by decide)).trans ?_
          refine (rn_goto (t := 33) (pc := 29) (dd bX13_placeAt dX13_placeAt_29) rfl).trans ?_
          refine Eq.trans (b := vrun mX13_placeAt 33 [(1, 282), (0, x1), (0, x2), (0, x3), (0, y0)] [(0, 2), (1, 282)] h) rfl ?_
          simp only [if_neg c2]
      refine e1.trans ?_
      refine Eq.trans (b := vrun mX13_placeAt 33 [(1, 282), (0, x1), (0, x2), (0, x3), (0, y0)] [(0, (if ¬ (x3 < 0) ∧ ¬ (39 < x3) then 0 else 2)), (1, 282)] h) rfl ?_
      simp only [if_neg c1]
  refine e2.trans ?_
  exact rg_virtual (pc := 33) (dd bX13_placeAt dX13_placeAt_33) rfl rfl (by decide) (kc := 34) rfl s1.1 (as := [(1, 282), (0, (if y0 = 0 then 1 else (if ¬ (x3 < 0) ∧ ¬ (39 < x3) then 0 else 2)))]) rfl ⟨Nat.le_of_ble_eq_true rfl, Nat.le_of_ble_eq_true rfl, Nat.le_of_ble_eq_true rfl, Nat.le_of_ble_eq_true rfl⟩
theorem rX13_placeAt_36 {x1 : Int} {x2 : Int} {x3 : Int} {x4 : Int} {y0 : Int} {h : vH} (s1 : shModel h) : vrun mX13_placeAt 36 [(1, 282), (0, x1), (0, x2), (0, x3), (0, x4)] [(0, y0)] h = if y0 = 0 then some (.inl (some (0, 0)), h) else vret vrun mX13_placeAt 43 [(1, 282), (0, x1), (0, x2), (0, x3), (0, x4)] [] (vcl mX13_goesUp [(1, 282), (0, x1), (0, x2), (0, x3)] h) := by
  refine (rn_if_eq (t := 49) (pc := 36) (dd bX13_placeAt dX13_placeAt_36) rfl).trans (itec (fun c1 => ?_) (fun c1 => ?_))
  · refine (rn_iconst (pc := 49) (dd bX13_placeAt dX13_placeAt_49) (by decide)).trans ?_
    exact rn_ireturn (pc := 50) (dd bX13_placeAt dX13_placeAt_50) (Or.inl rfl)
  · refine (rn_aload_n (pc := 39) (dd bX13_placeAt dX13_placeAt_39) rfl).trans ?_
    refine (rn_iload_n (pc := 40) (dd bX13_placeAt dX13_placeAt_40) rfl).trans ?_
    refine (rn_iload_n (pc := 41) (dd bX13_placeAt dX13_placeAt_41) rfl).trans ?_
    refine (rn_iload_n (pc := 42) (dd bX13_placeAt dX13_placeAt_42) rfl).trans ?_
    exact rg_virtual (pc := 43) (dd bX13_placeAt dX13_placeAt_43) rfl rfl (by decide) (kc := 34) rfl s1.1 (as := [(1, 282), (0, x1), (0, x2), (0, x3)]) rfl ⟨Nat.le_of_ble_eq_true rfl, Nat.le_of_ble_eq_true rfl, Nat.le_of_ble_eq_true rfl, Nat.le_of_ble_eq_true rfl⟩
theorem rX13_placeAt_46 {x1 : Int} {x2 : Int} {x3 : Int} {x4 : Int} {y0 : Int} {h : vH} : vrun mX13_placeAt 46 [(1, 282), (0, x1), (0, x2), (0, x3), (0, x4)] [(0, y0)] h = some (.inl (some (0, y0)), h) := by
  refine (rn_goto (t := 50) (pc := 46) (dd bX13_placeAt dX13_placeAt_46) rfl).trans ?_
  exact rn_ireturn (pc := 50) (dd bX13_placeAt dX13_placeAt_50) (Or.inl rfl)
theorem bX13_marks : vmB mX13_marks = cX13_marks := rfl
theorem rX13_marks_0 {x1 : Int} {x2 : Int} {h : vH} (s1 : shModel h) : vrun mX13_marks 0 [(1, 282), (0, x1), (0, x2), (9, 0), (9, 0), (9, 0), (9, 0), (9, 0)] [] h = vret vrun mX13_marks 3 [(1, 282), (0, x1), (0, x2), (9, 0), (9, 0), (9, 0), (9, 0), (9, 0)] [] (vcl mX13_lineOf [(1, 282), (0, x1), (0, x2)] h) := by
  refine (rn_aload_n (pc := 0) (dd bX13_marks dX13_marks_0) rfl).trans ?_
  refine (rn_iload_n (pc := 1) (dd bX13_marks dX13_marks_1) rfl).trans ?_
  refine (rn_iload_n (pc := 2) (dd bX13_marks dX13_marks_2) rfl).trans ?_
  exact rg_virtual (pc := 3) (dd bX13_marks dX13_marks_3) rfl rfl (by decide) (kc := 34) rfl s1.1 (as := [(1, 282), (0, x1), (0, x2)]) rfl ⟨Nat.le_of_ble_eq_true rfl, Nat.le_of_ble_eq_true rfl, Nat.le_of_ble_eq_true rfl, Nat.le_of_ble_eq_true rfl⟩
theorem rX13_marks_6 {x1 : Int} {x2 : Int} {y0 : Int} {h : vH} (s1 : shModel h) : vrun mX13_marks 6 [(1, 282), (0, x1), (0, x2), (9, 0), (9, 0), (9, 0), (9, 0), (9, 0)] [(0, y0)] h = vret vrun mX13_marks 11 [(1, 282), (0, x1), (0, x2), (0, y0), (9, 0), (9, 0), (9, 0), (9, 0)] [(0, x2)] (vcl mX13_rowsAhead [(1, 282), (0, x1), (0, y0)] h) := by
  refine (rn_istore_n (pc := 6) (dd bX13_marks dX13_marks_6) (Nat.le_of_ble_eq_true rfl) rfl).trans ?_
  refine (rn_iload_n (pc := 7) (dd bX13_marks dX13_marks_7) rfl).trans ?_
  refine (rn_aload_n (pc := 8) (dd bX13_marks dX13_marks_8) rfl).trans ?_
  refine (rn_iload_n (pc := 9) (dd bX13_marks dX13_marks_9) rfl).trans ?_
  refine (rn_iload_n (pc := 10) (dd bX13_marks dX13_marks_10) rfl).trans ?_
  exact rg_virtual (pc := 11) (dd bX13_marks dX13_marks_11) rfl rfl (by decide) (kc := 34) rfl s1.1 (as := [(1, 282), (0, x1), (0, y0)]) rfl ⟨Nat.le_of_ble_eq_true rfl, Nat.le_of_ble_eq_true rfl, Nat.le_of_ble_eq_true rfl, Nat.le_of_ble_eq_true rfl⟩
theorem rX13_marks_14 {x1 : Int} {x2 : Int} {x3 : Int} {y0 : Int} {y1 : Int} {h : vH} : vrun mX13_marks 14 [(1, 282), (0, x1), (0, x2), (0, x3), (9, 0), (9, 0), (9, 0), (9, 0)] [(0, y0), (0, y1)] h = if y1 = y0 then vrun mX13_marks 25 [(1, 282), (0, x1), (0, x2), (0, x3), (0, 0), (0, 0), (9, 0), (9, 0)] [] h else some (.inl (some (0, 0)), h) := by
  refine (rn_icmp_eq (t := 19) (pc := 14) (dd bX13_marks dX13_marks_14) rfl).trans (itec (fun c1 => ?_) (fun c1 => ?_))
  · refine (rn_iconst (pc := 19) (dd bX13_marks dX13_marks_19) (by decide)).trans ?_
    refine (rn_istore (pc := 20) (dd bX13_marks dX13_marks_20) (Nat.le_of_ble_eq_true rfl) rfl).trans ?_
    refine (rn_iconst (pc := 22) (dd bX13_marks dX13_marks_22) (by decide)).trans ?_
    refine (rn_istore (pc := 23) (dd bX13_marks dX13_marks_23) (Nat.le_of_ble_eq_true rfl) rfl).trans ?_
    rfl
  · refine (rn_iconst (pc := 17) (dd bX13_marks dX13_marks_17) (by decide)).trans ?_
    exact rn_ireturn (pc := 18) (dd bX13_marks dX13_marks_18) (Or.inl rfl)
theorem rX13_marks_25 {x1 : Int} {x2 : Int} {x3 : Int} {x4 : Int} {x5 : Int} {v6 : vv} {v7 : vv} {h : vH} (s1 : shModel h) (p2 : ¬ (h 1504 282 0 ≤ x5) → (-2147483648) ≤ 6 * x1) (p3 : ¬ (h 1504 282 0 ≤ x5) → 6 * x1 < 2147483648) : vrun mX13_marks 25 [(1, 282), (0, x1), (0, x2), (0, x3), (0, x4), (0, x5), v6, v7] [] h = if h 1504 282 0 ≤ x5 then some (.inl (some (0, x4)), h) else vrun mX13_marks 53 [(1, 282), (0, x1), (0, x2), (0, x3), (0, x4), (0, x5), (0, (if x5 = x3 then 1 else 0)), (0, 6 * x1)] [] h := by
  refine (rn_iload (pc := 25) (dd bX13_marks dX13_marks_25) rfl).trans ?_
  refine (rn_aload_n (pc := 27) (dd bX13_marks dX13_marks_27) rfl).trans ?_
  refine (rg_gf (pc := 28) (dd bX13_marks dX13_marks_28) (ci := 14) (j := 4) rfl rfl (key := 1504) rfl (kc := 34) rfl s1.1 rfl).trans ?_
  refine (rn_icmp_ge (t := 155) (pc := 31) (dd bX13_marks dX13_marks_31) rfl).trans (itec (fun c1 => ?_) (fun c1 => ?_))
  · refine (rn_iload (pc := 155) (dd bX13_marks dX13_marks_155) rfl).trans ?_
    exact rn_ireturn (pc := 157) (dd bX13_marks dX13_marks_157) (Or.inl rfl)
  · refine (rn_iload (pc := 34) (dd bX13_marks dX13_marks_34) rfl).trans ?_
    refine (rn_iload_n (pc := 36) (dd bX13_marks dX13_marks_36) rfl).trans ?_
    have e1 : vrun mX13_marks 37 [(1, 282), (0, x1), (0, x2), (0, x3), (0, x4), (0, x5), v6, v7] [(0, x3), (0, x5)] h = vrun mX13_marks 45 [(1, 282), (0, x1), (0, x2), (0, x3), (0, x4), (0, x5), v6, v7] [(0, (if x5 = x3 then 1 else 0))] h := by
      refine (rg_icmp_ne (t := 44) (pc := 37) (dd bX13_marks dX13_marks_37) rfl).trans ?_
      by_cases c2 : x5 = x3
      · refine (if_pos c2).trans ?_
        refine (rn_iconst (pc := 40) (dd bX13_marks dX13_marks_40) (by decide)).trans ?_
        refine (rn_goto (t := 45) (pc := 41) (dd bX13_marks dX13_marks_41) rfl).trans ?_
        refine Eq.trans (b := vrun mX13_marks 45 [(1, 282), (0, x1), (0, x2), (0, x3), (0, x4), (0, x5), v6, v7] [(0, 1)] h) rfl ?_
        simp only [c2, true_or, false_or, or_true, or_false, true_and, false_and, and_true, and_false, not_true_eq_false, not_false_eq_true, ne_eq, if_true, if_false, ↓reduceIte]
      · refine (if_neg c2).trans ?_
        refine (rn_iconst (pc := 44) (dd bX13_marks dX13_marks_44) (by decide)).trans ?_
        refine Eq.trans (b := vrun mX13_marks 45 [(1, 282), (0, x1), (0, x2), (0, x3), (0, x4), (0, x5), v6, v7] [(0, 0)] h) rfl ?_
        simp only [c2, true_or, false_or, or_true, or_false, true_and, false_and, and_true, and_false, not_true_eq_false, not_false_eq_true, ne_eq, if_true, if_false, ↓reduceIte]
    refine e1.trans ?_
    refine (rn_istore (pc := 45) (dd bX13_marks dX13_marks_45) (Nat.le_of_ble_eq_true rfl) rfl).trans ?_
    refine (rn_bipush (pc := 47) (dd bX13_marks dX13_marks_47) (by decide)).trans ?_
    refine (rn_iload_n (pc := 49) (dd bX13_marks dX13_marks_49) rfl).trans ?_
    refine (rg_imul (pc := 50) (dd bX13_marks dX13_marks_50) (p2 c1) (p3 c1)).trans ?_
    refine (rn_istore (pc := 51) (dd bX13_marks dX13_marks_51) (Nat.le_of_ble_eq_true rfl) rfl).trans ?_
    rfl
theorem rX13_marks_53 {x1 : Int} {x2 : Int} {x3 : Int} {x4 : Int} {x5 : Int} {x6 : Int} {x7 : Int} {h : vH} (p1 : (-2147483648) ≤ 6 * x1) (p2 : 6 * x1 < 2147483648) (s3 : shModel h) (p4 : 0 ≤ x1) (p5 : x1 < 4) (p6 : (-2147483648) ≤ 6 * x1 + h 2 301 x1) (p7 : 6 * x1 + h 2 301 x1 < 2147483648) (p8 : 6 * x1 + h 2 301 x1 ≤ x7 → ¬ (x6 = 0) → 0 ≤ x5) (p9 : 6 * x1 + h 2 301 x1 ≤ x7 → ¬ (x6 = 0) → x5 < 60) (p10 : 6 * x1 + h 2 301 x1 ≤ x7 → (-2147483648) ≤ x4 + (if ¬ (x6 = 0) ∧ ¬ (h 2 285 x5 = 0) then 1 else 0)) (p11 : 6 * x1 + h 2 301 x1 ≤ x7 → x4 + (if ¬ (x6 = 0) ∧ ¬ (h 2 285 x5 = 0) then 1 else 0) < 2147483648) (p12 : 6 * x1 + h 2 301 x1 ≤ x7 → (-2147483648) ≤ x5 + 1) (p13 : 6 * x1 + h 2 301 x1 ≤ x7 → x5 + 1 < 2147483648) (p14 : ¬ (6 * x1 + h 2 301 x1 ≤ x7) → x6 = 0 → 0 ≤ x7) (p15 : ¬ (6 * x1 + h 2 301 x1 ≤ x7) → x6 = 0 → x7 < 24) (p16 : ¬ (6 * x1 + h 2 301 x1 ≤ x7) → (-2147483648) ≤ x7 + 1) (p17 : ¬ (6 * x1 + h 2 301 x1 ≤ x7) → x7 + 1 < 2147483648) : vrun mX13_marks 53 [(1, 282), (0, x1), (0, x2), (0, x3), (0, x4), (0, x5), (0, x6), (0, x7)] [] h = if 6 * x1 + h 2 301 x1 ≤ x7 then vrun mX13_marks 25 [(1, 282), (0, x1), (0, x2), (0, x3), (0, x4 + (if ¬ (x6 = 0) ∧ ¬ (h 2 285 x5 = 0) then 1 else 0)), (0, x5 + 1), (0, x6), (0, x7)] [] h else vrun mX13_marks 53 [(1, 282), (0, x1), (0, x2), (0, x3), (0, x4), (0, x5), (0, (if ¬ (x6 = 0) ∨ ¬ (h 2 304 x7 = 0) ∧ h 2 302 x7 = x3 ∧ ¬ (x5 < x3) ∧ ¬ (h 2 303 x7 < x5) then 1 else 0)), (0, x7 + 1)] [] h := by
  refine (rn_iload (pc := 53) (dd bX13_marks dX13_marks_53) rfl).trans ?_
  refine (rn_bipush (pc := 55) (dd bX13_marks dX13_marks_55) (by decide)).trans ?_
  refine (rn_iload_n (pc := 57) (dd bX13_marks dX13_marks_57) rfl).trans ?_
  refine (rg_imul (pc := 58) (dd bX13_marks dX13_marks_58) p1 p2).trans ?_
  refine (rn_aload_n (pc := 59) (dd bX13_marks dX13_marks_59) rfl).trans ?_
  refine (rg_gf (pc := 60) (dd bX13_marks dX13_marks_60) (ci := 14) (j := 20) rfl rfl (key := 1520) rfl (kc := 34) rfl s3.1 s3.2.2.2.2.2.2.2.2.2.2.2.2.2.2.2.2.2.2.2.2.2.2.2.2.2.2.2.2.2.2.2.2.2.2.2.2.2.2.2.2.2.2.2.2.2.2.2.2.2.2.2.2.2.2.2.1).trans ?_
  refine (rn_iload_n (pc := 63) (dd bX13_marks dX13_marks_63) rfl).trans ?_
  refine (rg_iaload (pc := 64) (dd bX13_marks dX13_marks_64) s3.2.2.2.2.2.2.2.2.2.2.2.2.2.2.2.2.2.2.2.2.2.2.2.2.2.2.2.2.2.2.2.2.2.2.2.2.2.2.2.2.2.2.2.2.2.2.2.2.2.2.2.2.2.2.2.2.1 s3.2.2.2.2.2.2.2.2.2.2.2.2.2.2.2.2.2.2.2.2.2.2.2.2.2.2.2.2.2.2.2.2.2.2.2.2.2.2.2.2.2.2.2.2.2.2.2.2.2.2.2.2.2.2.2.2.2.1 p4 p5 rfl).trans ?_
  refine (rg_iadd (pc := 65) (dd bX13_marks dX13_marks_65) p6 p7).trans ?_
  refine (rn_icmp_ge (t := 124) (pc := 66) (dd bX13_marks dX13_marks_66) rfl).trans (itec (fun c1 => ?_) (fun c1 => ?_))
  · refine (rn_iload (pc := 124) (dd bX13_marks dX13_marks_124) rfl).trans ?_
    refine (rn_iload (pc := 126) (dd bX13_marks dX13_marks_126) rfl).trans ?_
    have e2 : vrun mX13_marks 128 [(1, 282), (0, x1), (0, x2), (0, x3), (0, x4), (0, x5), (0, x6), (0, x7)] [(0, x6), (0, x4)] h = vrun mX13_marks 146 [(1, 282), (0, x1), (0, x2), (0, x3), (0, x4), (0, x5), (0, x6), (0, x7)] [(0, (if ¬ (x6 = 0) ∧ ¬ (h 2 285 x5 = 0) then 1 else 0)), (0, x4)] h := by
      refine (rn_if_eq (t := 145) (pc := 128) (dd bX13_marks dX13_marks_128) rfl).trans ?_
      by_cases c2 : x6 = 0
      · refine (if_pos c2).trans ?_
        refine (rn_iconst (pc := 145) (dd bX13_marks dX13_marks_145) (by decide)).trans ?_
        refine Eq.trans (b := vrun mX13_marks 146 [(1, 282), (0, x1), (0, x2), (0, x3), (0, x4), (0, x5), (0, x6), (0, x7)] [(0, 0), (0, x4)] h) rfl ?_
        simp only [c2, true_or, false_or, or_true, or_false, true_and, false_and, and_true, and_false, not_true_eq_false, not_false_eq_true, ne_eq, if_true, if_false, ↓reduceIte]
      · refine (if_neg c2).trans ?_
        refine (rn_aload_n (pc := 131) (dd bX13_marks dX13_marks_131) rfl).trans ?_
        refine (rg_gf (pc := 132) (dd bX13_marks dX13_marks_132) (ci := 14) (j := 3) rfl rfl (key := 1503) rfl (kc := 34) rfl s3.1 s3.2.2.2.2.2.2.2.1).trans ?_
        refine (rn_iload (pc := 135) (dd bX13_marks dX13_marks_135) rfl).trans ?_
        refine (rg_baload (pc := 137) (dd bX13_marks dX13_marks_137) s3.2.2.2.2.2.2.2.2.1 s3.2.2.2.2.2.2.2.2.2.1 (p8 c1 c2) (p9 c1 c2) rfl).trans ?_
        have e1 : vrun mX13_marks 138 [(1, 282), (0, x1), (0, x2), (0, x3), (0, x4), (0, x5), (0, x6), (0, x7)] [(0, h 2 285 x5), (0, x4)] h = vrun mX13_marks 146 [(1, 282), (0, x1), (0, x2), (0, x3), (0, x4), (0, x5), (0, x6), (0, x7)] [(0, (if ¬ (h 2 285 x5 = 0) then 1 else 0)), (0, x4)] h := by
          refine (rn_if_eq (t := 145) (pc := 138) (dd bX13_marks dX13_marks_138) rfl).trans ?_
          by_cases c3 : h 2 285 x5 = 0
          · refine (if_pos c3).trans ?_
            refine (rn_iconst (pc := 145) (dd bX13_marks dX13_marks_145) (by decide)).trans ?_
            refine Eq.trans (b := vrun mX13_marks 146 [(1, 282), (0, x1), (0, x2), (0, x3), (0, x4), (0, x5), (0, x6), (0, x7)] [(0, 0), (0, x4)] h) rfl ?_
            simp only [c3, true_or, false_or, or_true, or_false, true_and, false_and, and_true, and_false, not_true_eq_false, not_false_eq_true, ne_eq, if_true, if_false, ↓reduceIte]
          · refine (if_neg c3).trans ?_
            refine (rn_iconst (pc := 141) (dd bX13_marks dX13_marks_141) (by decide)).trans ?_
            refine (rn_goto (t := 146) (pc := 142) (dd bX13_marks dX13_marks_142) rfl).trans ?_
            refine Eq.trans (b := vrun mX13_marks 146 [(1, 282), (0, x1), (0, x2), (0, x3), (0, x4), (0, x5), (0, x6), (0, x7)] [(0, 1), (0, x4)] h) rfl ?_
            simp only [c3, true_or, false_or, or_true, or_false, true_and, false_and, and_true, and_false, not_true_eq_false, not_false_eq_true, ne_eq, if_true, if_false, ↓reduceIte]
        refine e1.trans ?_
        refine Eq.trans (b := vrun mX13_marks 146 [(1, 282), (0, x1), (0, x2), (0, x3), (0, x4), (0, x5), (0, x6), (0, x7)] [(0, (if ¬ (h 2 285 x5 = 0) then 1 else 0)), (0, x4)] h) rfl ?_
        simp only [c2, true_or, false_or, or_true, or_false, true_and, false_and, and_true, and_false, not_true_eq_false, not_false_eq_true, ne_eq, if_true, if_false, ↓reduceIte]
    refine e2.trans ?_
    refine (rg_iadd (pc := 146) (dd bX13_marks dX13_marks_146) (p10 c1) (p11 c1)).trans ?_
    refine (rn_istore (pc := 147) (dd bX13_marks dX13_marks_147) (Nat.le_of_ble_eq_true rfl) rfl).trans ?_
    refine (rg_iinc (pc := 149) (dd bX13_marks dX13_marks_149) rfl (Nat.le_of_ble_eq_true rfl) (p12 c1) (p13 c1) rfl).trans ?_
    refine (rn_goto (t := 25) (pc := 152) (dd bX13_marks dX13_marks_152) rfl).trans ?_
    rfl
  · refine (rn_iload (pc := 69) (dd bX13_marks dX13_marks_69) rfl).trans ?_
    have e6 : vrun mX13_marks 71 [(1, 282), (0, x1), (0, x2), (0, x3), (0, x4), (0, x5), (0, x6), (0, x7)] [(0, x6)] h = vrun mX13_marks 116 [(1, 282), (0, x1), (0, x2), (0, x3), (0, x4), (0, x5), (0, x6), (0, x7)] [(0, (if ¬ (x6 = 0) ∨ ¬ (h 2 304 x7 = 0) ∧ h 2 302 x7 = x3 ∧ ¬ (x5 < x3) ∧ ¬ (h 2 303 x7 < x5) then 1 else 0))] h := by
      refine (rg_if_ne (t := 111) (pc := 71) (dd bX13_marks dX13_marks_71) rfl).trans ?_
      by_cases c4 : x6 = 0
      · refine (if_pos c4).trans ?_
        refine (rn_aload_n (pc := 74) (dd bX13_marks dX13_marks_74) rfl).trans ?_
        refine (rg_gf (pc := 75) (dd bX13_marks dX13_marks_75) (ci := 14) (j := 23) rfl rfl (key := 1523) rfl (kc := 34) rfl s3.1 s3.2.2.2.2.2.2.2.2.2.2.2.2.2.2.2.2.2.2.2.2.2.2.2.2.2.2.2.2.2.2.2.2.2.2.2.2.2.2.2.2.2.2.2.2.2.2.2.2.2.2.2.2.2.2.2.2.2.2.2.2.2.2.2.2.1).trans ?_
        refine (rn_iload (pc := 78) (dd bX13_marks dX13_marks_78) rfl).trans ?_
        refine (rg_baload (pc := 80) (dd bX13_marks dX13_marks_80) s3.2.2.2.2.2.2.2.2.2.2.2.2.2.2.2.2.2.2.2.2.2.2.2.2.2.2.2.2.2.2.2.2.2.2.2.2.2.2.2.2.2.2.2.2.2.2.2.2.2.2.2.2.2.2.2.2.2.2.2.2.2.2.2.2.2.1 s3.2.2.2.2.2.2.2.2.2.2.2.2.2.2.2.2.2.2.2.2.2.2.2.2.2.2.2.2.2.2.2.2.2.2.2.2.2.2.2.2.2.2.2.2.2.2.2.2.2.2.2.2.2.2.2.2.2.2.2.2.2.2.2.2.2.2.1 (p14 c1 c4) (p15 c1 c4) rfl).trans ?_
        have e5 : vrun mX13_marks 81 [(1, 282), (0, x1), (0, x2), (0, x3), (0, x4), (0, x5), (0, x6), (0, x7)] [(0, h 2 304 x7)] h = vrun mX13_marks 116 [(1, 282), (0, x1), (0, x2), (0, x3), (0, x4), (0, x5), (0, x6), (0, x7)] [(0, (if ¬ (h 2 304 x7 = 0) ∧ h 2 302 x7 = x3 ∧ ¬ (x5 < x3) ∧ ¬ (h 2 303 x7 < x5) then 1 else 0))] h := by
          refine (rn_if_eq (t := 115) (pc := 81) (dd bX13_marks dX13_marks_81) rfl).trans ?_
          by_cases c5 : h 2 304 x7 = 0
          · refine (if_pos c5).trans ?_
            refine (rn_iconst (pc := 115) (dd bX13_marks dX13_marks_115) (by decide)).trans ?_
            refine Eq.trans (b := vrun mX13_marks 116 [(1, 282), (0, x1), (0, x2), (0, x3), (0, x4), (0, x5), (0, x6), (0, x7)] [(0, 0)] h) rfl ?_
            simp only [c5, true_or, false_or, or_true, or_false, true_and, false_and, and_true, and_false, not_true_eq_false, not_false_eq_true, ne_eq, if_true, if_false, ↓reduceIte]
          · refine (if_neg c5).trans ?_
            refine (rn_aload_n (pc := 84) (dd bX13_marks dX13_marks_84) rfl).trans ?_
            refine (rg_gf (pc := 85) (dd bX13_marks dX13_marks_85) (ci := 14) (j := 21) rfl rfl (key := 1521) rfl (kc := 34) rfl s3.1 s3.2.2.2.2.2.2.2.2.2.2.2.2.2.2.2.2.2.2.2.2.2.2.2.2.2.2.2.2.2.2.2.2.2.2.2.2.2.2.2.2.2.2.2.2.2.2.2.2.2.2.2.2.2.2.2.2.2.2.1).trans ?_
            refine (rn_iload (pc := 88) (dd bX13_marks dX13_marks_88) rfl).trans ?_
            refine (rg_iaload (pc := 90) (dd bX13_marks dX13_marks_90) s3.2.2.2.2.2.2.2.2.2.2.2.2.2.2.2.2.2.2.2.2.2.2.2.2.2.2.2.2.2.2.2.2.2.2.2.2.2.2.2.2.2.2.2.2.2.2.2.2.2.2.2.2.2.2.2.2.2.2.2.1 s3.2.2.2.2.2.2.2.2.2.2.2.2.2.2.2.2.2.2.2.2.2.2.2.2.2.2.2.2.2.2.2.2.2.2.2.2.2.2.2.2.2.2.2.2.2.2.2.2.2.2.2.2.2.2.2.2.2.2.2.2.1 (by have z0 := p14 c1 c4; have z1 := p15 c1 c4; omega) (by have z0 := p14 c1 c4; have z1 := p15 c1 c4; omega) rfl).trans ?_
            refine (rn_iload_n (pc := 91) (dd bX13_marks dX13_marks_91) rfl).trans ?_
            have e4 : vrun mX13_marks 92 [(1, 282), (0, x1), (0, x2), (0, x3), (0, x4), (0, x5), (0, x6), (0, x7)] [(0, x3), (0, h 2 302 x7)] h = vrun mX13_marks 116 [(1, 282), (0, x1), (0, x2), (0, x3), (0, x4), (0, x5), (0, x6), (0, x7)] [(0, (if h 2 302 x7 = x3 ∧ ¬ (x5 < x3) ∧ ¬ (h 2 303 x7 < x5) then 1 else 0))] h := by
              refine (rg_icmp_ne (t := 115) (pc := 92) (dd bX13_marks dX13_marks_92) rfl).trans ?_
              by_cases c6 : h 2 302 x7 = x3
              · refine (if_pos c6).trans ?_
                refine (rn_iload (pc := 95) (dd bX13_marks dX13_marks_95) rfl).trans ?_
                refine (rn_iload_n (pc := 97) (dd bX13_marks dX13_marks_97) rfl).trans ?_
                refine (rn_aload_n (pc := 98) (dd bX13_marks dX13_marks_98) rfl).trans ?_
                refine (rg_gf (pc := 99) (dd bX13_marks dX13_marks_99) (ci := 14) (j := 22) rfl rfl (key := 1522) rfl (kc := 34) rfl s3.1 s3.2.2.2.2.2.2.2.2.2.2.2.2.2.2.2.2.2.2.2.2.2.2.2.2.2.2.2.2.2.2.2.2.2.2.2.2.2.2.2.2.2.2.2.2.2.2.2.2.2.2.2.2.2.2.2.2.2.2.2.2.2.1).trans ?_
                refine (rn_iload (pc := 102) (dd bX13_marks dX13_marks_102) rfl).trans ?_
                refine (rg_iaload (pc := 104) (dd bX13_marks dX13_marks_104) s3.2.2.2.2.2.2.2.2.2.2.2.2.2.2.2.2.2.2.2.2.2.2.2.2.2.2.2.2.2.2.2.2.2.2.2.2.2.2.2.2.2.2.2.2.2.2.2.2.2.2.2.2.2.2.2.2.2.2.2.2.2.2.1 s3.2.2.2.2.2.2.2.2.2.2.2.2.2.2.2.2.2.2.2.2.2.2.2.2.2.2.2.2.2.2.2.2.2.2.2.2.2.2.2.2.2.2.2.2.2.2.2.2.2.2.2.2.2.2.2.2.2.2.2.2.2.2.2.1 (by have z0 := p14 c1 c4; have z1 := p15 c1 c4; omega) (by have z0 := p14 c1 c4; have z1 := p15 c1 c4; omega) rfl).trans ?_
                refine (rg_static (pc := 105) (dd bX13_marks dX13_marks_105) rfl (by decide) (Nat.le_of_ble_eq_true rfl) (as := [(0, x5), (0, x3), (0, h 2 303 x7)]) rfl rfl ⟨Nat.le_of_ble_eq_true rfl, Nat.le_of_ble_eq_true rfl, Nat.le_of_ble_eq_true rfl, Nat.le_of_ble_eq_true rfl⟩).trans ?_
                refine (vret_v spX13_isIn).trans ?_
                have e3 : vrun mX13_marks 108 [(1, 282), (0, x1), (0, x2), (0, x3), (0, x4), (0, x5), (0, x6), (0, x7)] [(0, (if ¬ (x5 < x3) ∧ ¬ (h 2 303 x7 < x5) then 1 else 0))] h = vrun mX13_marks 116 [(1, 282), (0, x1), (0, x2), (0, x3), (0, x4), (0, x5), (0, x6), (0, x7)] [(0, (if ¬ (x5 < x3) ∧ ¬ (h 2 303 x7 < x5) then 1 else 0))] h := by
                  refine (rg_beq (t := 115) (pc := 108) (dd bX13_marks dX13_marks_108) rfl).trans ?_
                  by_cases c7 : ¬ (x5 < x3) ∧ ¬ (h 2 303 x7 < x5)
                  · refine (if_pos c7).trans ?_
                    refine (rn_iconst (pc := 111) (dd bX13_marks dX13_marks_111) (by decide)).trans ?_
                    refine (rn_goto (t := 116) (pc := 112) (dd bX13_marks dX13_marks_112) rfl).trans ?_
                    refine Eq.trans (b := vrun mX13_marks 116 [(1, 282), (0, x1), (0, x2), (0, x3), (0, x4), (0, x5), (0, x6), (0, x7)] [(0, 1)] h) rfl ?_
                    simp only [c7, true_or, false_or, or_true, or_false, true_and, false_and, and_true, and_false, not_true_eq_false, not_false_eq_true, ne_eq, if_true, if_false, ↓reduceIte]
                  · refine (if_neg c7).trans ?_
                    refine (rn_iconst (pc := 115) (dd bX13_marks dX13_marks_115) (by decide)).trans ?_
                    refine Eq.trans (b := vrun mX13_marks 116 [(1, 282), (0, x1), (0, x2), (0, x3), (0, x4), (0, x5), (0, x6), (0, x7)] [(0, 0)] h) rfl ?_
                    simp only [c7, true_or, false_or, or_true, or_false, true_and, false_and, and_true, and_false, not_true_eq_false, not_false_eq_true, ne_eq, if_true, if_false, ↓reduceIte]
                refine e3.trans ?_
                refine Eq.trans (b := vrun mX13_marks 116 [(1, 282), (0, x1), (0, x2), (0, x3), (0, x4), (0, x5), (0, x6), (0, x7)] [(0, (if ¬ (x5 < x3) ∧ ¬ (h 2 303 x7 < x5) then 1 else 0))] h) rfl ?_
                simp only [c6, true_or, false_or, or_true, or_false, true_and, false_and, and_true, and_false, not_true_eq_false, not_false_eq_true, ne_eq, if_true, if_false, ↓reduceIte]
              · refine (if_neg c6).trans ?_
                refine (rn_iconst (pc := 115) (dd bX13_marks dX13_marks_115) (by decide)).trans ?_
                refine Eq.trans (b := vrun mX13_marks 116 [(1, 282), (0, x1), (0, x2), (0, x3), (0, x4), (0, x5), (0, x6), (0, x7)] [(0, 0)] h) rfl ?_
                simp only [c6, true_or, false_or, or_true, or_false, true_and, false_and, and_true, and_false, not_true_eq_false, not_false_eq_true, ne_eq, if_true, if_false, ↓reduceIte]
            refine e4.trans ?_
            refine Eq.trans (b := vrun mX13_marks 116 [(1, 282), (0, x1), (0, x2), (0, x3), (0, x4), (0, x5), (0, x6), (0, x7)] [(0, (if h 2 302 x7 = x3 ∧ ¬ (x5 < x3) ∧ ¬ (h 2 303 x7 < x5) then 1 else 0))] h) rfl ?_
            simp only [c5, true_or, false_or, or_true, or_false, true_and, false_and, and_true, and_false, not_true_eq_false, not_false_eq_true, ne_eq, if_true, if_false, ↓reduceIte]
        refine e5.trans ?_
        refine Eq.trans (b := vrun mX13_marks 116 [(1, 282), (0, x1), (0, x2), (0, x3), (0, x4), (0, x5), (0, x6), (0, x7)] [(0, (if ¬ (h 2 304 x7 = 0) ∧ h 2 302 x7 = x3 ∧ ¬ (x5 < x3) ∧ ¬ (h 2 303 x7 < x5) then 1 else 0))] h) rfl ?_
        simp only [c4, true_or, false_or, or_true, or_false, true_and, false_and, and_true, and_false, not_true_eq_false, not_false_eq_true, ne_eq, if_true, if_false, ↓reduceIte]
      · refine (if_neg c4).trans ?_
        refine (rn_iconst (pc := 111) (dd bX13_marks dX13_marks_111) (by decide)).trans ?_
        refine (rn_goto (t := 116) (pc := 112) (dd bX13_marks dX13_marks_112) rfl).trans ?_
        refine Eq.trans (b := vrun mX13_marks 116 [(1, 282), (0, x1), (0, x2), (0, x3), (0, x4), (0, x5), (0, x6), (0, x7)] [(0, 1)] h) rfl ?_
        simp only [c4, true_or, false_or, or_true, or_false, true_and, false_and, and_true, and_false, not_true_eq_false, not_false_eq_true, ne_eq, if_true, if_false, ↓reduceIte]
    refine e6.trans ?_
    refine (rn_istore (pc := 116) (dd bX13_marks dX13_marks_116) (Nat.le_of_ble_eq_true rfl) rfl).trans ?_
    refine (rg_iinc (pc := 118) (dd bX13_marks dX13_marks_118) rfl (Nat.le_of_ble_eq_true rfl) (p16 c1) (p17 c1) rfl).trans ?_
    refine (rn_goto (t := 53) (pc := 121) (dd bX13_marks dX13_marks_121) rfl).trans ?_
    rfl
theorem bX13_marksAt : vmB mX13_marksAt = cX13_marksAt := rfl
theorem rX13_marksAt_0 {x1 : Int} {x2 : Int} {h : vH} (s1 : shModel h) : vrun mX13_marksAt 0 [(1, 282), (0, x1), (0, x2)] [] h = vret vrun mX13_marksAt 4 [(1, 282), (0, x1), (0, x2)] [(1, 282)] (vcl mX13_isRow [(1, 282), (0, x1), (0, x2)] h) := by
  refine (rn_aload_n (pc := 0) (dd bX13_marksAt dX13_marksAt_0) rfl).trans ?_
  refine (rn_aload_n (pc := 1) (dd bX13_marksAt dX13_marksAt_1) rfl).trans ?_
  refine (rn_iload_n (pc := 2) (dd bX13_marksAt dX13_marksAt_2) rfl).trans ?_
  refine (rn_iload_n (pc := 3) (dd bX13_marksAt dX13_marksAt_3) rfl).trans ?_
  exact rg_virtual (pc := 4) (dd bX13_marksAt dX13_marksAt_4) rfl rfl (by decide) (kc := 34) rfl s1.1 (as := [(1, 282), (0, x1), (0, x2)]) rfl ⟨Nat.le_of_ble_eq_true rfl, Nat.le_of_ble_eq_true rfl, Nat.le_of_ble_eq_true rfl, Nat.le_of_ble_eq_true rfl⟩
theorem rX13_marksAt_7 {x1 : Int} {x2 : Int} {y0 : Int} {h : vH} (s1 : shModel h) : vrun mX13_marksAt 7 [(1, 282), (0, x1), (0, x2)] [(0, y0), (1, 282)] h = vret vrun mX13_marksAt 15 [(1, 282), (0, x1), (0, x2)] [] (vcl mX13_isFine [(1, 282), (0, (if y0 = 0 then 1 else 0))] h) := by
  have e1 : vrun mX13_marksAt 7 [(1, 282), (0, x1), (0, x2)] [(0, y0), (1, 282)] h = vrun mX13_marksAt 15 [(1, 282), (0, x1), (0, x2)] [(0, (if y0 = 0 then 1 else 0)), (1, 282)] h := by
    refine (rn_if_eq (t := 14) (pc := 7) (dd bX13_marksAt dX13_marksAt_7) rfl).trans ?_
    by_cases c1 : y0 = 0
    · refine (if_pos c1).trans ?_
      refine (rn_iconst (pc := 14) (dd bX13_marksAt dX13_marksAt_14) (by decide)).trans ?_
      refine Eq.trans (b := vrun mX13_marksAt 15 [(1, 282), (0, x1), (0, x2)] [(0, 1), (1, 282)] h) rfl ?_
      simp only [c1, true_or, false_or, or_true, or_false, true_and, false_and, and_true, and_false, not_true_eq_false, not_false_eq_true, ne_eq, if_true, if_false, ↓reduceIte]
    · refine (if_neg c1).trans ?_
      refine (rn_iconst (pc := 10) (dd bX13_marksAt dX13_marksAt_10) (by decide)).trans ?_
      refine (rn_goto (t := 15) (pc := 11) (dd bX13_marksAt dX13_marksAt_11) rfl).trans ?_
      refine Eq.trans (b := vrun mX13_marksAt 15 [(1, 282), (0, x1), (0, x2)] [(0, 0), (1, 282)] h) rfl ?_
      simp only [c1, true_or, false_or, or_true, or_false, true_and, false_and, and_true, and_false, not_true_eq_false, not_false_eq_true, ne_eq, if_true, if_false, ↓reduceIte]
  refine e1.trans ?_
  exact rg_virtual (pc := 15) (dd bX13_marksAt dX13_marksAt_15) rfl rfl (by decide) (kc := 34) rfl s1.1 (as := [(1, 282), (0, (if y0 = 0 then 1 else 0))]) rfl ⟨Nat.le_of_ble_eq_true rfl, Nat.le_of_ble_eq_true rfl, Nat.le_of_ble_eq_true rfl, Nat.le_of_ble_eq_true rfl⟩
theorem rX13_marksAt_18 {x1 : Int} {x2 : Int} {y0 : Int} {h : vH} (s1 : shModel h) : vrun mX13_marksAt 18 [(1, 282), (0, x1), (0, x2)] [(0, y0)] h = if y0 = 0 then some (.inl (some (0, 0)), h) else vret vrun mX13_marksAt 24 [(1, 282), (0, x1), (0, x2)] [] (vcl mX13_marks [(1, 282), (0, x1), (0, x2)] h) := by
  refine (rn_if_eq (t := 30) (pc := 18) (dd bX13_marksAt dX13_marksAt_18) rfl).trans (itec (fun c1 => ?_) (fun c1 => ?_))
  · refine (rn_iconst (pc := 30) (dd bX13_marksAt dX13_marksAt_30) (by decide)).trans ?_
    exact rn_ireturn (pc := 31) (dd bX13_marksAt dX13_marksAt_31) (Or.inl rfl)
  · refine (rn_aload_n (pc := 21) (dd bX13_marksAt dX13_marksAt_21) rfl).trans ?_
    refine (rn_iload_n (pc := 22) (dd bX13_marksAt dX13_marksAt_22) rfl).trans ?_
    refine (rn_iload_n (pc := 23) (dd bX13_marksAt dX13_marksAt_23) rfl).trans ?_
    exact rg_virtual (pc := 24) (dd bX13_marksAt dX13_marksAt_24) rfl rfl (by decide) (kc := 34) rfl s1.1 (as := [(1, 282), (0, x1), (0, x2)]) rfl ⟨Nat.le_of_ble_eq_true rfl, Nat.le_of_ble_eq_true rfl, Nat.le_of_ble_eq_true rfl, Nat.le_of_ble_eq_true rfl⟩
theorem rX13_marksAt_27 {x1 : Int} {x2 : Int} {y0 : Int} {h : vH} : vrun mX13_marksAt 27 [(1, 282), (0, x1), (0, x2)] [(0, y0)] h = some (.inl (some (0, y0)), h) := by
  refine (rn_goto (t := 31) (pc := 27) (dd bX13_marksAt dX13_marksAt_27) rfl).trans ?_
  exact rn_ireturn (pc := 31) (dd bX13_marksAt dX13_marksAt_31) (Or.inl rfl)
theorem bX13_minimap : vmB mX13_minimap = cX13_minimap := rfl
theorem rX13_minimap_0 {x1 : Int} {x2 : Int} {h : vH} (s1 : shModel h) : vrun mX13_minimap 0 [(1, 282), (0, x1), (0, x2), (9, 0), (9, 0), (9, 0), (9, 0), (9, 0)] [] h = vret vrun mX13_minimap 27 [(1, 282), (0, x1), (0, x2), (9, 0), (9, 0), (9, 0), (9, 0), (9, 0)] [] (vcl mX13_isFine [(1, 282), (0, (if ¬ (x1 < 0) ∧ ¬ (3 < x1) then (if ¬ (x2 < 0) ∧ ¬ (7 < x2) then 0 else 2) else 1))] h) := by
  refine (rn_aload_n (pc := 0) (dd bX13_minimap dX13_minimap_0) rfl).trans ?_
  refine (rn_iload_n (pc := 1) (dd bX13_minimap dX13_minimap_1) rfl).trans ?_
  refine (rg_static (pc := 2) (dd bX13_minimap dX13_minimap_2) rfl (by decide) (Nat.le_of_ble_eq_true rfl) (as := [(0, x1)]) rfl rfl ⟨Nat.le_of_ble_eq_true rfl, Nat.le_of_ble_eq_true rfl, Nat.le_of_ble_eq_true rfl, Nat.le_of_ble_eq_true rfl⟩).trans ?_
  refine (vret_v spX13_isPane).trans ?_
  have e2 : vrun mX13_minimap 5 [(1, 282), (0, x1), (0, x2), (9, 0), (9, 0), (9, 0), (9, 0), (9, 0)] [(0, (if ¬ (x1 < 0) ∧ ¬ (3 < x1) then 1 else 0)), (1, 282)] h = vrun mX13_minimap 27 [(1, 282), (0, x1), (0, x2), (9, 0), (9, 0), (9, 0), (9, 0), (9, 0)] [(0, (if ¬ (x1 < 0) ∧ ¬ (3 < x1) then (if ¬ (x2 < 0) ∧ ¬ (7 < x2) then 0 else 2) else 1)), (1, 282)] h := by
    refine (rg_bne (t := 12) (pc := 5) (dd bX13_minimap dX13_minimap_5) rfl).trans ?_
    by_cases c1 : ¬ (x1 < 0) ∧ ¬ (3 < x1)
    · refine (if_pos c1).trans ?_
      refine (rn_iload_n (pc := 12) (dd bX13_minimap dX13_minimap_12) rfl).trans ?_
      refine (rn_iconst (pc := 13) (dd bX13_minimap dX13_minimap_13) (by decide)).trans ?_
      refine (rn_bipush (pc := 14) (dd bX13_minimap dX13_minimap_14) (by decide)).trans ?_
      refine (rg_static (pc := 16) (dd bX13_minimap dX13_minimap_16) rfl (by decide) (Nat.le_of_ble_eq_true rfl) (as := [(0, x2), (0, 0), (0, 7)]) rfl rfl ⟨Nat.le_of_ble_eq_true rfl, Nat.le_of_ble_eq_true rfl, Nat.le_of_ble_eq_true rfl, Nat.le_of_ble_eq_true rfl⟩).trans ?_
      refine (vret_v spX13_isIn).trans ?_
      have e1 : vrun mX13_minimap 19 [(1, 282), (0, x1), (0, x2), (9, 0), (9, 0), (9, 0), (9, 0), (9, 0)] [(0, (if ¬ (x2 < 0) ∧ ¬ (7 < x2) then 1 else 0)), (1, 282)] h = vrun mX13_minimap 27 [(1, 282), (0, x1), (0, x2), (9, 0), (9, 0), (9, 0), (9, 0), (9, 0)] [(0, (if ¬ (x2 < 0) ∧ ¬ (7 < x2) then 0 else 2)), (1, 282)] h := by
        refine (rg_bne (t := 26) (pc := 19) (dd bX13_minimap dX13_minimap_19) rfl).trans ?_
        by_cases c2 : ¬ (x2 < 0) ∧ ¬ (7 < x2)
        · refine (if_pos c2).trans ?_
          refine (rn_iconst (pc := 26) (dd bX13_minimap dX13_minimap_26) (by decide)).trans ?_
          refine Eq.trans (b := vrun mX13_minimap 27 [(1, 282), (0, x1), (0, x2), (9, 0), (9, 0), (9, 0), (9, 0), (9, 0)] [(0, 0), (1, 282)] h) rfl ?_
          simp only [if_pos c2]
        · refine (if_neg c2).trans ?_
          refine (rn_iconst (pc := 22) (dd bX13_minimap dX13_minimap_22) (by decide)).trans ?_
          refine (rn_goto (t := 27) (pc := 23) (dd bX13_minimap dX13_minimap_23) rfl).trans ?_
          refine Eq.trans (b := vrun mX13_minimap 27 [(1, 282), (0, x1), (0, x2), (9, 0), (9, 0), (9, 0), (9, 0), (9, 0)] [(0, 2), (1, 282)] h) rfl ?_
          simp only [if_neg c2]
      refine e1.trans ?_
      refine Eq.trans (b := vrun mX13_minimap 27 [(1, 282), (0, x1), (0, x2), (9, 0), (9, 0), (9, 0), (9, 0), (9, 0)] [(0, (if ¬ (x2 < 0) ∧ ¬ (7 < x2) then 0 else 2)), (1, 282)] h) rfl ?_
      simp only [if_pos c1]
    · refine (if_neg c1).trans ?_
      refine (rn_iconst (pc := 8) (dd bX13_minimap dX13_minimap_8) (by decide)).trans ?_
      refine (rn_goto (t := 27) (pc := 9) (dd bX13_minimap dX13_minimap_9) rfl).trans ?_
      refine Eq.trans (b := vrun mX13_minimap 27 [(1, 282), (0, x1), (0, x2), (9, 0), (9, 0), (9, 0), (9, 0), (9, 0)] [(0, 1), (1, 282)] h) rfl ?_
      simp only [if_neg c1]
  refine e2.trans ?_
  exact rg_virtual (pc := 27) (dd bX13_minimap dX13_minimap_27) rfl rfl (by decide) (kc := 34) rfl s1.1 (as := [(1, 282), (0, (if ¬ (x1 < 0) ∧ ¬ (3 < x1) then (if ¬ (x2 < 0) ∧ ¬ (7 < x2) then 0 else 2) else 1))]) rfl ⟨Nat.le_of_ble_eq_true rfl, Nat.le_of_ble_eq_true rfl, Nat.le_of_ble_eq_true rfl, Nat.le_of_ble_eq_true rfl⟩
theorem rX13_minimap_30 {x1 : Int} {x2 : Int} {y0 : Int} {h : vH} (s1 : shModel h) : vrun mX13_minimap 30 [(1, 282), (0, x1), (0, x2), (9, 0), (9, 0), (9, 0), (9, 0), (9, 0)] [(0, y0)] h = if y0 = 0 then some (.inl (some (0, 0)), h) else vret vrun mX13_minimap 41 [(1, 282), (0, x1), (0, x2), (9, 0), (9, 0), (9, 0), (9, 0), (9, 0)] [] (vcl mX13_rowsAhead [(1, 282), (0, x1), (0, h 1504 282 0)] h) := by
  refine (rg_if_ne (t := 35) (pc := 30) (dd bX13_minimap dX13_minimap_30) rfl).trans (itec (fun c1 => ?_) (fun c1 => ?_))
  · refine (rn_iconst (pc := 33) (dd bX13_minimap dX13_minimap_33) (by decide)).trans ?_
    exact rn_ireturn (pc := 34) (dd bX13_minimap dX13_minimap_34) (Or.inl rfl)
  · refine (rn_aload_n (pc := 35) (dd bX13_minimap dX13_minimap_35) rfl).trans ?_
    refine (rn_iload_n (pc := 36) (dd bX13_minimap dX13_minimap_36) rfl).trans ?_
    refine (rn_aload_n (pc := 37) (dd bX13_minimap dX13_minimap_37) rfl).trans ?_
    refine (rg_gf (pc := 38) (dd bX13_minimap dX13_minimap_38) (ci := 14) (j := 4) rfl rfl (key := 1504) rfl (kc := 34) rfl s1.1 rfl).trans ?_
    exact rg_virtual (pc := 41) (dd bX13_minimap dX13_minimap_41) rfl rfl (by decide) (kc := 34) rfl s1.1 (as := [(1, 282), (0, x1), (0, h 1504 282 0)]) rfl ⟨Nat.le_of_ble_eq_true rfl, Nat.le_of_ble_eq_true rfl, Nat.le_of_ble_eq_true rfl, Nat.le_of_ble_eq_true rfl⟩
theorem rX13_minimap_44 {x1 : Int} {x2 : Int} {y0 : Int} {h : vH} (p1 : (-2147483648) ≤ x2 * y0) (p2 : x2 * y0 < 2147483648) (p3 : 0 ≤ x2 * y0) : vrun mX13_minimap 44 [(1, 282), (0, x1), (0, x2), (9, 0), (9, 0), (9, 0), (9, 0), (9, 0)] [(0, y0)] h = vrun mX13_minimap 56 [(1, 282), (0, x1), (0, x2), (0, y0), (0, 0), (0, x2 * y0 / 8), (9, 0), (9, 0)] [] h := by
  refine (rn_istore_n (pc := 44) (dd bX13_minimap dX13_minimap_44) (Nat.le_of_ble_eq_true rfl) rfl).trans ?_
  refine (rn_iconst (pc := 45) (dd bX13_minimap dX13_minimap_45) (by decide)).trans ?_
  refine (rn_istore (pc := 46) (dd bX13_minimap dX13_minimap_46) (Nat.le_of_ble_eq_true rfl) rfl).trans ?_
  refine (rn_iload_n (pc := 48) (dd bX13_minimap dX13_minimap_48) rfl).trans ?_
  refine (rn_iload_n (pc := 49) (dd bX13_minimap dX13_minimap_49) rfl).trans ?_
  refine (rg_imul (pc := 50) (dd bX13_minimap dX13_minimap_50) p1 p2).trans ?_
  refine (rn_bipush (pc := 51) (dd bX13_minimap dX13_minimap_51) (by decide)).trans ?_
  refine (rg_idiv (pc := 53) (dd bX13_minimap dX13_minimap_53) (by decide) p3 (by omega)).trans ?_
  refine (rn_istore (pc := 54) (dd bX13_minimap dX13_minimap_54) (Nat.le_of_ble_eq_true rfl) rfl).trans ?_
  rfl
theorem rX13_minimap_56 {x1 : Int} {x2 : Int} {x3 : Int} {x4 : Int} {x5 : Int} {v6 : vv} {v7 : vv} {h : vH} (p1 : (-2147483648) ≤ x2 + 1) (p2 : x2 + 1 < 2147483648) (p3 : (-2147483648) ≤ (x2 + 1) * x3) (p4 : (x2 + 1) * x3 < 2147483648) (p5 : 0 ≤ (x2 + 1) * x3) (s6 : shModel h) : vrun mX13_minimap 56 [(1, 282), (0, x1), (0, x2), (0, x3), (0, x4), (0, x5), v6, v7] [] h = if (x2 + 1) * x3 / 8 ≤ x5 then some (.inl (some (0, x4)), h) else vret vrun mX13_minimap 73 [(1, 282), (0, x1), (0, x2), (0, x3), (0, x4), (0, x5), v6, v7] [] (vcl mX13_laysRow [(1, 282), (0, x1), (0, x5)] h) := by
  refine (rn_iload (pc := 56) (dd bX13_minimap dX13_minimap_56) rfl).trans ?_
  refine (rn_iload_n (pc := 58) (dd bX13_minimap dX13_minimap_58) rfl).trans ?_
  refine (rn_iconst (pc := 59) (dd bX13_minimap dX13_minimap_59) (by decide)).trans ?_
  refine (rg_iadd (pc := 60) (dd bX13_minimap dX13_minimap_60) p1 p2).trans ?_
  refine (rn_iload_n (pc := 61) (dd bX13_minimap dX13_minimap_61) rfl).trans ?_
  refine (rg_imul (pc := 62) (dd bX13_minimap dX13_minimap_62) p3 p4).trans ?_
  refine (rn_bipush (pc := 63) (dd bX13_minimap dX13_minimap_63) (by decide)).trans ?_
  refine (rg_idiv (pc := 65) (dd bX13_minimap dX13_minimap_65) (by decide) p5 (by omega)).trans ?_
  refine (rn_icmp_ge (t := 133) (pc := 66) (dd bX13_minimap dX13_minimap_66) rfl).trans (itec (fun c1 => ?_) (fun c1 => ?_))
  · refine (rn_iload (pc := 133) (dd bX13_minimap dX13_minimap_133) rfl).trans ?_
    exact rn_ireturn (pc := 135) (dd bX13_minimap dX13_minimap_135) (Or.inl rfl)
  · refine (rn_aload_n (pc := 69) (dd bX13_minimap dX13_minimap_69) rfl).trans ?_
    refine (rn_iload_n (pc := 70) (dd bX13_minimap dX13_minimap_70) rfl).trans ?_
    refine (rn_iload (pc := 71) (dd bX13_minimap dX13_minimap_71) rfl).trans ?_
    exact rg_virtual (pc := 73) (dd bX13_minimap dX13_minimap_73) rfl rfl (by decide) (kc := 34) rfl s6.1 (as := [(1, 282), (0, x1), (0, x5)]) rfl ⟨Nat.le_of_ble_eq_true rfl, Nat.le_of_ble_eq_true rfl, Nat.le_of_ble_eq_true rfl, Nat.le_of_ble_eq_true rfl⟩
theorem rX13_minimap_76 {x1 : Int} {x2 : Int} {x3 : Int} {x4 : Int} {x5 : Int} {v6 : vv} {v7 : vv} {y0 : Int} {h : vH} (s1 : shModel h) (p2 : 0 ≤ y0) (p3 : y0 < 142) : vrun mX13_minimap 76 [(1, 282), (0, x1), (0, x2), (0, x3), (0, x4), (0, x5), v6, v7] [(0, y0)] h = vrun mX13_minimap 87 [(1, 282), (0, x1), (0, x2), (0, x3), (0, x4), (0, x5), (0, y0), (0, h 2 320 y0)] [] h := by
  refine (rn_istore (pc := 76) (dd bX13_minimap dX13_minimap_76) (Nat.le_of_ble_eq_true rfl) rfl).trans ?_
  refine (rn_aload_n (pc := 78) (dd bX13_minimap dX13_minimap_78) rfl).trans ?_
  refine (rg_gf (pc := 79) (dd bX13_minimap dX13_minimap_79) (ci := 14) (j := 39) rfl rfl (key := 1539) rfl (kc := 34) rfl s1.1 s1.2.2.2.2.2.2.2.2.2.2.2.2.2.2.2.2.2.2.2.2.2.2.2.2.2.2.2.2.2.2.2.2.2.2.2.2.2.2.2.2.2.2.2.2.2.2.2.2.2.2.2.2.2.2.2.2.2.2.2.2.2.2.2.2.2.2.2.2.2.2.2.2.2.2.2.2.2.2.2.2.2.2.2.2.2.2.2.2.2.2.2.2.2.2.2.2.2.2.2.2.2.2.2.2.2.2.2.2.2.2.2.2.1).trans ?_
  refine (rn_iload (pc := 82) (dd bX13_minimap dX13_minimap_82) rfl).trans ?_
  refine (rg_iaload (pc := 84) (dd bX13_minimap dX13_minimap_84) s1.2.2.2.2.2.2.2.2.2.2.2.2.2.2.2.2.2.2.2.2.2.2.2.2.2.2.2.2.2.2.2.2.2.2.2.2.2.2.2.2.2.2.2.2.2.2.2.2.2.2.2.2.2.2.2.2.2.2.2.2.2.2.2.2.2.2.2.2.2.2.2.2.2.2.2.2.2.2.2.2.2.2.2.2.2.2.2.2.2.2.2.2.2.2.2.2.2.2.2.2.2.2.2.2.2.2.2.2.2.2.2.2.2.1 s1.2.2.2.2.2.2.2.2.2.2.2.2.2.2.2.2.2.2.2.2.2.2.2.2.2.2.2.2.2.2.2.2.2.2.2.2.2.2.2.2.2.2.2.2.2.2.2.2.2.2.2.2.2.2.2.2.2.2.2.2.2.2.2.2.2.2.2.2.2.2.2.2.2.2.2.2.2.2.2.2.2.2.2.2.2.2.2.2.2.2.2.2.2.2.2.2.2.2.2.2.2.2.2.2.2.2.2.2.2.2.2.2.2.2.1 p2 p3 rfl).trans ?_
  refine (rn_istore (pc := 85) (dd bX13_minimap dX13_minimap_85) (Nat.le_of_ble_eq_true rfl) rfl).trans ?_
  rfl
theorem rX13_minimap_87 {x1 : Int} {x2 : Int} {x3 : Int} {x4 : Int} {x5 : Int} {x6 : Int} {x7 : Int} {h : vH} (s1 : shModel h) (p2 : (-2147483648) ≤ x6 + 1) (p3 : x6 + 1 < 2147483648) (p4 : 0 ≤ x6 + 1) (p5 : x6 + 1 < 142) (p6 : h 2 320 (x6 + 1) ≤ x7 → (-2147483648) ≤ x5 + 1) (p7 : h 2 320 (x6 + 1) ≤ x7 → x5 + 1 < 2147483648) (p8 : ¬ (h 2 320 (x6 + 1) ≤ x7) → 0 ≤ x7) (p9 : ¬ (h 2 320 (x6 + 1) ≤ x7) → x7 < 140) (p10 : ¬ (h 2 320 (x6 + 1) ≤ x7) → (-2147483648) ≤ x4 + (if ¬ (h 2 315 x7 ≤ 0) then 1 else 0)) (p11 : ¬ (h 2 320 (x6 + 1) ≤ x7) → x4 + (if ¬ (h 2 315 x7 ≤ 0) then 1 else 0) < 2147483648) : vrun mX13_minimap 87 [(1, 282), (0, x1), (0, x2), (0, x3), (0, x4), (0, x5), (0, x6), (0, x7)] [] h = if h 2 320 (x6 + 1) ≤ x7 then vrun mX13_minimap 56 [(1, 282), (0, x1), (0, x2), (0, x3), (0, x4), (0, x5 + 1), (0, x6), (0, x7)] [] h else vrun mX13_minimap 87 [(1, 282), (0, x1), (0, x2), (0, x3), (0, x4 + (if ¬ (h 2 315 x7 ≤ 0) then 1 else 0)), (0, x5), (0, x6), (0, x7 + 1)] [] h := by
  refine (rn_iload (pc := 87) (dd bX13_minimap dX13_minimap_87) rfl).trans ?_
  refine (rn_aload_n (pc := 89) (dd bX13_minimap dX13_minimap_89) rfl).trans ?_
  refine (rg_gf (pc := 90) (dd bX13_minimap dX13_minimap_90) (ci := 14) (j := 39) rfl rfl (key := 1539) rfl (kc := 34) rfl s1.1 s1.2.2.2.2.2.2.2.2.2.2.2.2.2.2.2.2.2.2.2.2.2.2.2.2.2.2.2.2.2.2.2.2.2.2.2.2.2.2.2.2.2.2.2.2.2.2.2.2.2.2.2.2.2.2.2.2.2.2.2.2.2.2.2.2.2.2.2.2.2.2.2.2.2.2.2.2.2.2.2.2.2.2.2.2.2.2.2.2.2.2.2.2.2.2.2.2.2.2.2.2.2.2.2.2.2.2.2.2.2.2.2.2.1).trans ?_
  refine (rn_iload (pc := 93) (dd bX13_minimap dX13_minimap_93) rfl).trans ?_
  refine (rn_iconst (pc := 95) (dd bX13_minimap dX13_minimap_95) (by decide)).trans ?_
  refine (rg_iadd (pc := 96) (dd bX13_minimap dX13_minimap_96) p2 p3).trans ?_
  refine (rg_iaload (pc := 97) (dd bX13_minimap dX13_minimap_97) s1.2.2.2.2.2.2.2.2.2.2.2.2.2.2.2.2.2.2.2.2.2.2.2.2.2.2.2.2.2.2.2.2.2.2.2.2.2.2.2.2.2.2.2.2.2.2.2.2.2.2.2.2.2.2.2.2.2.2.2.2.2.2.2.2.2.2.2.2.2.2.2.2.2.2.2.2.2.2.2.2.2.2.2.2.2.2.2.2.2.2.2.2.2.2.2.2.2.2.2.2.2.2.2.2.2.2.2.2.2.2.2.2.2.1 s1.2.2.2.2.2.2.2.2.2.2.2.2.2.2.2.2.2.2.2.2.2.2.2.2.2.2.2.2.2.2.2.2.2.2.2.2.2.2.2.2.2.2.2.2.2.2.2.2.2.2.2.2.2.2.2.2.2.2.2.2.2.2.2.2.2.2.2.2.2.2.2.2.2.2.2.2.2.2.2.2.2.2.2.2.2.2.2.2.2.2.2.2.2.2.2.2.2.2.2.2.2.2.2.2.2.2.2.2.2.2.2.2.2.2.1 p4 p5 rfl).trans ?_
  refine (rn_icmp_ge (t := 127) (pc := 98) (dd bX13_minimap dX13_minimap_98) rfl).trans (itec (fun c1 => ?_) (fun c1 => ?_))
  · refine (rg_iinc (pc := 127) (dd bX13_minimap dX13_minimap_127) rfl (Nat.le_of_ble_eq_true rfl) (p6 c1) (p7 c1) rfl).trans ?_
    refine (rn_goto (t := 56) (pc := 130) (dd bX13_minimap dX13_minimap_130) rfl).trans ?_
    rfl
  · refine (rn_iload (pc := 101) (dd bX13_minimap dX13_minimap_101) rfl).trans ?_
    refine (rn_aload_n (pc := 103) (dd bX13_minimap dX13_minimap_103) rfl).trans ?_
    refine (rg_gf (pc := 104) (dd bX13_minimap dX13_minimap_104) (ci := 14) (j := 34) rfl rfl (key := 1534) rfl (kc := 34) rfl s1.1 s1.2.2.2.2.2.2.2.2.2.2.2.2.2.2.2.2.2.2.2.2.2.2.2.2.2.2.2.2.2.2.2.2.2.2.2.2.2.2.2.2.2.2.2.2.2.2.2.2.2.2.2.2.2.2.2.2.2.2.2.2.2.2.2.2.2.2.2.2.2.2.2.2.2.2.2.2.2.2.2.2.2.2.2.2.2.2.2.2.2.2.2.2.2.2.2.2.2.1).trans ?_
    refine (rn_iload (pc := 107) (dd bX13_minimap dX13_minimap_107) rfl).trans ?_
    refine (rg_iaload (pc := 109) (dd bX13_minimap dX13_minimap_109) s1.2.2.2.2.2.2.2.2.2.2.2.2.2.2.2.2.2.2.2.2.2.2.2.2.2.2.2.2.2.2.2.2.2.2.2.2.2.2.2.2.2.2.2.2.2.2.2.2.2.2.2.2.2.2.2.2.2.2.2.2.2.2.2.2.2.2.2.2.2.2.2.2.2.2.2.2.2.2.2.2.2.2.2.2.2.2.2.2.2.2.2.2.2.2.2.2.2.2.1 s1.2.2.2.2.2.2.2.2.2.2.2.2.2.2.2.2.2.2.2.2.2.2.2.2.2.2.2.2.2.2.2.2.2.2.2.2.2.2.2.2.2.2.2.2.2.2.2.2.2.2.2.2.2.2.2.2.2.2.2.2.2.2.2.2.2.2.2.2.2.2.2.2.2.2.2.2.2.2.2.2.2.2.2.2.2.2.2.2.2.2.2.2.2.2.2.2.2.2.2.1 (p8 c1) (p9 c1) rfl).trans ?_
    have e1 : vrun mX13_minimap 110 [(1, 282), (0, x1), (0, x2), (0, x3), (0, x4), (0, x5), (0, x6), (0, x7)] [(0, h 2 315 x7), (0, x4)] h = vrun mX13_minimap 118 [(1, 282), (0, x1), (0, x2), (0, x3), (0, x4), (0, x5), (0, x6), (0, x7)] [(0, (if ¬ (h 2 315 x7 ≤ 0) then 1 else 0)), (0, x4)] h := by
      refine (rn_if_le (t := 117) (pc := 110) (dd bX13_minimap dX13_minimap_110) rfl).trans ?_
      by_cases c2 : h 2 315 x7 ≤ 0
      · refine (if_pos c2).trans ?_
        refine (rn_iconst (pc := 117) (dd bX13_minimap dX13_minimap_117) (by decide)).trans ?_
        refine Eq.trans (b := vrun mX13_minimap 118 [(1, 282), (0, x1), (0, x2), (0, x3), (0, x4), (0, x5), (0, x6), (0, x7)] [(0, 0), (0, x4)] h) rfl ?_
        simp only [c2, true_or, false_or, or_true, or_false, true_and, false_and, and_true, and_false, not_true_eq_false, not_false_eq_true, ne_eq, if_true, if_false, ↓reduceIte]
      · refine (if_neg c2).trans ?_
        refine (rn_iconst (pc := 113) (dd bX13_minimap dX13_minimap_113) (by decide)).trans ?_
        refine (rn_goto (t := 118) (pc := 114) (dd bX13_minimap dX13_minimap_114) rfl).trans ?_
        refine Eq.trans (b := vrun mX13_minimap 118 [(1, 282), (0, x1), (0, x2), (0, x3), (0, x4), (0, x5), (0, x6), (0, x7)] [(0, 1), (0, x4)] h) rfl ?_
        simp only [c2, true_or, false_or, or_true, or_false, true_and, false_and, and_true, and_false, not_true_eq_false, not_false_eq_true, ne_eq, if_true, if_false, ↓reduceIte]
    refine e1.trans ?_
    refine (rg_iadd (pc := 118) (dd bX13_minimap dX13_minimap_118) (p10 c1) (p11 c1)).trans ?_
    refine (rn_istore (pc := 119) (dd bX13_minimap dX13_minimap_119) (Nat.le_of_ble_eq_true rfl) rfl).trans ?_
    refine (rg_iinc (pc := 121) (dd bX13_minimap dX13_minimap_121) rfl (Nat.le_of_ble_eq_true rfl) (by have z0 := p8 c1; have z1 := p9 c1; omega) (by have z0 := p8 c1; have z1 := p9 c1; omega) rfl).trans ?_
    refine (rn_goto (t := 87) (pc := 124) (dd bX13_minimap dX13_minimap_124) rfl).trans ?_
    rfl
theorem bX13_hasRoom : vmB mX13_hasRoom = cX13_hasRoom := rfl
theorem rX13_hasRoom_0 {h : vH} : vrun mX13_hasRoom 0 [(1, 282), (9, 0), (9, 0)] [] h = vrun mX13_hasRoom 4 [(1, 282), (0, 0), (0, 0)] [] h := by
  refine (rn_iconst (pc := 0) (dd bX13_hasRoom dX13_hasRoom_0) (by decide)).trans ?_
  refine (rn_istore_n (pc := 1) (dd bX13_hasRoom dX13_hasRoom_1) (Nat.le_of_ble_eq_true rfl) rfl).trans ?_
  refine (rn_iconst (pc := 2) (dd bX13_hasRoom dX13_hasRoom_2) (by decide)).trans ?_
  refine (rn_istore_n (pc := 3) (dd bX13_hasRoom dX13_hasRoom_3) (Nat.le_of_ble_eq_true rfl) rfl).trans ?_
  rfl
theorem rX13_hasRoom_4 {x1 : Int} {x2 : Int} {h : vH} (s1 : shModel h) (p2 : ¬ (4 ≤ x2) → 0 ≤ x2) (p3 : ¬ (4 ≤ x2) → (-2147483648) ≤ x1 + (if h 2 289 x2 = 0 then 0 else (if h 2 292 x2 = (-1) then h 2 291 x2 else h 2 292 x2))) (p4 : ¬ (4 ≤ x2) → x1 + (if h 2 289 x2 = 0 then 0 else (if h 2 292 x2 = (-1) then h 2 291 x2 else h 2 292 x2)) < 2147483648) : vrun mX13_hasRoom 4 [(1, 282), (0, x1), (0, x2)] [] h = if 4 ≤ x2 then some (.inl (some (0, (if ¬ (24 < x1) then 1 else 0))), h) else vrun mX13_hasRoom 4 [(1, 282), (0, x1 + (if h 2 289 x2 = 0 then 0 else (if h 2 292 x2 = (-1) then h 2 291 x2 else h 2 292 x2))), (0, x2 + 1)] [] h := by
  refine (rn_iload_n (pc := 4) (dd bX13_hasRoom dX13_hasRoom_4) rfl).trans ?_
  refine (rn_iconst (pc := 5) (dd bX13_hasRoom dX13_hasRoom_5) (by decide)).trans ?_
  refine (rn_icmp_ge (t := 56) (pc := 6) (dd bX13_hasRoom dX13_hasRoom_6) rfl).trans (itec (fun c1 => ?_) (fun c1 => ?_))
  · refine (rn_iload_n (pc := 56) (dd bX13_hasRoom dX13_hasRoom_56) rfl).trans ?_
    refine (rn_bipush (pc := 57) (dd bX13_hasRoom dX13_hasRoom_57) (by decide)).trans ?_
    have e1 : vrun mX13_hasRoom 59 [(1, 282), (0, x1), (0, x2)] [(0, 24), (0, x1)] h = vrun mX13_hasRoom 67 [(1, 282), (0, x1), (0, x2)] [(0, (if ¬ (24 < x1) then 1 else 0))] h := by
      refine (rn_icmp_gt (t := 66) (pc := 59) (dd bX13_hasRoom dX13_hasRoom_59) rfl).trans ?_
      by_cases c2 : 24 < x1
      · refine (if_pos c2).trans ?_
        refine (rn_iconst (pc := 66) (dd bX13_hasRoom dX13_hasRoom_66) (by decide)).trans ?_
        refine Eq.trans (b := vrun mX13_hasRoom 67 [(1, 282), (0, x1), (0, x2)] [(0, 0)] h) rfl ?_
        simp only [c2, true_or, false_or, or_true, or_false, true_and, false_and, and_true, and_false, not_true_eq_false, not_false_eq_true, ne_eq, if_true, if_false, ↓reduceIte]
      · refine (if_neg c2).trans ?_
        refine (rn_iconst (pc := 62) (dd bX13_hasRoom dX13_hasRoom_62) (by decide)).trans ?_
        refine (rn_goto (t := 67) (pc := 63) (dd bX13_hasRoom dX13_hasRoom_63) rfl).trans ?_
        refine Eq.trans (b := vrun mX13_hasRoom 67 [(1, 282), (0, x1), (0, x2)] [(0, 1)] h) rfl ?_
        simp only [c2, true_or, false_or, or_true, or_false, true_and, false_and, and_true, and_false, not_true_eq_false, not_false_eq_true, ne_eq, if_true, if_false, ↓reduceIte]
    refine e1.trans ?_
    exact rn_ireturn (pc := 67) (dd bX13_hasRoom dX13_hasRoom_67) (Or.inr ⟨rfl, b01⟩)
  · refine (rn_iload_n (pc := 9) (dd bX13_hasRoom dX13_hasRoom_9) rfl).trans ?_
    refine (rn_aload_n (pc := 10) (dd bX13_hasRoom dX13_hasRoom_10) rfl).trans ?_
    refine (rg_gf (pc := 11) (dd bX13_hasRoom dX13_hasRoom_11) (ci := 14) (j := 8) rfl rfl (key := 1508) rfl (kc := 34) rfl s1.1 s1.2.2.2.2.2.2.2.2.2.2.2.2.2.2.2.2.2.2.2.1).trans ?_
    refine (rn_iload_n (pc := 14) (dd bX13_hasRoom dX13_hasRoom_14) rfl).trans ?_
    refine (rg_baload (pc := 15) (dd bX13_hasRoom dX13_hasRoom_15) s1.2.2.2.2.2.2.2.2.2.2.2.2.2.2.2.2.2.2.2.2.1 s1.2.2.2.2.2.2.2.2.2.2.2.2.2.2.2.2.2.2.2.2.2.1 (p2 c1) (Int.not_le.mp c1) rfl).trans ?_
    have e3 : vrun mX13_hasRoom 16 [(1, 282), (0, x1), (0, x2)] [(0, h 2 289 x2), (0, x1)] h = vrun mX13_hasRoom 48 [(1, 282), (0, x1), (0, x2)] [(0, (if h 2 289 x2 = 0 then 0 else (if h 2 292 x2 = (-1) then h 2 291 x2 else h 2 292 x2))), (0, x1)] h := by
      refine (rg_if_ne (t := 23) (pc := 16) (dd bX13_hasRoom dX13_hasRoom_16) rfl).trans ?_
      by_cases c3 : h 2 289 x2 = 0
      · refine (if_pos c3).trans ?_
        refine (rn_iconst (pc := 19) (dd bX13_hasRoom dX13_hasRoom_19) (by decide)).trans ?_
        refine (rn_goto (t := 48) (pc := 20) (dd bX13_hasRoom dX13_hasRoom_20) rfl).trans ?_
        refine Eq.trans (b := vrun mX13_hasRoom 48 [(1, 282), (0, x1), (0, x2)] [(0, 0), (0, x1)] h) rfl ?_
        simp only [if_pos c3]
      · refine (if_neg c3).trans ?_
        refine (rn_aload_n (pc := 23) (dd bX13_hasRoom dX13_hasRoom_23) rfl).trans ?_
        refine (rg_gf (pc := 24) (dd bX13_hasRoom dX13_hasRoom_24) (ci := 14) (j := 11) rfl rfl (key := 1511) rfl (kc := 34) rfl s1.1 s1.2.2.2.2.2.2.2.2.2.2.2.2.2.2.2.2.2.2.2.2.2.2.2.2.2.2.2.2.1).trans ?_
        refine (rn_iload_n (pc := 27) (dd bX13_hasRoom dX13_hasRoom_27) rfl).trans ?_
        refine (rg_iaload (pc := 28) (dd bX13_hasRoom dX13_hasRoom_28) s1.2.2.2.2.2.2.2.2.2.2.2.2.2.2.2.2.2.2.2.2.2.2.2.2.2.2.2.2.2.1 s1.2.2.2.2.2.2.2.2.2.2.2.2.2.2.2.2.2.2.2.2.2.2.2.2.2.2.2.2.2.2.1 (by have z0 := p2 c1; omega) (Int.not_le.mp c1) rfl).trans ?_
        refine (rn_iconst (pc := 29) (dd bX13_hasRoom dX13_hasRoom_29) (by decide)).trans ?_
        have e2 : vrun mX13_hasRoom 30 [(1, 282), (0, x1), (0, x2)] [(0, (-1)), (0, h 2 292 x2), (0, x1)] h = vrun mX13_hasRoom 48 [(1, 282), (0, x1), (0, x2)] [(0, (if h 2 292 x2 = (-1) then h 2 291 x2 else h 2 292 x2)), (0, x1)] h := by
          refine (rg_icmp_ne (t := 42) (pc := 30) (dd bX13_hasRoom dX13_hasRoom_30) rfl).trans ?_
          by_cases c4 : h 2 292 x2 = (-1)
          · refine (if_pos c4).trans ?_
            refine (rn_aload_n (pc := 33) (dd bX13_hasRoom dX13_hasRoom_33) rfl).trans ?_
            refine (rg_gf (pc := 34) (dd bX13_hasRoom dX13_hasRoom_34) (ci := 14) (j := 10) rfl rfl (key := 1510) rfl (kc := 34) rfl s1.1 s1.2.2.2.2.2.2.2.2.2.2.2.2.2.2.2.2.2.2.2.2.2.2.2.2.2.1).trans ?_
            refine (rn_iload_n (pc := 37) (dd bX13_hasRoom dX13_hasRoom_37) rfl).trans ?_
            refine (rg_iaload (pc := 38) (dd bX13_hasRoom dX13_hasRoom_38) s1.2.2.2.2.2.2.2.2.2.2.2.2.2.2.2.2.2.2.2.2.2.2.2.2.2.2.1 s1.2.2.2.2.2.2.2.2.2.2.2.2.2.2.2.2.2.2.2.2.2.2.2.2.2.2.2.1 (by have z0 := p2 c1; omega) (Int.not_le.mp c1) rfl).trans ?_
            refine (rn_goto (t := 48) (pc := 39) (dd bX13_hasRoom dX13_hasRoom_39) rfl).trans ?_
            refine Eq.trans (b := vrun mX13_hasRoom 48 [(1, 282), (0, x1), (0, x2)] [(0, h 2 291 x2), (0, x1)] h) rfl ?_
            simp only [if_pos c4]
          · refine (if_neg c4).trans ?_
            refine (rn_aload_n (pc := 42) (dd bX13_hasRoom dX13_hasRoom_42) rfl).trans ?_
            refine (rg_gf (pc := 43) (dd bX13_hasRoom dX13_hasRoom_43) (ci := 14) (j := 11) rfl rfl (key := 1511) rfl (kc := 34) rfl s1.1 s1.2.2.2.2.2.2.2.2.2.2.2.2.2.2.2.2.2.2.2.2.2.2.2.2.2.2.2.2.1).trans ?_
            refine (rn_iload_n (pc := 46) (dd bX13_hasRoom dX13_hasRoom_46) rfl).trans ?_
            refine (rg_iaload (pc := 47) (dd bX13_hasRoom dX13_hasRoom_47) s1.2.2.2.2.2.2.2.2.2.2.2.2.2.2.2.2.2.2.2.2.2.2.2.2.2.2.2.2.2.1 s1.2.2.2.2.2.2.2.2.2.2.2.2.2.2.2.2.2.2.2.2.2.2.2.2.2.2.2.2.2.2.1 (by have z0 := p2 c1; omega) (Int.not_le.mp c1) rfl).trans ?_
            refine Eq.trans (b := vrun mX13_hasRoom 48 [(1, 282), (0, x1), (0, x2)] [(0, h 2 292 x2), (0, x1)] h) rfl ?_
            simp only [if_neg c4]
        refine e2.trans ?_
        refine Eq.trans (b := vrun mX13_hasRoom 48 [(1, 282), (0, x1), (0, x2)] [(0, (if h 2 292 x2 = (-1) then h 2 291 x2 else h 2 292 x2)), (0, x1)] h) rfl ?_
        simp only [if_neg c3]
    refine e3.trans ?_
    refine (rg_iadd (pc := 48) (dd bX13_hasRoom dX13_hasRoom_48) (p3 c1) (p4 c1)).trans ?_
    refine (rn_istore_n (pc := 49) (dd bX13_hasRoom dX13_hasRoom_49) (Nat.le_of_ble_eq_true rfl) rfl).trans ?_
    refine (rg_iinc (pc := 50) (dd bX13_hasRoom dX13_hasRoom_50) rfl (Nat.le_of_ble_eq_true rfl) (by have z0 := p2 c1; omega) (by have z0 := p2 c1; omega) rfl).trans ?_
    refine (rn_goto (t := 4) (pc := 53) (dd bX13_hasRoom dX13_hasRoom_53) rfl).trans ?_
    rfl
theorem bX13_open : vmB mX13_open = cX13_open := rfl
theorem rX13_open_0 {x1 : Int} {h : vH} (s1 : shModel h) (p2 : ¬ (x1 < 0) ∧ ¬ (3 < x1) → 0 ≤ x1) (p3 : ¬ (x1 < 0) ∧ ¬ (3 < x1) → x1 < 4) (p4 : (¬ (x1 < 0) ∧ ¬ (3 < x1)) ∧ h 2 289 x1 = 0 → 0 ≤ x1) (p5 : (¬ (x1 < 0) ∧ ¬ (3 < x1)) ∧ h 2 289 x1 = 0 → x1 < 4) : vrun mX13_open 0 [(1, 282), (0, x1), (9, 0), (9, 0)] [] h = if (¬ (x1 < 0) ∧ ¬ (3 < x1)) ∧ h 2 289 x1 = 0 then vret vrun mX13_open 36 [(1, 282), (0, x1), (0, (if ¬ (x1 < 0) ∧ ¬ (3 < x1) then 1 else 0)), (0, (if (¬ (x1 < 0) ∧ ¬ (3 < x1)) ∧ h 2 289 x1 = 0 then 1 else 0))] [] (vcl mX13_hasRoom [(1, 282)] (vup h 2 289 x1 1)) else vret vrun mX13_open 65 [(1, 282), (0, x1), (0, (if ¬ (x1 < 0) ∧ ¬ (3 < x1) then 1 else 0)), (0, (if (¬ (x1 < 0) ∧ ¬ (3 < x1)) ∧ h 2 289 x1 = 0 then 1 else 0))] [] (vcl mX13_isFine [(1, 282), (0, (if ¬ (x1 < 0) ∧ ¬ (3 < x1) then (if (¬ (x1 < 0) ∧ ¬ (3 < x1)) ∧ h 2 289 x1 = 0 then 0 else 2) else 1))] h) := by
  refine (rn_iload_n (pc := 0) (dd bX13_open dX13_open_0) rfl).trans ?_
  refine (rg_static (pc := 1) (dd bX13_open dX13_open_1) rfl (by decide) (Nat.le_of_ble_eq_true rfl) (as := [(0, x1)]) rfl rfl ⟨Nat.le_of_ble_eq_true rfl, Nat.le_of_ble_eq_true rfl, Nat.le_of_ble_eq_true rfl, Nat.le_of_ble_eq_true rfl⟩).trans ?_
  refine (vret_v spX13_isPane).trans ?_
  refine (rn_istore_n (pc := 4) (dd bX13_open dX13_open_4) (Nat.le_of_ble_eq_true rfl) rfl).trans ?_
  refine (rn_iload_n (pc := 5) (dd bX13_open dX13_open_5) rfl).trans ?_
  have e2 : vrun mX13_open 6 [(1, 282), (0, x1), (0, (if ¬ (x1 < 0) ∧ ¬ (3 < x1) then 1 else 0)), (9, 0)] [(0, (if ¬ (x1 < 0) ∧ ¬ (3 < x1) then 1 else 0))] h = vrun mX13_open 23 [(1, 282), (0, x1), (0, (if ¬ (x1 < 0) ∧ ¬ (3 < x1) then 1 else 0)), (9, 0)] [(0, (if (¬ (x1 < 0) ∧ ¬ (3 < x1)) ∧ h 2 289 x1 = 0 then 1 else 0))] h := by
    refine (rg_beq (t := 22) (pc := 6) (dd bX13_open dX13_open_6) rfl).trans ?_
    by_cases c1 : ¬ (x1 < 0) ∧ ¬ (3 < x1)
    · refine (if_pos c1).trans ?_
      refine (rn_aload_n (pc := 9) (dd bX13_open dX13_open_9) rfl).trans ?_
      refine (rg_gf (pc := 10) (dd bX13_open dX13_open_10) (ci := 14) (j := 8) rfl rfl (key := 1508) rfl (kc := 34) rfl s1.1 s1.2.2.2.2.2.2.2.2.2.2.2.2.2.2.2.2.2.2.2.1).trans ?_
      refine (rn_iload_n (pc := 13) (dd bX13_open dX13_open_13) rfl).trans ?_
      refine (rg_baload (pc := 14) (dd bX13_open dX13_open_14) s1.2.2.2.2.2.2.2.2.2.2.2.2.2.2.2.2.2.2.2.2.1 s1.2.2.2.2.2.2.2.2.2.2.2.2.2.2.2.2.2.2.2.2.2.1 (p2 c1) (p3 c1) rfl).trans ?_
      have e1 : vrun mX13_open 15 [(1, 282), (0, x1), (0, (if ¬ (x1 < 0) ∧ ¬ (3 < x1) then 1 else 0)), (9, 0)] [(0, h 2 289 x1)] h = vrun mX13_open 23 [(1, 282), (0, x1), (0, (if ¬ (x1 < 0) ∧ ¬ (3 < x1) then 1 else 0)), (9, 0)] [(0, (if h 2 289 x1 = 0 then 1 else 0))] h := by
        refine (rg_if_ne (t := 22) (pc := 15) (dd bX13_open dX13_open_15) rfl).trans ?_
        by_cases c2 : h 2 289 x1 = 0
        · refine (if_pos c2).trans ?_
          refine (rn_iconst (pc := 18) (dd bX13_open dX13_open_18) (by decide)).trans ?_
          refine (rn_goto (t := 23) (pc := 19) (dd bX13_open dX13_open_19) rfl).trans ?_
          refine Eq.trans (b := vrun mX13_open 23 [(1, 282), (0, x1), (0, (if ¬ (x1 < 0) ∧ ¬ (3 < x1) then 1 else 0)), (9, 0)] [(0, 1)] h) rfl ?_
          simp only [c2, true_or, false_or, or_true, or_false, true_and, false_and, and_true, and_false, not_true_eq_false, not_false_eq_true, ne_eq, if_true, if_false, ↓reduceIte]
        · refine (if_neg c2).trans ?_
          refine (rn_iconst (pc := 22) (dd bX13_open dX13_open_22) (by decide)).trans ?_
          refine Eq.trans (b := vrun mX13_open 23 [(1, 282), (0, x1), (0, (if ¬ (x1 < 0) ∧ ¬ (3 < x1) then 1 else 0)), (9, 0)] [(0, 0)] h) rfl ?_
          simp only [c2, true_or, false_or, or_true, or_false, true_and, false_and, and_true, and_false, not_true_eq_false, not_false_eq_true, ne_eq, if_true, if_false, ↓reduceIte]
      refine e1.trans ?_
      refine Eq.trans (b := vrun mX13_open 23 [(1, 282), (0, x1), (0, (if ¬ (x1 < 0) ∧ ¬ (3 < x1) then 1 else 0)), (9, 0)] [(0, (if h 2 289 x1 = 0 then 1 else 0))] h) rfl ?_
      simp only [c1, true_or, false_or, or_true, or_false, true_and, false_and, and_true, and_false, not_true_eq_false, not_false_eq_true, ne_eq, if_true, if_false, ↓reduceIte]
    · refine (if_neg c1).trans ?_
      refine (rn_iconst (pc := 22) (dd bX13_open dX13_open_22) (by decide)).trans ?_
      refine Eq.trans (b := vrun mX13_open 23 [(1, 282), (0, x1), (0, (if ¬ (x1 < 0) ∧ ¬ (3 < x1) then 1 else 0)), (9, 0)] [(0, 0)] h) rfl ?_
      simp only [c1, true_or, false_or, or_true, or_false, true_and, false_and, and_true, and_false, not_true_eq_false, not_false_eq_true, ne_eq, if_true, if_false, ↓reduceIte]
  refine e2.trans ?_
  refine (rn_istore_n (pc := 23) (dd bX13_open dX13_open_23) (Nat.le_of_ble_eq_true rfl) rfl).trans ?_
  refine (rn_iload_n (pc := 24) (dd bX13_open dX13_open_24) rfl).trans ?_
  refine (rg_beq (t := 47) (pc := 25) (dd bX13_open dX13_open_25) rfl).trans (itec (fun c3 => ?_) (fun c3 => ?_))
  · refine (rn_aload_n (pc := 28) (dd bX13_open dX13_open_28) rfl).trans ?_
    refine (rg_gf (pc := 29) (dd bX13_open dX13_open_29) (ci := 14) (j := 8) rfl rfl (key := 1508) rfl (kc := 34) rfl s1.1 s1.2.2.2.2.2.2.2.2.2.2.2.2.2.2.2.2.2.2.2.1).trans ?_
    refine (rn_iload_n (pc := 32) (dd bX13_open dX13_open_32) rfl).trans ?_
    refine (rn_iconst (pc := 33) (dd bX13_open dX13_open_33) (by decide)).trans ?_
    refine (rg_bastore (pc := 34) (dd bX13_open dX13_open_34) s1.2.2.2.2.2.2.2.2.2.2.2.2.2.2.2.2.2.2.2.2.1 s1.2.2.2.2.2.2.2.2.2.2.2.2.2.2.2.2.2.2.2.2.2.1 (p4 c3) (p5 c3) (by decide)).trans ?_
    refine (rn_aload_n (pc := 35) (dd bX13_open dX13_open_35) rfl).trans ?_
    exact rg_virtual (pc := 36) (dd bX13_open dX13_open_36) rfl rfl (by decide) (kc := 34) rfl ((vup_k (by decide)).trans s1.1) (as := [(1, 282)]) rfl ⟨Nat.le_of_ble_eq_true rfl, Nat.le_of_ble_eq_true rfl, Nat.le_of_ble_eq_true rfl, Nat.le_of_ble_eq_true rfl⟩
  · refine (rn_aload_n (pc := 47) (dd bX13_open dX13_open_47) rfl).trans ?_
    refine (rn_iload_n (pc := 48) (dd bX13_open dX13_open_48) rfl).trans ?_
    have e4 : vrun mX13_open 49 [(1, 282), (0, x1), (0, (if ¬ (x1 < 0) ∧ ¬ (3 < x1) then 1 else 0)), (0, (if (¬ (x1 < 0) ∧ ¬ (3 < x1)) ∧ h 2 289 x1 = 0 then 1 else 0))] [(0, (if ¬ (x1 < 0) ∧ ¬ (3 < x1) then 1 else 0)), (1, 282)] h = vrun mX13_open 65 [(1, 282), (0, x1), (0, (if ¬ (x1 < 0) ∧ ¬ (3 < x1) then 1 else 0)), (0, (if (¬ (x1 < 0) ∧ ¬ (3 < x1)) ∧ h 2 289 x1 = 0 then 1 else 0))] [(0, (if ¬ (x1 < 0) ∧ ¬ (3 < x1) then (if (¬ (x1 < 0) ∧ ¬ (3 < x1)) ∧ h 2 289 x1 = 0 then 0 else 2) else 1)), (1, 282)] h := by
      refine (rg_bne (t := 56) (pc := 49) (dd bX13_open dX13_open_49) rfl).trans ?_
      by_cases c4 : ¬ (x1 < 0) ∧ ¬ (3 < x1)
      · refine (if_pos c4).trans ?_
        refine (rn_iload_n (pc := 56) (dd bX13_open dX13_open_56) rfl).trans ?_
        have e3 : vrun mX13_open 57 [(1, 282), (0, x1), (0, (if ¬ (x1 < 0) ∧ ¬ (3 < x1) then 1 else 0)), (0, (if (¬ (x1 < 0) ∧ ¬ (3 < x1)) ∧ h 2 289 x1 = 0 then 1 else 0))] [(0, (if (¬ (x1 < 0) ∧ ¬ (3 < x1)) ∧ h 2 289 x1 = 0 then 1 else 0)), (1, 282)] h = vrun mX13_open 65 [(1, 282), (0, x1), (0, (if ¬ (x1 < 0) ∧ ¬ (3 < x1) then 1 else 0)), (0, (if (¬ (x1 < 0) ∧ ¬ (3 < x1)) ∧ h 2 289 x1 = 0 then 1 else 0))] [(0, (if (¬ (x1 < 0) ∧ ¬ (3 < x1)) ∧ h 2 289 x1 = 0 then 0 else 2)), (1, 282)] h := by
          refine (rg_bne (t := 64) (pc := 57) (dd bX13_open dX13_open_57) rfl).trans ?_
          by_cases c5 : (¬ (x1 < 0) ∧ ¬ (3 < x1)) ∧ h 2 289 x1 = 0
          · refine (if_pos c5).trans ?_
            refine (rn_iconst (pc := 64) (dd bX13_open dX13_open_64) (by decide)).trans ?_
            refine Eq.trans (b := vrun mX13_open 65 [(1, 282), (0, x1), (0, (if ¬ (x1 < 0) ∧ ¬ (3 < x1) then 1 else 0)), (0, (if (¬ (x1 < 0) ∧ ¬ (3 < x1)) ∧ h 2 289 x1 = 0 then 1 else 0))] [(0, 0), (1, 282)] h) rfl ?_
            simp only [if_pos c5]
          · refine (if_neg c5).trans ?_
            refine (rn_iconst (pc := 60) (dd bX13_open dX13_open_60) (by decide)).trans ?_
            refine (rn_goto (t := 65) (pc := 61) (dd bX13_open dX13_open_61) rfl).trans ?_
            refine Eq.trans (b := vrun mX13_open 65 [(1, 282), (0, x1), (0, (if ¬ (x1 < 0) ∧ ¬ (3 < x1) then 1 else 0)), (0, (if (¬ (x1 < 0) ∧ ¬ (3 < x1)) ∧ h 2 289 x1 = 0 then 1 else 0))] [(0, 2), (1, 282)] h) rfl ?_
            simp only [if_neg c5]
        refine e3.trans ?_
        refine Eq.trans (b := vrun mX13_open 65 [(1, 282), (0, x1), (0, (if ¬ (x1 < 0) ∧ ¬ (3 < x1) then 1 else 0)), (0, (if (¬ (x1 < 0) ∧ ¬ (3 < x1)) ∧ h 2 289 x1 = 0 then 1 else 0))] [(0, (if (¬ (x1 < 0) ∧ ¬ (3 < x1)) ∧ h 2 289 x1 = 0 then 0 else 2)), (1, 282)] h) rfl ?_
        simp only [if_pos c4]
      · refine (if_neg c4).trans ?_
        refine (rn_iconst (pc := 52) (dd bX13_open dX13_open_52) (by decide)).trans ?_
        refine (rn_goto (t := 65) (pc := 53) (dd bX13_open dX13_open_53) rfl).trans ?_
        refine Eq.trans (b := vrun mX13_open 65 [(1, 282), (0, x1), (0, (if ¬ (x1 < 0) ∧ ¬ (3 < x1) then 1 else 0)), (0, (if (¬ (x1 < 0) ∧ ¬ (3 < x1)) ∧ h 2 289 x1 = 0 then 1 else 0))] [(0, 1), (1, 282)] h) rfl ?_
        simp only [if_neg c4]
    refine e4.trans ?_
    exact rg_virtual (pc := 65) (dd bX13_open dX13_open_65) rfl rfl (by decide) (kc := 34) rfl s1.1 (as := [(1, 282), (0, (if ¬ (x1 < 0) ∧ ¬ (3 < x1) then (if (¬ (x1 < 0) ∧ ¬ (3 < x1)) ∧ h 2 289 x1 = 0 then 0 else 2) else 1))]) rfl ⟨Nat.le_of_ble_eq_true rfl, Nat.le_of_ble_eq_true rfl, Nat.le_of_ble_eq_true rfl, Nat.le_of_ble_eq_true rfl⟩
theorem rX13_open_39 {x1 : Int} {x2 : Int} {x3 : Int} {y0 : Int} {h : vH} (s1 : shModel h) (p2 : 0 ≤ x1) (p3 : x1 < 4) (p4 : y0 = 0 ∨ y0 = 1) : vrun mX13_open 39 [(1, 282), (0, x1), (0, x2), (0, x3)] [(0, y0)] h = vret vrun mX13_open 65 [(1, 282), (0, x1), (0, x2), (0, y0)] [] (vcl mX13_isFine [(1, 282), (0, (if x2 = 0 then 1 else (if y0 = 0 then 2 else 0)))] (vup h 2 289 x1 y0)) := by
  refine (rn_istore_n (pc := 39) (dd bX13_open dX13_open_39) (Nat.le_of_ble_eq_true rfl) rfl).trans ?_
  refine (rn_aload_n (pc := 40) (dd bX13_open dX13_open_40) rfl).trans ?_
  refine (rg_gf (pc := 41) (dd bX13_open dX13_open_41) (ci := 14) (j := 8) rfl rfl (key := 1508) rfl (kc := 34) rfl s1.1 s1.2.2.2.2.2.2.2.2.2.2.2.2.2.2.2.2.2.2.2.1).trans ?_
  refine (rn_iload_n (pc := 44) (dd bX13_open dX13_open_44) rfl).trans ?_
  refine (rn_iload_n (pc := 45) (dd bX13_open dX13_open_45) rfl).trans ?_
  refine (rg_bastore (pc := 46) (dd bX13_open dX13_open_46) s1.2.2.2.2.2.2.2.2.2.2.2.2.2.2.2.2.2.2.2.2.1 s1.2.2.2.2.2.2.2.2.2.2.2.2.2.2.2.2.2.2.2.2.2.1 p2 p3 p4).trans ?_
  refine (rn_aload_n (pc := 47) (dd bX13_open dX13_open_47) rfl).trans ?_
  refine (rn_iload_n (pc := 48) (dd bX13_open dX13_open_48) rfl).trans ?_
  have e2 : vrun mX13_open 49 [(1, 282), (0, x1), (0, x2), (0, y0)] [(0, x2), (1, 282)] (vup h 2 289 x1 y0) = vrun mX13_open 65 [(1, 282), (0, x1), (0, x2), (0, y0)] [(0, (if x2 = 0 then 1 else (if y0 = 0 then 2 else 0))), (1, 282)] (vup h 2 289 x1 y0) := by
    refine (rg_if_ne (t := 56) (pc := 49) (dd bX13_open dX13_open_49) rfl).trans ?_
    by_cases c1 : x2 = 0
    · refine (if_pos c1).trans ?_
      refine (rn_iconst (pc := 52) (dd bX13_open dX13_open_52) (by decide)).trans ?_
      refine (rn_goto (t := 65) (pc := 53) (dd bX13_open dX13_open_53) rfl).trans ?_
      refine Eq.trans (b := vrun mX13_open 65 [(1, 282), (0, x1), (0, x2), (0, y0)] [(0, 1), (1, 282)] (vup h 2 289 x1 y0)) rfl ?_
      simp only [if_pos c1]
    · refine (if_neg c1).trans ?_
      refine (rn_iload_n (pc := 56) (dd bX13_open dX13_open_56) rfl).trans ?_
      have e1 : vrun mX13_open 57 [(1, 282), (0, x1), (0, x2), (0, y0)] [(0, y0), (1, 282)] (vup h 2 289 x1 y0) = vrun mX13_open 65 [(1, 282), (0, x1), (0, x2), (0, y0)] [(0, (if y0 = 0 then 2 else 0)), (1, 282)] (vup h 2 289 x1 y0) := by
        refine (rg_if_ne (t := 64) (pc := 57) (dd bX13_open dX13_open_57) rfl).trans ?_
        by_cases c2 : y0 = 0
        · refine (if_pos c2).trans ?_
          refine (rn_iconst (pc := 60) (dd bX13_open dX13_open_60) (by decide)).trans ?_
          refine (rn_goto (t := 65) (pc := 61) (dd bX13_open dX13_open_61) rfl).trans ?_
          refine Eq.trans (b := vrun mX13_open 65 [(1, 282), (0, x1), (0, x2), (0, y0)] [(0, 2), (1, 282)] (vup h 2 289 x1 y0)) rfl ?_
          simp only [if_pos c2]
        · refine (if_neg c2).trans ?_
          refine (rn_iconst (pc := 64) (dd bX13_open dX13_open_64) (by decide)).trans ?_
          refine Eq.trans (b := vrun mX13_open 65 [(1, 282), (0, x1), (0, x2), (0, y0)] [(0, 0), (1, 282)] (vup h 2 289 x1 y0)) rfl ?_
          simp only [if_neg c2]
      refine e1.trans ?_
      refine Eq.trans (b := vrun mX13_open 65 [(1, 282), (0, x1), (0, x2), (0, y0)] [(0, (if y0 = 0 then 2 else 0)), (1, 282)] (vup h 2 289 x1 y0)) rfl ?_
      simp only [if_neg c1]
  refine e2.trans ?_
  exact rg_virtual (pc := 65) (dd bX13_open dX13_open_65) rfl rfl (by decide) (kc := 34) rfl ((vup_k (by decide)).trans s1.1) (as := [(1, 282), (0, (if x2 = 0 then 1 else (if y0 = 0 then 2 else 0)))]) rfl ⟨Nat.le_of_ble_eq_true rfl, Nat.le_of_ble_eq_true rfl, Nat.le_of_ble_eq_true rfl, Nat.le_of_ble_eq_true rfl⟩
theorem rX13_open_68 {x1 : Int} {x2 : Int} {x3 : Int} {y0 : Int} {h : vH} (s1 : shModel h) : vrun mX13_open 68 [(1, 282), (0, x1), (0, x2), (0, x3)] [(0, y0)] h = if y0 = 0 then some (.inl (some (0, 0)), h) else vret vrun mX13_open 74 [(1, 282), (0, x1), (0, x2), (0, x3)] [] (vcl mX13_shares [(1, 282)] h) := by
  refine (rg_if_ne (t := 73) (pc := 68) (dd bX13_open dX13_open_68) rfl).trans (itec (fun c1 => ?_) (fun c1 => ?_))
  · refine (rn_iconst (pc := 71) (dd bX13_open dX13_open_71) (by decide)).trans ?_
    exact rn_ireturn (pc := 72) (dd bX13_open dX13_open_72) (Or.inl rfl)
  · refine (rn_aload_n (pc := 73) (dd bX13_open dX13_open_73) rfl).trans ?_
    exact rg_virtual (pc := 74) (dd bX13_open dX13_open_74) rfl rfl (by decide) (kc := 34) rfl s1.1 (as := [(1, 282)]) rfl ⟨Nat.le_of_ble_eq_true rfl, Nat.le_of_ble_eq_true rfl, Nat.le_of_ble_eq_true rfl, Nat.le_of_ble_eq_true rfl⟩
theorem rX13_open_77 {x1 : Int} {x2 : Int} {x3 : Int} {h : vH} (s1 : shModel h) (p2 : 0 ≤ x1) (p3 : x1 < 4) : vrun mX13_open 77 [(1, 282), (0, x1), (0, x2), (0, x3)] [] h = some (.inl (some (0, h 2 310 x1)), h) := by
  refine (rn_aload_n (pc := 77) (dd bX13_open dX13_open_77) rfl).trans ?_
  refine (rg_gf (pc := 78) (dd bX13_open dX13_open_78) (ci := 14) (j := 29) rfl rfl (key := 1529) rfl (kc := 34) rfl s1.1 s1.2.2.2.2.2.2.2.2.2.2.2.2.2.2.2.2.2.2.2.2.2.2.2.2.2.2.2.2.2.2.2.2.2.2.2.2.2.2.2.2.2.2.2.2.2.2.2.2.2.2.2.2.2.2.2.2.2.2.2.2.2.2.2.2.2.2.2.2.2.2.2.2.2.2.2.2.2.2.2.2.2.2.1).trans ?_
  refine (rn_iload_n (pc := 81) (dd bX13_open dX13_open_81) rfl).trans ?_
  refine (rg_iaload (pc := 82) (dd bX13_open dX13_open_82) s1.2.2.2.2.2.2.2.2.2.2.2.2.2.2.2.2.2.2.2.2.2.2.2.2.2.2.2.2.2.2.2.2.2.2.2.2.2.2.2.2.2.2.2.2.2.2.2.2.2.2.2.2.2.2.2.2.2.2.2.2.2.2.2.2.2.2.2.2.2.2.2.2.2.2.2.2.2.2.2.2.2.2.2.1 s1.2.2.2.2.2.2.2.2.2.2.2.2.2.2.2.2.2.2.2.2.2.2.2.2.2.2.2.2.2.2.2.2.2.2.2.2.2.2.2.2.2.2.2.2.2.2.2.2.2.2.2.2.2.2.2.2.2.2.2.2.2.2.2.2.2.2.2.2.2.2.2.2.2.2.2.2.2.2.2.2.2.2.2.2.1 p2 p3 rfl).trans ?_
  exact rn_ireturn (pc := 83) (dd bX13_open dX13_open_83) (Or.inl rfl)
theorem bX13_opened : vmB mX13_opened = cX13_opened := rfl
theorem rX13_opened_0 {h : vH} : vrun mX13_opened 0 [(1, 282), (9, 0), (9, 0)] [] h = vrun mX13_opened 4 [(1, 282), (0, 0), (0, 0)] [] h := by
  refine (rn_iconst (pc := 0) (dd bX13_opened dX13_opened_0) (by decide)).trans ?_
  refine (rn_istore_n (pc := 1) (dd bX13_opened dX13_opened_1) (Nat.le_of_ble_eq_true rfl) rfl).trans ?_
  refine (rn_iconst (pc := 2) (dd bX13_opened dX13_opened_2) (by decide)).trans ?_
  refine (rn_istore_n (pc := 3) (dd bX13_opened dX13_opened_3) (Nat.le_of_ble_eq_true rfl) rfl).trans ?_
  rfl
theorem rX13_opened_4 {x1 : Int} {x2 : Int} {h : vH} (s1 : shModel h) (p2 : ¬ (4 ≤ x2) → 0 ≤ x2) (p3 : ¬ (4 ≤ x2) → (-2147483648) ≤ x1 + (if ¬ (h 2 289 x2 = 0) then 1 else 0)) (p4 : ¬ (4 ≤ x2) → x1 + (if ¬ (h 2 289 x2 = 0) then 1 else 0) < 2147483648) : vrun mX13_opened 4 [(1, 282), (0, x1), (0, x2)] [] h = if 4 ≤ x2 then some (.inl (some (0, x1)), h) else vrun mX13_opened 4 [(1, 282), (0, x1 + (if ¬ (h 2 289 x2 = 0) then 1 else 0)), (0, x2 + 1)] [] h := by
  refine (rn_iload_n (pc := 4) (dd bX13_opened dX13_opened_4) rfl).trans ?_
  refine (rn_iconst (pc := 5) (dd bX13_opened dX13_opened_5) (by decide)).trans ?_
  refine (rn_icmp_ge (t := 32) (pc := 6) (dd bX13_opened dX13_opened_6) rfl).trans (itec (fun c1 => ?_) (fun c1 => ?_))
  · refine (rn_iload_n (pc := 32) (dd bX13_opened dX13_opened_32) rfl).trans ?_
    exact rn_ireturn (pc := 33) (dd bX13_opened dX13_opened_33) (Or.inl rfl)
  · refine (rn_iload_n (pc := 9) (dd bX13_opened dX13_opened_9) rfl).trans ?_
    refine (rn_aload_n (pc := 10) (dd bX13_opened dX13_opened_10) rfl).trans ?_
    refine (rg_gf (pc := 11) (dd bX13_opened dX13_opened_11) (ci := 14) (j := 8) rfl rfl (key := 1508) rfl (kc := 34) rfl s1.1 s1.2.2.2.2.2.2.2.2.2.2.2.2.2.2.2.2.2.2.2.1).trans ?_
    refine (rn_iload_n (pc := 14) (dd bX13_opened dX13_opened_14) rfl).trans ?_
    refine (rg_baload (pc := 15) (dd bX13_opened dX13_opened_15) s1.2.2.2.2.2.2.2.2.2.2.2.2.2.2.2.2.2.2.2.2.1 s1.2.2.2.2.2.2.2.2.2.2.2.2.2.2.2.2.2.2.2.2.2.1 (p2 c1) (Int.not_le.mp c1) rfl).trans ?_
    have e1 : vrun mX13_opened 16 [(1, 282), (0, x1), (0, x2)] [(0, h 2 289 x2), (0, x1)] h = vrun mX13_opened 24 [(1, 282), (0, x1), (0, x2)] [(0, (if ¬ (h 2 289 x2 = 0) then 1 else 0)), (0, x1)] h := by
      refine (rn_if_eq (t := 23) (pc := 16) (dd bX13_opened dX13_opened_16) rfl).trans ?_
      by_cases c2 : h 2 289 x2 = 0
      · refine (if_pos c2).trans ?_
        refine (rn_iconst (pc := 23) (dd bX13_opened dX13_opened_23) (by decide)).trans ?_
        refine Eq.trans (b := vrun mX13_opened 24 [(1, 282), (0, x1), (0, x2)] [(0, 0), (0, x1)] h) rfl ?_
        simp only [c2, true_or, false_or, or_true, or_false, true_and, false_and, and_true, and_false, not_true_eq_false, not_false_eq_true, ne_eq, if_true, if_false, ↓reduceIte]
      · refine (if_neg c2).trans ?_
        refine (rn_iconst (pc := 19) (dd bX13_opened dX13_opened_19) (by decide)).trans ?_
        refine (rn_goto (t := 24) (pc := 20) (dd bX13_opened dX13_opened_20) rfl).trans ?_
        refine Eq.trans (b := vrun mX13_opened 24 [(1, 282), (0, x1), (0, x2)] [(0, 1), (0, x1)] h) rfl ?_
        simp only [c2, true_or, false_or, or_true, or_false, true_and, false_and, and_true, and_false, not_true_eq_false, not_false_eq_true, ne_eq, if_true, if_false, ↓reduceIte]
    refine e1.trans ?_
    refine (rg_iadd (pc := 24) (dd bX13_opened dX13_opened_24) (p3 c1) (p4 c1)).trans ?_
    refine (rn_istore_n (pc := 25) (dd bX13_opened dX13_opened_25) (Nat.le_of_ble_eq_true rfl) rfl).trans ?_
    refine (rg_iinc (pc := 26) (dd bX13_opened dX13_opened_26) rfl (Nat.le_of_ble_eq_true rfl) (by have z0 := p2 c1; omega) (by have z0 := p2 c1; omega) rfl).trans ?_
    refine (rn_goto (t := 4) (pc := 29) (dd bX13_opened dX13_opened_29) rfl).trans ?_
    rfl
theorem bX13_close : vmB mX13_close = cX13_close := rfl
theorem rX13_close_0 {x1 : Int} {h : vH} (s1 : shModel h) (p2 : ¬ (x1 < 0) ∧ ¬ (3 < x1) → 0 ≤ x1) (p3 : ¬ (x1 < 0) ∧ ¬ (3 < x1) → x1 < 4) : vrun mX13_close 0 [(1, 282), (0, x1), (9, 0)] [] h = if ¬ (x1 < 0) ∧ ¬ (3 < x1) then if h 2 289 x1 = 0 then vret vrun mX13_close 36 [(1, 282), (0, x1), (0, (if ¬ (x1 < 0) ∧ ¬ (3 < x1) then 1 else 0))] [] (vcl mX13_isFine [(1, 282), (0, 2)] h) else vret vrun mX13_close 24 [(1, 282), (0, x1), (0, (if ¬ (x1 < 0) ∧ ¬ (3 < x1) then 1 else 0))] [(1, 282)] (vcl mX13_opened [(1, 282)] h) else vret vrun mX13_close 36 [(1, 282), (0, x1), (0, (if ¬ (x1 < 0) ∧ ¬ (3 < x1) then 1 else 0))] [] (vcl mX13_isFine [(1, 282), (0, 1)] h) := by
  refine (rn_iload_n (pc := 0) (dd bX13_close dX13_close_0) rfl).trans ?_
  refine (rg_static (pc := 1) (dd bX13_close dX13_close_1) rfl (by decide) (Nat.le_of_ble_eq_true rfl) (as := [(0, x1)]) rfl rfl ⟨Nat.le_of_ble_eq_true rfl, Nat.le_of_ble_eq_true rfl, Nat.le_of_ble_eq_true rfl, Nat.le_of_ble_eq_true rfl⟩).trans ?_
  refine (vret_v spX13_isPane).trans ?_
  refine (rn_istore_n (pc := 4) (dd bX13_close dX13_close_4) (Nat.le_of_ble_eq_true rfl) rfl).trans ?_
  refine (rn_aload_n (pc := 5) (dd bX13_close dX13_close_5) rfl).trans ?_
  refine (rn_iload_n (pc := 6) (dd bX13_close dX13_close_6) rfl).trans ?_
  refine (rg_bne (t := 14) (pc := 7) (dd bX13_close dX13_close_7) rfl).trans (itec (fun c1 => ?_) (fun c1 => ?_))
  · refine (rn_aload_n (pc := 14) (dd bX13_close dX13_close_14) rfl).trans ?_
    refine (rg_gf (pc := 15) (dd bX13_close dX13_close_15) (ci := 14) (j := 8) rfl rfl (key := 1508) rfl (kc := 34) rfl s1.1 s1.2.2.2.2.2.2.2.2.2.2.2.2.2.2.2.2.2.2.2.1).trans ?_
    refine (rn_iload_n (pc := 18) (dd bX13_close dX13_close_18) rfl).trans ?_
    refine (rg_baload (pc := 19) (dd bX13_close dX13_close_19) s1.2.2.2.2.2.2.2.2.2.2.2.2.2.2.2.2.2.2.2.2.1 s1.2.2.2.2.2.2.2.2.2.2.2.2.2.2.2.2.2.2.2.2.2.1 (p2 c1) (p3 c1) rfl).trans ?_
    refine (rn_if_eq (t := 31) (pc := 20) (dd bX13_close dX13_close_20) rfl).trans (itec (fun c2 => ?_) (fun c2 => ?_))
    · refine (rn_iconst (pc := 31) (dd bX13_close dX13_close_31) (by decide)).trans ?_
      refine (rn_goto (t := 36) (pc := 32) (dd bX13_close dX13_close_32) rfl).trans ?_
      exact rg_virtual (pc := 36) (dd bX13_close dX13_close_36) rfl rfl (by decide) (kc := 34) rfl s1.1 (as := [(1, 282), (0, 2)]) rfl ⟨Nat.le_of_ble_eq_true rfl, Nat.le_of_ble_eq_true rfl, Nat.le_of_ble_eq_true rfl, Nat.le_of_ble_eq_true rfl⟩
    · refine (rn_aload_n (pc := 23) (dd bX13_close dX13_close_23) rfl).trans ?_
      exact rg_virtual (pc := 24) (dd bX13_close dX13_close_24) rfl rfl (by decide) (kc := 34) rfl s1.1 (as := [(1, 282)]) rfl ⟨Nat.le_of_ble_eq_true rfl, Nat.le_of_ble_eq_true rfl, Nat.le_of_ble_eq_true rfl, Nat.le_of_ble_eq_true rfl⟩
  · refine (rn_iconst (pc := 10) (dd bX13_close dX13_close_10) (by decide)).trans ?_
    refine (rn_goto (t := 36) (pc := 11) (dd bX13_close dX13_close_11) rfl).trans ?_
    exact rg_virtual (pc := 36) (dd bX13_close dX13_close_36) rfl rfl (by decide) (kc := 34) rfl s1.1 (as := [(1, 282), (0, 1)]) rfl ⟨Nat.le_of_ble_eq_true rfl, Nat.le_of_ble_eq_true rfl, Nat.le_of_ble_eq_true rfl, Nat.le_of_ble_eq_true rfl⟩
theorem rX13_close_39 {x1 : Int} {x2 : Int} {y0 : Int} {h : vH} (s1 : shModel h) (p2 : ¬ (y0 = 0) → 0 ≤ x1) (p3 : ¬ (y0 = 0) → x1 < 4) : vrun mX13_close 39 [(1, 282), (0, x1), (0, x2)] [(0, y0)] h = if y0 = 0 then some (.inl (some (0, 0)), h) else vret vrun mX13_close 52 [(1, 282), (0, x1), (0, x2)] [] (vcl mX13_shares [(1, 282)] (vup h 2 289 x1 0)) := by
  refine (rg_if_ne (t := 44) (pc := 39) (dd bX13_close dX13_close_39) rfl).trans (itec (fun c1 => ?_) (fun c1 => ?_))
  · refine (rn_iconst (pc := 42) (dd bX13_close dX13_close_42) (by decide)).trans ?_
    exact rn_ireturn (pc := 43) (dd bX13_close dX13_close_43) (Or.inl rfl)
  · refine (rn_aload_n (pc := 44) (dd bX13_close dX13_close_44) rfl).trans ?_
    refine (rg_gf (pc := 45) (dd bX13_close dX13_close_45) (ci := 14) (j := 8) rfl rfl (key := 1508) rfl (kc := 34) rfl s1.1 s1.2.2.2.2.2.2.2.2.2.2.2.2.2.2.2.2.2.2.2.1).trans ?_
    refine (rn_iload_n (pc := 48) (dd bX13_close dX13_close_48) rfl).trans ?_
    refine (rn_iconst (pc := 49) (dd bX13_close dX13_close_49) (by decide)).trans ?_
    refine (rg_bastore (pc := 50) (dd bX13_close dX13_close_50) s1.2.2.2.2.2.2.2.2.2.2.2.2.2.2.2.2.2.2.2.2.1 s1.2.2.2.2.2.2.2.2.2.2.2.2.2.2.2.2.2.2.2.2.2.1 (p2 c1) (p3 c1) (by decide)).trans ?_
    refine (rn_aload_n (pc := 51) (dd bX13_close dX13_close_51) rfl).trans ?_
    exact rg_virtual (pc := 52) (dd bX13_close dX13_close_52) rfl rfl (by decide) (kc := 34) rfl ((vup_k (by decide)).trans s1.1) (as := [(1, 282)]) rfl ⟨Nat.le_of_ble_eq_true rfl, Nat.le_of_ble_eq_true rfl, Nat.le_of_ble_eq_true rfl, Nat.le_of_ble_eq_true rfl⟩
theorem rX13_close_27 {x1 : Int} {x2 : Int} {y0 : Int} {h : vH} (s1 : shModel h) : vrun mX13_close 27 [(1, 282), (0, x1), (0, x2)] [(0, y0), (1, 282)] h = vret vrun mX13_close 36 [(1, 282), (0, x1), (0, x2)] [] (vcl mX13_isFine [(1, 282), (0, (if y0 = 1 then 2 else 0))] h) := by
  refine (rn_iconst (pc := 27) (dd bX13_close dX13_close_27) (by decide)).trans ?_
  have e1 : vrun mX13_close 28 [(1, 282), (0, x1), (0, x2)] [(0, 1), (0, y0), (1, 282)] h = vrun mX13_close 36 [(1, 282), (0, x1), (0, x2)] [(0, (if y0 = 1 then 2 else 0)), (1, 282)] h := by
    refine (rg_icmp_ne (t := 35) (pc := 28) (dd bX13_close dX13_close_28) rfl).trans ?_
    by_cases c1 : y0 = 1
    · refine (if_pos c1).trans ?_
      refine (rn_iconst (pc := 31) (dd bX13_close dX13_close_31) (by decide)).trans ?_
      refine (rn_goto (t := 36) (pc := 32) (dd bX13_close dX13_close_32) rfl).trans ?_
      refine Eq.trans (b := vrun mX13_close 36 [(1, 282), (0, x1), (0, x2)] [(0, 2), (1, 282)] h) rfl ?_
      simp only [if_pos c1]
    · refine (if_neg c1).trans ?_
      refine (rn_iconst (pc := 35) (dd bX13_close dX13_close_35) (by decide)).trans ?_
      refine Eq.trans (b := vrun mX13_close 36 [(1, 282), (0, x1), (0, x2)] [(0, 0), (1, 282)] h) rfl ?_
      simp only [if_neg c1]
  refine e1.trans ?_
  exact rg_virtual (pc := 36) (dd bX13_close dX13_close_36) rfl rfl (by decide) (kc := 34) rfl s1.1 (as := [(1, 282), (0, (if y0 = 1 then 2 else 0))]) rfl ⟨Nat.le_of_ble_eq_true rfl, Nat.le_of_ble_eq_true rfl, Nat.le_of_ble_eq_true rfl, Nat.le_of_ble_eq_true rfl⟩
theorem rX13_close_55 {x1 : Int} {x2 : Int} {h : vH} (s1 : shModel h) : vrun mX13_close 55 [(1, 282), (0, x1), (0, x2)] [] h = vret vrun mX13_close 56 [(1, 282), (0, x1), (0, x2)] [] (vcl mX13_opened [(1, 282)] h) := by
  refine (rn_aload_n (pc := 55) (dd bX13_close dX13_close_55) rfl).trans ?_
  exact rg_virtual (pc := 56) (dd bX13_close dX13_close_56) rfl rfl (by decide) (kc := 34) rfl s1.1 (as := [(1, 282)]) rfl ⟨Nat.le_of_ble_eq_true rfl, Nat.le_of_ble_eq_true rfl, Nat.le_of_ble_eq_true rfl, Nat.le_of_ble_eq_true rfl⟩
theorem rX13_close_59 {x1 : Int} {x2 : Int} {y0 : Int} {h : vH} : vrun mX13_close 59 [(1, 282), (0, x1), (0, x2)] [(0, y0)] h = some (.inl (some (0, y0)), h) := by
  exact rn_ireturn (pc := 59) (dd bX13_close dX13_close_59) (Or.inl rfl)
theorem bX13_share : vmB mX13_share = cX13_share := rfl
theorem rX13_share_0 {x1 : Int} {x2 : Int} {x3 : Int} {x4 : Int} {h : vH} (s1 : shModel h) (p2 : (¬ (x1 < 0) ∧ ¬ (3 < x1)) ∧ (¬ (x2 < 1) ∧ ¬ (9 < x2)) ∧ (¬ (x3 < 1) ∧ ¬ (8 < x3)) ∧ (x4 = (-1) ∨ ¬ (x4 < 1) ∧ ¬ (16 < x4)) → 0 ≤ x1) (p3 : (¬ (x1 < 0) ∧ ¬ (3 < x1)) ∧ (¬ (x2 < 1) ∧ ¬ (9 < x2)) ∧ (¬ (x3 < 1) ∧ ¬ (8 < x3)) ∧ (x4 = (-1) ∨ ¬ (x4 < 1) ∧ ¬ (16 < x4)) → x1 < 4) : vrun mX13_share 0 [(1, 282), (0, x1), (0, x2), (0, x3), (0, x4), (9, 0), (9, 0), (9, 0), (9, 0), (9, 0)] [] h = if (¬ (x1 < 0) ∧ ¬ (3 < x1)) ∧ (¬ (x2 < 1) ∧ ¬ (9 < x2)) ∧ (¬ (x3 < 1) ∧ ¬ (8 < x3)) ∧ (x4 = (-1) ∨ ¬ (x4 < 1) ∧ ¬ (16 < x4)) then if h 2 289 x1 = 0 then vret vrun mX13_share 190 [(1, 282), (0, x1), (0, x2), (0, x3), (0, x4), (0, (if ¬ (x1 < 0) ∧ ¬ (3 < x1) then 1 else 0)), (0, (if (¬ (x2 < 1) ∧ ¬ (9 < x2)) ∧ (¬ (x3 < 1) ∧ ¬ (8 < x3)) ∧ (x4 = (-1) ∨ ¬ (x4 < 1) ∧ ¬ (16 < x4)) then 1 else 0)), (0, 1), (0, h 2 291 x1), (0, h 2 292 x1)] [] (vcl mX13_isFine [(1, 282), (0, (if ¬ (x1 < 0) ∧ ¬ (3 < x1) then (if (¬ (x2 < 1) ∧ ¬ (9 < x2)) ∧ (¬ (x3 < 1) ∧ ¬ (8 < x3)) ∧ (x4 = (-1) ∨ ¬ (x4 < 1) ∧ ¬ (16 < x4)) then 0 else 2) else 1))] (vup (vup (vup (vup h 2 291 x1 x3) 2 292 x1 x4) 2 291 x1 x3) 2 292 x1 x4)) else vret vrun mX13_share 113 [(1, 282), (0, x1), (0, x2), (0, x3), (0, x4), (0, (if ¬ (x1 < 0) ∧ ¬ (3 < x1) then 1 else 0)), (0, (if (¬ (x2 < 1) ∧ ¬ (9 < x2)) ∧ (¬ (x3 < 1) ∧ ¬ (8 < x3)) ∧ (x4 = (-1) ∨ ¬ (x4 < 1) ∧ ¬ (16 < x4)) then 1 else 0)), (0, (if (¬ (x1 < 0) ∧ ¬ (3 < x1)) ∧ (¬ (x2 < 1) ∧ ¬ (9 < x2)) ∧ (¬ (x3 < 1) ∧ ¬ (8 < x3)) ∧ (x4 = (-1) ∨ ¬ (x4 < 1) ∧ ¬ (16 < x4)) then 1 else 0)), (0, h 2 291 x1), (0, h 2 292 x1)] [] (vcl mX13_hasRoom [(1, 282)] (vup (vup h 2 291 x1 x3) 2 292 x1 x4)) else vret vrun mX13_share 190 [(1, 282), (0, x1), (0, x2), (0, x3), (0, x4), (0, (if ¬ (x1 < 0) ∧ ¬ (3 < x1) then 1 else 0)), (0, (if (¬ (x2 < 1) ∧ ¬ (9 < x2)) ∧ (¬ (x3 < 1) ∧ ¬ (8 < x3)) ∧ (x4 = (-1) ∨ ¬ (x4 < 1) ∧ ¬ (16 < x4)) then 1 else 0)), (0, (if (¬ (x1 < 0) ∧ ¬ (3 < x1)) ∧ (¬ (x2 < 1) ∧ ¬ (9 < x2)) ∧ (¬ (x3 < 1) ∧ ¬ (8 < x3)) ∧ (x4 = (-1) ∨ ¬ (x4 < 1) ∧ ¬ (16 < x4)) then 1 else 0)), (9, 0), (9, 0)] [] (vcl mX13_isFine [(1, 282), (0, (if ¬ (x1 < 0) ∧ ¬ (3 < x1) then (if (¬ (x2 < 1) ∧ ¬ (9 < x2)) ∧ (¬ (x3 < 1) ∧ ¬ (8 < x3)) ∧ (x4 = (-1) ∨ ¬ (x4 < 1) ∧ ¬ (16 < x4)) then (if (¬ (x1 < 0) ∧ ¬ (3 < x1)) ∧ (¬ (x2 < 1) ∧ ¬ (9 < x2)) ∧ (¬ (x3 < 1) ∧ ¬ (8 < x3)) ∧ (x4 = (-1) ∨ ¬ (x4 < 1) ∧ ¬ (16 < x4)) then 0 else 3) else 2) else 1))] h) := by
  refine (rn_iload_n (pc := 0) (dd bX13_share dX13_share_0) rfl).trans ?_
  refine (rg_static (pc := 1) (dd bX13_share dX13_share_1) rfl (by decide) (Nat.le_of_ble_eq_true rfl) (as := [(0, x1)]) rfl rfl ⟨Nat.le_of_ble_eq_true rfl, Nat.le_of_ble_eq_true rfl, Nat.le_of_ble_eq_true rfl, Nat.le_of_ble_eq_true rfl⟩).trans ?_
  refine (vret_v spX13_isPane).trans ?_
  refine (rn_istore (pc := 4) (dd bX13_share dX13_share_4) (Nat.le_of_ble_eq_true rfl) rfl).trans ?_
  refine (rn_iload_n (pc := 6) (dd bX13_share dX13_share_6) rfl).trans ?_
  refine (rn_iconst (pc := 7) (dd bX13_share dX13_share_7) (by decide)).trans ?_
  refine (rn_bipush (pc := 8) (dd bX13_share dX13_share_8) (by decide)).trans ?_
  refine (rg_static (pc := 10) (dd bX13_share dX13_share_10) rfl (by decide) (Nat.le_of_ble_eq_true rfl) (as := [(0, x2), (0, 1), (0, 9)]) rfl rfl ⟨Nat.le_of_ble_eq_true rfl, Nat.le_of_ble_eq_true rfl, Nat.le_of_ble_eq_true rfl, Nat.le_of_ble_eq_true rfl⟩).trans ?_
  refine (vret_v spX13_isIn).trans ?_
  have e4 : vrun mX13_share 13 [(1, 282), (0, x1), (0, x2), (0, x3), (0, x4), (0, (if ¬ (x1 < 0) ∧ ¬ (3 < x1) then 1 else 0)), (9, 0), (9, 0), (9, 0), (9, 0)] [(0, (if ¬ (x2 < 1) ∧ ¬ (9 < x2) then 1 else 0))] h = vrun mX13_share 48 [(1, 282), (0, x1), (0, x2), (0, x3), (0, x4), (0, (if ¬ (x1 < 0) ∧ ¬ (3 < x1) then 1 else 0)), (9, 0), (9, 0), (9, 0), (9, 0)] [(0, (if (¬ (x2 < 1) ∧ ¬ (9 < x2)) ∧ (¬ (x3 < 1) ∧ ¬ (8 < x3)) ∧ (x4 = (-1) ∨ ¬ (x4 < 1) ∧ ¬ (16 < x4)) then 1 else 0))] h := by
    refine (rg_beq (t := 47) (pc := 13) (dd bX13_share dX13_share_13) rfl).trans ?_
    by_cases c1 : ¬ (x2 < 1) ∧ ¬ (9 < x2)
    · refine (if_pos c1).trans ?_
      refine (rn_iload_n (pc := 16) (dd bX13_share dX13_share_16) rfl).trans ?_
      refine (rn_iconst (pc := 17) (dd bX13_share dX13_share_17) (by decide)).trans ?_
      refine (rn_bipush (pc := 18) (dd bX13_share dX13_share_18) (by decide)).trans ?_
      refine (rg_static (pc := 20) (dd bX13_share dX13_share_20) rfl (by decide) (Nat.le_of_ble_eq_true rfl) (as := [(0, x3), (0, 1), (0, 8)]) rfl rfl ⟨Nat.le_of_ble_eq_true rfl, Nat.le_of_ble_eq_true rfl, Nat.le_of_ble_eq_true rfl, Nat.le_of_ble_eq_true rfl⟩).trans ?_
      refine (vret_v spX13_isIn).trans ?_
      have e3 : vrun mX13_share 23 [(1, 282), (0, x1), (0, x2), (0, x3), (0, x4), (0, (if ¬ (x1 < 0) ∧ ¬ (3 < x1) then 1 else 0)), (9, 0), (9, 0), (9, 0), (9, 0)] [(0, (if ¬ (x3 < 1) ∧ ¬ (8 < x3) then 1 else 0))] h = vrun mX13_share 48 [(1, 282), (0, x1), (0, x2), (0, x3), (0, x4), (0, (if ¬ (x1 < 0) ∧ ¬ (3 < x1) then 1 else 0)), (9, 0), (9, 0), (9, 0), (9, 0)] [(0, (if (¬ (x3 < 1) ∧ ¬ (8 < x3)) ∧ (x4 = (-1) ∨ ¬ (x4 < 1) ∧ ¬ (16 < x4)) then 1 else 0))] h := by
        refine (rg_beq (t := 47) (pc := 23) (dd bX13_share dX13_share_23) rfl).trans ?_
        by_cases c2 : ¬ (x3 < 1) ∧ ¬ (8 < x3)
        · refine (if_pos c2).trans ?_
          refine (rn_iload (pc := 26) (dd bX13_share dX13_share_26) rfl).trans ?_
          refine (rn_iconst (pc := 28) (dd bX13_share dX13_share_28) (by decide)).trans ?_
          have e2 : vrun mX13_share 29 [(1, 282), (0, x1), (0, x2), (0, x3), (0, x4), (0, (if ¬ (x1 < 0) ∧ ¬ (3 < x1) then 1 else 0)), (9, 0), (9, 0), (9, 0), (9, 0)] [(0, (-1)), (0, x4)] h = vrun mX13_share 48 [(1, 282), (0, x1), (0, x2), (0, x3), (0, x4), (0, (if ¬ (x1 < 0) ∧ ¬ (3 < x1) then 1 else 0)), (9, 0), (9, 0), (9, 0), (9, 0)] [(0, (if x4 = (-1) ∨ ¬ (x4 < 1) ∧ ¬ (16 < x4) then 1 else 0))] h := by
            refine (rn_icmp_eq (t := 43) (pc := 29) (dd bX13_share dX13_share_29) rfl).trans ?_
            by_cases c3 : x4 = (-1)
            · refine (if_pos c3).trans ?_
              refine (rn_iconst (pc := 43) (dd bX13_share dX13_share_43) (by decide)).trans ?_
              refine (rn_goto (t := 48) (pc := 44) (dd bX13_share dX13_share_44) rfl).trans ?_
              refine Eq.trans (b := vrun mX13_share 48 [(1, 282), (0, x1), (0, x2), (0, x3), (0, x4), (0, (if ¬ (x1 < 0) ∧ ¬ (3 < x1) then 1 else 0)), (9, 0), (9, 0), (9, 0), (9, 0)] [(0, 1)] h) rfl ?_
              simp only [c3, true_or, false_or, or_true, or_false, true_and, false_and, and_true, and_false, not_true_eq_false, not_false_eq_true, ne_eq, if_true, if_false, ↓reduceIte]
            · refine (if_neg c3).trans ?_
              refine (rn_iload (pc := 32) (dd bX13_share dX13_share_32) rfl).trans ?_
              refine (rn_iconst (pc := 34) (dd bX13_share dX13_share_34) (by decide)).trans ?_
              refine (rn_bipush (pc := 35) (dd bX13_share dX13_share_35) (by decide)).trans ?_
              refine (rg_static (pc := 37) (dd bX13_share dX13_share_37) rfl (by decide) (Nat.le_of_ble_eq_true rfl) (as := [(0, x4), (0, 1), (0, 16)]) rfl rfl ⟨Nat.le_of_ble_eq_true rfl, Nat.le_of_ble_eq_true rfl, Nat.le_of_ble_eq_true rfl, Nat.le_of_ble_eq_true rfl⟩).trans ?_
              refine (vret_v spX13_isIn).trans ?_
              have e1 : vrun mX13_share 40 [(1, 282), (0, x1), (0, x2), (0, x3), (0, x4), (0, (if ¬ (x1 < 0) ∧ ¬ (3 < x1) then 1 else 0)), (9, 0), (9, 0), (9, 0), (9, 0)] [(0, (if ¬ (x4 < 1) ∧ ¬ (16 < x4) then 1 else 0))] h = vrun mX13_share 48 [(1, 282), (0, x1), (0, x2), (0, x3), (0, x4), (0, (if ¬ (x1 < 0) ∧ ¬ (3 < x1) then 1 else 0)), (9, 0), (9, 0), (9, 0), (9, 0)] [(0, (if ¬ (x4 < 1) ∧ ¬ (16 < x4) then 1 else 0))] h := by
                refine (rg_beq (t := 47) (pc := 40) (dd bX13_share dX13_share_40) rfl).trans ?_
                by_cases c4 : ¬ (x4 < 1) ∧ ¬ (16 < x4)
                · refine (if_pos c4).trans ?_
                  refine (rn_iconst (pc := 43) (dd bX13_share dX13_share_43) (by decide)).trans ?_
                  refine (rn_goto (t := 48) (pc := 44) (dd bX13_share dX13_share_44) rfl).trans ?_
                  refine Eq.trans (b := vrun mX13_share 48 [(1, 282), (0, x1), (0, x2), (0, x3), (0, x4), (0, (if ¬ (x1 < 0) ∧ ¬ (3 < x1) then 1 else 0)), (9, 0), (9, 0), (9, 0), (9, 0)] [(0, 1)] h) rfl ?_
                  simp only [c4, true_or, false_or, or_true, or_false, true_and, false_and, and_true, and_false, not_true_eq_false, not_false_eq_true, ne_eq, if_true, if_false, ↓reduceIte]
                · refine (if_neg c4).trans ?_
                  refine (rn_iconst (pc := 47) (dd bX13_share dX13_share_47) (by decide)).trans ?_
                  refine Eq.trans (b := vrun mX13_share 48 [(1, 282), (0, x1), (0, x2), (0, x3), (0, x4), (0, (if ¬ (x1 < 0) ∧ ¬ (3 < x1) then 1 else 0)), (9, 0), (9, 0), (9, 0), (9, 0)] [(0, 0)] h) rfl ?_
                  simp only [c4, true_or, false_or, or_true, or_false, true_and, false_and, and_true, and_false, not_true_eq_false, not_false_eq_true, ne_eq, if_true, if_false, ↓reduceIte]
              refine e1.trans ?_
              refine Eq.trans (b := vrun mX13_share 48 [(1, 282), (0, x1), (0, x2), (0, x3), (0, x4), (0, (if ¬ (x1 < 0) ∧ ¬ (3 < x1) then 1 else 0)), (9, 0), (9, 0), (9, 0), (9, 0)] [(0, (if ¬ (x4 < 1) ∧ ¬ (16 < x4) then 1 else 0))] h) rfl ?_
              simp only [c3, true_or, false_or, or_true, or_false, true_and, false_and, and_true, and_false, not_true_eq_false, not_false_eq_true, ne_eq, if_true, if_false, ↓reduceIte]
          refine e2.trans ?_
          refine Eq.trans (b := vrun mX13_share 48 [(1, 282), (0, x1), (0, x2), (0, x3), (0, x4), (0, (if ¬ (x1 < 0) ∧ ¬ (3 < x1) then 1 else 0)), (9, 0), (9, 0), (9, 0), (9, 0)] [(0, (if x4 = (-1) ∨ ¬ (x4 < 1) ∧ ¬ (16 < x4) then 1 else 0))] h) rfl ?_
          simp only [c2, true_or, false_or, or_true, or_false, true_and, false_and, and_true, and_false, not_true_eq_false, not_false_eq_true, ne_eq, if_true, if_false, ↓reduceIte]
        · refine (if_neg c2).trans ?_
          refine (rn_iconst (pc := 47) (dd bX13_share dX13_share_47) (by decide)).trans ?_
          refine Eq.trans (b := vrun mX13_share 48 [(1, 282), (0, x1), (0, x2), (0, x3), (0, x4), (0, (if ¬ (x1 < 0) ∧ ¬ (3 < x1) then 1 else 0)), (9, 0), (9, 0), (9, 0), (9, 0)] [(0, 0)] h) rfl ?_
          simp only [c2, true_or, false_or, or_true, or_false, true_and, false_and, and_true, and_false, not_true_eq_false, not_false_eq_true, ne_eq, if_true, if_false, ↓reduceIte]
      refine e3.trans ?_
      refine Eq.trans (b := vrun mX13_share 48 [(1, 282), (0, x1), (0, x2), (0, x3), (0, x4), (0, (if ¬ (x1 < 0) ∧ ¬ (3 < x1) then 1 else 0)), (9, 0), (9, 0), (9, 0), (9, 0)] [(0, (if (¬ (x3 < 1) ∧ ¬ (8 < x3)) ∧ (x4 = (-1) ∨ ¬ (x4 < 1) ∧ ¬ (16 < x4)) then 1 else 0))] h) rfl ?_
      simp only [c1, true_or, false_or, or_true, or_false, true_and, false_and, and_true, and_false, not_true_eq_false, not_false_eq_true, ne_eq, if_true, if_false, ↓reduceIte]
    · refine (if_neg c1).trans ?_
      refine (rn_iconst (pc := 47) (dd bX13_share dX13_share_47) (by decide)).trans ?_
      refine Eq.trans (b := vrun mX13_share 48 [(1, 282), (0, x1), (0, x2), (0, x3), (0, x4), (0, (if ¬ (x1 < 0) ∧ ¬ (3 < x1) then 1 else 0)), (9, 0), (9, 0), (9, 0), (9, 0)] [(0, 0)] h) rfl ?_
      simp only [c1, true_or, false_or, or_true, or_false, true_and, false_and, and_true, and_false, not_true_eq_false, not_false_eq_true, ne_eq, if_true, if_false, ↓reduceIte]
  refine e4.trans ?_
  refine (rn_istore (pc := 48) (dd bX13_share dX13_share_48) (Nat.le_of_ble_eq_true rfl) rfl).trans ?_
  refine (rn_iload (pc := 50) (dd bX13_share dX13_share_50) rfl).trans ?_
  have e6 : vrun mX13_share 52 [(1, 282), (0, x1), (0, x2), (0, x3), (0, x4), (0, (if ¬ (x1 < 0) ∧ ¬ (3 < x1) then 1 else 0)), (0, (if (¬ (x2 < 1) ∧ ¬ (9 < x2)) ∧ (¬ (x3 < 1) ∧ ¬ (8 < x3)) ∧ (x4 = (-1) ∨ ¬ (x4 < 1) ∧ ¬ (16 < x4)) then 1 else 0)), (9, 0), (9, 0), (9, 0)] [(0, (if ¬ (x1 < 0) ∧ ¬ (3 < x1) then 1 else 0))] h = vrun mX13_share 65 [(1, 282), (0, x1), (0, x2), (0, x3), (0, x4), (0, (if ¬ (x1 < 0) ∧ ¬ (3 < x1) then 1 else 0)), (0, (if (¬ (x2 < 1) ∧ ¬ (9 < x2)) ∧ (¬ (x3 < 1) ∧ ¬ (8 < x3)) ∧ (x4 = (-1) ∨ ¬ (x4 < 1) ∧ ¬ (16 < x4)) then 1 else 0)), (9, 0), (9, 0), (9, 0)] [(0, (if (¬ (x1 < 0) ∧ ¬ (3 < x1)) ∧ (¬ (x2 < 1) ∧ ¬ (9 < x2)) ∧ (¬ (x3 < 1) ∧ ¬ (8 < x3)) ∧ (x4 = (-1) ∨ ¬ (x4 < 1) ∧ ¬ (16 < x4)) then 1 else 0))] h := by
    refine (rg_beq (t := 64) (pc := 52) (dd bX13_share dX13_share_52) rfl).trans ?_
    by_cases c5 : ¬ (x1 < 0) ∧ ¬ (3 < x1)
    · refine (if_pos c5).trans ?_
      refine (rn_iload (pc := 55) (dd bX13_share dX13_share_55) rfl).trans ?_
      have e5 : vrun mX13_share 57 [(1, 282), (0, x1), (0, x2), (0, x3), (0, x4), (0, (if ¬ (x1 < 0) ∧ ¬ (3 < x1) then 1 else 0)), (0, (if (¬ (x2 < 1) ∧ ¬ (9 < x2)) ∧ (¬ (x3 < 1) ∧ ¬ (8 < x3)) ∧ (x4 = (-1) ∨ ¬ (x4 < 1) ∧ ¬ (16 < x4)) then 1 else 0)), (9, 0), (9, 0), (9, 0)] [(0, (if (¬ (x2 < 1) ∧ ¬ (9 < x2)) ∧ (¬ (x3 < 1) ∧ ¬ (8 < x3)) ∧ (x4 = (-1) ∨ ¬ (x4 < 1) ∧ ¬ (16 < x4)) then 1 else 0))] h = vrun mX13_share 65 [(1, 282), (0, x1), (0, x2), (0, x3), (0, x4), (0, (if ¬ (x1 < 0) ∧ ¬ (3 < x1) then 1 else 0)), (0, (if (¬ (x2 < 1) ∧ ¬ (9 < x2)) ∧ (¬ (x3 < 1) ∧ ¬ (8 < x3)) ∧ (x4 = (-1) ∨ ¬ (x4 < 1) ∧ ¬ (16 < x4)) then 1 else 0)), (9, 0), (9, 0), (9, 0)] [(0, (if (¬ (x2 < 1) ∧ ¬ (9 < x2)) ∧ (¬ (x3 < 1) ∧ ¬ (8 < x3)) ∧ (x4 = (-1) ∨ ¬ (x4 < 1) ∧ ¬ (16 < x4)) then 1 else 0))] h := by
        refine (rg_beq (t := 64) (pc := 57) (dd bX13_share dX13_share_57) rfl).trans ?_
        by_cases c6 : (¬ (x2 < 1) ∧ ¬ (9 < x2)) ∧ (¬ (x3 < 1) ∧ ¬ (8 < x3)) ∧ (x4 = (-1) ∨ ¬ (x4 < 1) ∧ ¬ (16 < x4))
        · refine (if_pos c6).trans ?_
          refine (rn_iconst (pc := 60) (dd bX13_share dX13_share_60) (by decide)).trans ?_
          refine (rn_goto (t := 65) (pc := 61) (dd bX13_share dX13_share_61) rfl).trans ?_
          refine Eq.trans (b := vrun mX13_share 65 [(1, 282), (0, x1), (0, x2), (0, x3), (0, x4), (0, (if ¬ (x1 < 0) ∧ ¬ (3 < x1) then 1 else 0)), (0, (if (¬ (x2 < 1) ∧ ¬ (9 < x2)) ∧ (¬ (x3 < 1) ∧ ¬ (8 < x3)) ∧ (x4 = (-1) ∨ ¬ (x4 < 1) ∧ ¬ (16 < x4)) then 1 else 0)), (9, 0), (9, 0), (9, 0)] [(0, 1)] h) rfl ?_
          simp only [c6, true_or, false_or, or_true, or_false, true_and, false_and, and_true, and_false, not_true_eq_false, not_false_eq_true, ne_eq, if_true, if_false, ↓reduceIte]
        · refine (if_neg c6).trans ?_
          refine (rn_iconst (pc := 64) (dd bX13_share dX13_share_64) (by decide)).trans ?_
          refine Eq.trans (b := vrun mX13_share 65 [(1, 282), (0, x1), (0, x2), (0, x3), (0, x4), (0, (if ¬ (x1 < 0) ∧ ¬ (3 < x1) then 1 else 0)), (0, (if (¬ (x2 < 1) ∧ ¬ (9 < x2)) ∧ (¬ (x3 < 1) ∧ ¬ (8 < x3)) ∧ (x4 = (-1) ∨ ¬ (x4 < 1) ∧ ¬ (16 < x4)) then 1 else 0)), (9, 0), (9, 0), (9, 0)] [(0, 0)] h) rfl ?_
          simp only [c6, true_or, false_or, or_true, or_false, true_and, false_and, and_true, and_false, not_true_eq_false, not_false_eq_true, ne_eq, if_true, if_false, ↓reduceIte]
      refine e5.trans ?_
      refine Eq.trans (b := vrun mX13_share 65 [(1, 282), (0, x1), (0, x2), (0, x3), (0, x4), (0, (if ¬ (x1 < 0) ∧ ¬ (3 < x1) then 1 else 0)), (0, (if (¬ (x2 < 1) ∧ ¬ (9 < x2)) ∧ (¬ (x3 < 1) ∧ ¬ (8 < x3)) ∧ (x4 = (-1) ∨ ¬ (x4 < 1) ∧ ¬ (16 < x4)) then 1 else 0)), (9, 0), (9, 0), (9, 0)] [(0, (if (¬ (x2 < 1) ∧ ¬ (9 < x2)) ∧ (¬ (x3 < 1) ∧ ¬ (8 < x3)) ∧ (x4 = (-1) ∨ ¬ (x4 < 1) ∧ ¬ (16 < x4)) then 1 else 0))] h) rfl ?_
      simp only [c5, true_or, false_or, or_true, or_false, true_and, false_and, and_true, and_false, not_true_eq_false, not_false_eq_true, ne_eq, if_true, if_false, ↓reduceIte]
    · refine (if_neg c5).trans ?_
      refine (rn_iconst (pc := 64) (dd bX13_share dX13_share_64) (by decide)).trans ?_
      refine Eq.trans (b := vrun mX13_share 65 [(1, 282), (0, x1), (0, x2), (0, x3), (0, x4), (0, (if ¬ (x1 < 0) ∧ ¬ (3 < x1) then 1 else 0)), (0, (if (¬ (x2 < 1) ∧ ¬ (9 < x2)) ∧ (¬ (x3 < 1) ∧ ¬ (8 < x3)) ∧ (x4 = (-1) ∨ ¬ (x4 < 1) ∧ ¬ (16 < x4)) then 1 else 0)), (9, 0), (9, 0), (9, 0)] [(0, 0)] h) rfl ?_
      simp only [c5, true_or, false_or, or_true, or_false, true_and, false_and, and_true, and_false, not_true_eq_false, not_false_eq_true, ne_eq, if_true, if_false, ↓reduceIte]
  refine e6.trans ?_
  refine (rn_istore (pc := 65) (dd bX13_share dX13_share_65) (Nat.le_of_ble_eq_true rfl) rfl).trans ?_
  refine (rn_iload (pc := 67) (dd bX13_share dX13_share_67) rfl).trans ?_
  refine (rg_beq (t := 161) (pc := 69) (dd bX13_share dX13_share_69) rfl).trans (itec (fun c7 => ?_) (fun c7 => ?_))
  · refine (rn_aload_n (pc := 72) (dd bX13_share dX13_share_72) rfl).trans ?_
    refine (rg_gf (pc := 73) (dd bX13_share dX13_share_73) (ci := 14) (j := 10) rfl rfl (key := 1510) rfl (kc := 34) rfl s1.1 s1.2.2.2.2.2.2.2.2.2.2.2.2.2.2.2.2.2.2.2.2.2.2.2.2.2.1).trans ?_
    refine (rn_iload_n (pc := 76) (dd bX13_share dX13_share_76) rfl).trans ?_
    refine (rg_iaload (pc := 77) (dd bX13_share dX13_share_77) s1.2.2.2.2.2.2.2.2.2.2.2.2.2.2.2.2.2.2.2.2.2.2.2.2.2.2.1 s1.2.2.2.2.2.2.2.2.2.2.2.2.2.2.2.2.2.2.2.2.2.2.2.2.2.2.2.1 (p2 c7) (p3 c7) rfl).trans ?_
    refine (rn_istore (pc := 78) (dd bX13_share dX13_share_78) (Nat.le_of_ble_eq_true rfl) rfl).trans ?_
    refine (rn_aload_n (pc := 80) (dd bX13_share dX13_share_80) rfl).trans ?_
    refine (rg_gf (pc := 81) (dd bX13_share dX13_share_81) (ci := 14) (j := 11) rfl rfl (key := 1511) rfl (kc := 34) rfl s1.1 s1.2.2.2.2.2.2.2.2.2.2.2.2.2.2.2.2.2.2.2.2.2.2.2.2.2.2.2.2.1).trans ?_
    refine (rn_iload_n (pc := 84) (dd bX13_share dX13_share_84) rfl).trans ?_
    refine (rg_iaload (pc := 85) (dd bX13_share dX13_share_85) s1.2.2.2.2.2.2.2.2.2.2.2.2.2.2.2.2.2.2.2.2.2.2.2.2.2.2.2.2.2.1 s1.2.2.2.2.2.2.2.2.2.2.2.2.2.2.2.2.2.2.2.2.2.2.2.2.2.2.2.2.2.2.1 (by have z0 := p2 c7; have z1 := p3 c7; omega) (by have z0 := p2 c7; have z1 := p3 c7; omega) rfl).trans ?_
    refine (rn_istore (pc := 86) (dd bX13_share dX13_share_86) (Nat.le_of_ble_eq_true rfl) rfl).trans ?_
    refine (rn_aload_n (pc := 88) (dd bX13_share dX13_share_88) rfl).trans ?_
    refine (rg_gf (pc := 89) (dd bX13_share dX13_share_89) (ci := 14) (j := 10) rfl rfl (key := 1510) rfl (kc := 34) rfl s1.1 s1.2.2.2.2.2.2.2.2.2.2.2.2.2.2.2.2.2.2.2.2.2.2.2.2.2.1).trans ?_
    refine (rn_iload_n (pc := 92) (dd bX13_share dX13_share_92) rfl).trans ?_
    refine (rn_iload_n (pc := 93) (dd bX13_share dX13_share_93) rfl).trans ?_
    refine (rg_iastore (pc := 94) (dd bX13_share dX13_share_94) s1.2.2.2.2.2.2.2.2.2.2.2.2.2.2.2.2.2.2.2.2.2.2.2.2.2.2.1 s1.2.2.2.2.2.2.2.2.2.2.2.2.2.2.2.2.2.2.2.2.2.2.2.2.2.2.2.1 (by have z0 := p2 c7; have z1 := p3 c7; omega) (by have z0 := p2 c7; have z1 := p3 c7; omega)).trans ?_
    refine (rn_aload_n (pc := 95) (dd bX13_share dX13_share_95) rfl).trans ?_
    refine (rg_gf (pc := 96) (dd bX13_share dX13_share_96) (ci := 14) (j := 11) rfl rfl (key := 1511) rfl (kc := 34) rfl ((vup_k (by decide)).trans s1.1) ((vup_k (by decide)).trans s1.2.2.2.2.2.2.2.2.2.2.2.2.2.2.2.2.2.2.2.2.2.2.2.2.2.2.2.2.1)).trans ?_
    refine (rn_iload_n (pc := 99) (dd bX13_share dX13_share_99) rfl).trans ?_
    refine (rn_iload (pc := 100) (dd bX13_share dX13_share_100) rfl).trans ?_
    refine (rg_iastore (pc := 102) (dd bX13_share dX13_share_102) ((vup_k (by decide)).trans s1.2.2.2.2.2.2.2.2.2.2.2.2.2.2.2.2.2.2.2.2.2.2.2.2.2.2.2.2.2.1) ((vup_k (by decide)).trans s1.2.2.2.2.2.2.2.2.2.2.2.2.2.2.2.2.2.2.2.2.2.2.2.2.2.2.2.2.2.2.1) (by have z0 := p2 c7; have z1 := p3 c7; omega) (by have z0 := p2 c7; have z1 := p3 c7; omega)).trans ?_
    refine (rn_aload_n (pc := 103) (dd bX13_share dX13_share_103) rfl).trans ?_
    refine (rg_gf (pc := 104) (dd bX13_share dX13_share_104) (ci := 14) (j := 8) rfl rfl (key := 1508) rfl (kc := 34) rfl ((vup_k (by decide)).trans ((vup_k (by decide)).trans s1.1)) ((vup_k (by decide)).trans ((vup_k (by decide)).trans s1.2.2.2.2.2.2.2.2.2.2.2.2.2.2.2.2.2.2.2.1))).trans ?_
    refine (rn_iload_n (pc := 107) (dd bX13_share dX13_share_107) rfl).trans ?_
    refine (rg_baload (pc := 108) (dd bX13_share dX13_share_108) ((vup_k (by decide)).trans ((vup_k (by decide)).trans s1.2.2.2.2.2.2.2.2.2.2.2.2.2.2.2.2.2.2.2.2.1)) ((vup_k (by decide)).trans ((vup_k (by decide)).trans s1.2.2.2.2.2.2.2.2.2.2.2.2.2.2.2.2.2.2.2.2.2.1)) (by have z0 := p2 c7; have z1 := p3 c7; omega) (by have z0 := p2 c7; have z1 := p3 c7; omega) ((vup_r (by omega)).trans ((vup_r (by omega)).trans rfl))).trans ?_
    refine (rn_if_eq (t := 119) (pc := 109) (dd bX13_share dX13_share_109) rfl).trans (itec (fun c8 => ?_) (fun c8 => ?_))
    · refine (rn_iconst (pc := 119) (dd bX13_share dX13_share_119) (by decide)).trans ?_
      refine (rn_goto (t := 124) (pc := 120) (dd bX13_share dX13_share_120) rfl).trans ?_
      refine (rn_istore (pc := 124) (dd bX13_share dX13_share_124) (Nat.le_of_ble_eq_true rfl) rfl).trans ?_
      refine (rn_aload_n (pc := 126) (dd bX13_share dX13_share_126) rfl).trans ?_
      refine (rg_gf (pc := 127) (dd bX13_share dX13_share_127) (ci := 14) (j := 10) rfl rfl (key := 1510) rfl (kc := 34) rfl ((vup_k (by decide)).trans ((vup_k (by decide)).trans s1.1)) ((vup_k (by decide)).trans ((vup_k (by decide)).trans s1.2.2.2.2.2.2.2.2.2.2.2.2.2.2.2.2.2.2.2.2.2.2.2.2.2.1))).trans ?_
      refine (rn_iload_n (pc := 130) (dd bX13_share dX13_share_130) rfl).trans ?_
      refine (rn_iload (pc := 131) (dd bX13_share dX13_share_131) rfl).trans ?_
      refine (rn_if_eq (t := 140) (pc := 133) (dd bX13_share dX13_share_133) rfl).trans ((if_neg (by decide)).trans ?_)
      refine (rn_iload_n (pc := 136) (dd bX13_share dX13_share_136) rfl).trans ?_
      refine (rn_goto (t := 142) (pc := 137) (dd bX13_share dX13_share_137) rfl).trans ?_
      refine (rg_iastore (pc := 142) (dd bX13_share dX13_share_142) ((vup_k (by decide)).trans ((vup_k (by decide)).trans s1.2.2.2.2.2.2.2.2.2.2.2.2.2.2.2.2.2.2.2.2.2.2.2.2.2.2.1)) ((vup_k (by decide)).trans ((vup_k (by decide)).trans s1.2.2.2.2.2.2.2.2.2.2.2.2.2.2.2.2.2.2.2.2.2.2.2.2.2.2.2.1)) (by have z0 := p2 c7; have z1 := p3 c7; omega) (by have z0 := p2 c7; have z1 := p3 c7; omega)).trans ?_
      refine (rn_aload_n (pc := 143) (dd bX13_share dX13_share_143) rfl).trans ?_
      refine (rg_gf (pc := 144) (dd bX13_share dX13_share_144) (ci := 14) (j := 11) rfl rfl (key := 1511) rfl (kc := 34) rfl ((vup_k (by decide)).trans ((vup_k (by decide)).trans ((vup_k (by decide)).trans s1.1))) ((vup_k (by decide)).trans ((vup_k (by decide)).trans ((vup_k (by decide)).trans s1.2.2.2.2.2.2.2.2.2.2.2.2.2.2.2.2.2.2.2.2.2.2.2.2.2.2.2.2.1)))).trans ?_
      refine (rn_iload_n (pc := 147) (dd bX13_share dX13_share_147) rfl).trans ?_
      refine (rn_iload (pc := 148) (dd bX13_share dX13_share_148) rfl).trans ?_
      refine (rn_if_eq (t := 158) (pc := 150) (dd bX13_share dX13_share_150) rfl).trans ((if_neg (by decide)).trans ?_)
      refine (rn_iload (pc := 153) (dd bX13_share dX13_share_153) rfl).trans ?_
      refine (rn_goto (t := 160) (pc := 155) (dd bX13_share dX13_share_155) rfl).trans ?_
      refine (rg_iastore (pc := 160) (dd bX13_share dX13_share_160) ((vup_k (by decide)).trans ((vup_k (by decide)).trans ((vup_k (by decide)).trans s1.2.2.2.2.2.2.2.2.2.2.2.2.2.2.2.2.2.2.2.2.2.2.2.2.2.2.2.2.2.1))) ((vup_k (by decide)).trans ((vup_k (by decide)).trans ((vup_k (by decide)).trans s1.2.2.2.2.2.2.2.2.2.2.2.2.2.2.2.2.2.2.2.2.2.2.2.2.2.2.2.2.2.2.1))) (by have z0 := p2 c7; have z1 := p3 c7; omega) (by have z0 := p2 c7; have z1 := p3 c7; omega)).trans ?_
      refine (rn_aload_n (pc := 161) (dd bX13_share dX13_share_161) rfl).trans ?_
      refine (rn_iload (pc := 162) (dd bX13_share dX13_share_162) rfl).trans ?_
      have e8 : vrun mX13_share 164 [(1, 282), (0, x1), (0, x2), (0, x3), (0, x4), (0, (if ¬ (x1 < 0) ∧ ¬ (3 < x1) then 1 else 0)), (0, (if (¬ (x2 < 1) ∧ ¬ (9 < x2)) ∧ (¬ (x3 < 1) ∧ ¬ (8 < x3)) ∧ (x4 = (-1) ∨ ¬ (x4 < 1) ∧ ¬ (16 < x4)) then 1 else 0)), (0, 1), (0, h 2 291 x1), (0, h 2 292 x1)] [(0, (if ¬ (x1 < 0) ∧ ¬ (3 < x1) then 1 else 0)), (1, 282)] (vup (vup (vup (vup h 2 291 x1 x3) 2 292 x1 x4) 2 291 x1 x3) 2 292 x1 x4) = vrun mX13_share 190 [(1, 282), (0, x1), (0, x2), (0, x3), (0, x4), (0, (if ¬ (x1 < 0) ∧ ¬ (3 < x1) then 1 else 0)), (0, (if (¬ (x2 < 1) ∧ ¬ (9 < x2)) ∧ (¬ (x3 < 1) ∧ ¬ (8 < x3)) ∧ (x4 = (-1) ∨ ¬ (x4 < 1) ∧ ¬ (16 < x4)) then 1 else 0)), (0, 1), (0, h 2 291 x1), (0, h 2 292 x1)] [(0, (if ¬ (x1 < 0) ∧ ¬ (3 < x1) then (if (¬ (x2 < 1) ∧ ¬ (9 < x2)) ∧ (¬ (x3 < 1) ∧ ¬ (8 < x3)) ∧ (x4 = (-1) ∨ ¬ (x4 < 1) ∧ ¬ (16 < x4)) then 0 else 2) else 1)), (1, 282)] (vup (vup (vup (vup h 2 291 x1 x3) 2 292 x1 x4) 2 291 x1 x3) 2 292 x1 x4) := by
        refine (rg_bne (t := 171) (pc := 164) (dd bX13_share dX13_share_164) rfl).trans ?_
        by_cases c9 : ¬ (x1 < 0) ∧ ¬ (3 < x1)
        · refine (if_pos c9).trans ?_
          refine (rn_iload (pc := 171) (dd bX13_share dX13_share_171) rfl).trans ?_
          have e7 : vrun mX13_share 173 [(1, 282), (0, x1), (0, x2), (0, x3), (0, x4), (0, (if ¬ (x1 < 0) ∧ ¬ (3 < x1) then 1 else 0)), (0, (if (¬ (x2 < 1) ∧ ¬ (9 < x2)) ∧ (¬ (x3 < 1) ∧ ¬ (8 < x3)) ∧ (x4 = (-1) ∨ ¬ (x4 < 1) ∧ ¬ (16 < x4)) then 1 else 0)), (0, 1), (0, h 2 291 x1), (0, h 2 292 x1)] [(0, (if (¬ (x2 < 1) ∧ ¬ (9 < x2)) ∧ (¬ (x3 < 1) ∧ ¬ (8 < x3)) ∧ (x4 = (-1) ∨ ¬ (x4 < 1) ∧ ¬ (16 < x4)) then 1 else 0)), (1, 282)] (vup (vup (vup (vup h 2 291 x1 x3) 2 292 x1 x4) 2 291 x1 x3) 2 292 x1 x4) = vrun mX13_share 190 [(1, 282), (0, x1), (0, x2), (0, x3), (0, x4), (0, (if ¬ (x1 < 0) ∧ ¬ (3 < x1) then 1 else 0)), (0, (if (¬ (x2 < 1) ∧ ¬ (9 < x2)) ∧ (¬ (x3 < 1) ∧ ¬ (8 < x3)) ∧ (x4 = (-1) ∨ ¬ (x4 < 1) ∧ ¬ (16 < x4)) then 1 else 0)), (0, 1), (0, h 2 291 x1), (0, h 2 292 x1)] [(0, (if (¬ (x2 < 1) ∧ ¬ (9 < x2)) ∧ (¬ (x3 < 1) ∧ ¬ (8 < x3)) ∧ (x4 = (-1) ∨ ¬ (x4 < 1) ∧ ¬ (16 < x4)) then 0 else 2)), (1, 282)] (vup (vup (vup (vup h 2 291 x1 x3) 2 292 x1 x4) 2 291 x1 x3) 2 292 x1 x4) := by
            refine (rg_bne (t := 180) (pc := 173) (dd bX13_share dX13_share_173) rfl).trans ?_
            by_cases c10 : (¬ (x2 < 1) ∧ ¬ (9 < x2)) ∧ (¬ (x3 < 1) ∧ ¬ (8 < x3)) ∧ (x4 = (-1) ∨ ¬ (x4 < 1) ∧ ¬ (16 < x4))
            · refine (if_pos c10).trans ?_
              refine (rn_iload (pc := 180) (dd bX13_share dX13_share_180) rfl).trans ?_
              refine (rg_if_ne (t := 189) (pc := 182) (dd bX13_share dX13_share_182) rfl).trans ((if_neg (by decide)).trans ?_)
              refine (rn_iconst (pc := 189) (dd bX13_share dX13_share_189) (by decide)).trans ?_
              refine Eq.trans (b := vrun mX13_share 190 [(1, 282), (0, x1), (0, x2), (0, x3), (0, x4), (0, (if ¬ (x1 < 0) ∧ ¬ (3 < x1) then 1 else 0)), (0, (if (¬ (x2 < 1) ∧ ¬ (9 < x2)) ∧ (¬ (x3 < 1) ∧ ¬ (8 < x3)) ∧ (x4 = (-1) ∨ ¬ (x4 < 1) ∧ ¬ (16 < x4)) then 1 else 0)), (0, 1), (0, h 2 291 x1), (0, h 2 292 x1)] [(0, 0), (1, 282)] (vup (vup (vup (vup h 2 291 x1 x3) 2 292 x1 x4) 2 291 x1 x3) 2 292 x1 x4)) rfl ?_
              simp only [if_pos c10]
            · refine (if_neg c10).trans ?_
              refine (rn_iconst (pc := 176) (dd bX13_share dX13_share_176) (by decide)).trans ?_
              refine (rn_goto (t := 190) (pc := 177) (dd bX13_share dX13_share_177) rfl).trans ?_
              refine Eq.trans (b := vrun mX13_share 190 [(1, 282), (0, x1), (0, x2), (0, x3), (0, x4), (0, (if ¬ (x1 < 0) ∧ ¬ (3 < x1) then 1 else 0)), (0, (if (¬ (x2 < 1) ∧ ¬ (9 < x2)) ∧ (¬ (x3 < 1) ∧ ¬ (8 < x3)) ∧ (x4 = (-1) ∨ ¬ (x4 < 1) ∧ ¬ (16 < x4)) then 1 else 0)), (0, 1), (0, h 2 291 x1), (0, h 2 292 x1)] [(0, 2), (1, 282)] (vup (vup (vup (vup h 2 291 x1 x3) 2 292 x1 x4) 2 291 x1 x3) 2 292 x1 x4)) rfl ?_
              simp only [if_neg c10]
          refine e7.trans ?_
          refine Eq.trans (b := vrun mX13_share 190 [(1, 282), (0, x1), (0, x2), (0, x3), (0, x4), (0, (if ¬ (x1 < 0) ∧ ¬ (3 < x1) then 1 else 0)), (0, (if (¬ (x2 < 1) ∧ ¬ (9 < x2)) ∧ (¬ (x3 < 1) ∧ ¬ (8 < x3)) ∧ (x4 = (-1) ∨ ¬ (x4 < 1) ∧ ¬ (16 < x4)) then 1 else 0)), (0, 1), (0, h 2 291 x1), (0, h 2 292 x1)] [(0, (if (¬ (x2 < 1) ∧ ¬ (9 < x2)) ∧ (¬ (x3 < 1) ∧ ¬ (8 < x3)) ∧ (x4 = (-1) ∨ ¬ (x4 < 1) ∧ ¬ (16 < x4)) then 0 else 2)), (1, 282)] (vup (vup (vup (vup h 2 291 x1 x3) 2 292 x1 x4) 2 291 x1 x3) 2 292 x1 x4)) rfl ?_
          simp only [if_pos c9]
        · refine (if_neg c9).trans ?_
          refine (rn_iconst (pc := 167) (dd bX13_share dX13_share_167) (by decide)).trans ?_
          refine (rn_goto (t := 190) (pc := 168) (dd bX13_share dX13_share_168) rfl).trans ?_
          refine Eq.trans (b := vrun mX13_share 190 [(1, 282), (0, x1), (0, x2), (0, x3), (0, x4), (0, (if ¬ (x1 < 0) ∧ ¬ (3 < x1) then 1 else 0)), (0, (if (¬ (x2 < 1) ∧ ¬ (9 < x2)) ∧ (¬ (x3 < 1) ∧ ¬ (8 < x3)) ∧ (x4 = (-1) ∨ ¬ (x4 < 1) ∧ ¬ (16 < x4)) then 1 else 0)), (0, 1), (0, h 2 291 x1), (0, h 2 292 x1)] [(0, 1), (1, 282)] (vup (vup (vup (vup h 2 291 x1 x3) 2 292 x1 x4) 2 291 x1 x3) 2 292 x1 x4)) rfl ?_
          simp only [if_neg c9]
      refine e8.trans ?_
      exact rg_virtual (pc := 190) (dd bX13_share dX13_share_190) rfl rfl (by decide) (kc := 34) rfl ((vup_k (by decide)).trans ((vup_k (by decide)).trans ((vup_k (by decide)).trans ((vup_k (by decide)).trans s1.1)))) (as := [(1, 282), (0, (if ¬ (x1 < 0) ∧ ¬ (3 < x1) then (if (¬ (x2 < 1) ∧ ¬ (9 < x2)) ∧ (¬ (x3 < 1) ∧ ¬ (8 < x3)) ∧ (x4 = (-1) ∨ ¬ (x4 < 1) ∧ ¬ (16 < x4)) then 0 else 2) else 1))]) rfl ⟨Nat.le_of_ble_eq_true rfl, Nat.le_of_ble_eq_true rfl, Nat.le_of_ble_eq_true rfl, Nat.le_of_ble_eq_true rfl⟩
    · refine (rn_aload_n (pc := 112) (dd bX13_share dX13_share_112) rfl).trans ?_
      exact rg_virtual (pc := 113) (dd bX13_share dX13_share_113) rfl rfl (by decide) (kc := 34) rfl ((vup_k (by decide)).trans ((vup_k (by decide)).trans s1.1)) (as := [(1, 282)]) rfl ⟨Nat.le_of_ble_eq_true rfl, Nat.le_of_ble_eq_true rfl, Nat.le_of_ble_eq_true rfl, Nat.le_of_ble_eq_true rfl⟩
  · refine (rn_aload_n (pc := 161) (dd bX13_share dX13_share_161) rfl).trans ?_
    refine (rn_iload (pc := 162) (dd bX13_share dX13_share_162) rfl).trans ?_
    have e11 : vrun mX13_share 164 [(1, 282), (0, x1), (0, x2), (0, x3), (0, x4), (0, (if ¬ (x1 < 0) ∧ ¬ (3 < x1) then 1 else 0)), (0, (if (¬ (x2 < 1) ∧ ¬ (9 < x2)) ∧ (¬ (x3 < 1) ∧ ¬ (8 < x3)) ∧ (x4 = (-1) ∨ ¬ (x4 < 1) ∧ ¬ (16 < x4)) then 1 else 0)), (0, (if (¬ (x1 < 0) ∧ ¬ (3 < x1)) ∧ (¬ (x2 < 1) ∧ ¬ (9 < x2)) ∧ (¬ (x3 < 1) ∧ ¬ (8 < x3)) ∧ (x4 = (-1) ∨ ¬ (x4 < 1) ∧ ¬ (16 < x4)) then 1 else 0)), (9, 0), (9, 0)] [(0, (if ¬ (x1 < 0) ∧ ¬ (3 < x1) then 1 else 0)), (1, 282)] h = vrun mX13_share 190 [(1, 282), (0, x1), (0, x2), (0, x3), (0, x4), (0, (if ¬ (x1 < 0) ∧ ¬ (3 < x1) then 1 else 0)), (0, (if (¬ (x2 < 1) ∧ ¬ (9 < x2)) ∧ (¬ (x3 < 1) ∧ ¬ (8 < x3)) ∧ (x4 = (-1) ∨ ¬ (x4 < 1) ∧ ¬ (16 < x4)) then 1 else 0)), (0, (if (¬ (x1 < 0) ∧ ¬ (3 < x1)) ∧ (¬ (x2 < 1) ∧ ¬ (9 < x2)) ∧ (¬ (x3 < 1) ∧ ¬ (8 < x3)) ∧ (x4 = (-1) ∨ ¬ (x4 < 1) ∧ ¬ (16 < x4)) then 1 else 0)), (9, 0), (9, 0)] [(0, (if ¬ (x1 < 0) ∧ ¬ (3 < x1) then (if (¬ (x2 < 1) ∧ ¬ (9 < x2)) ∧ (¬ (x3 < 1) ∧ ¬ (8 < x3)) ∧ (x4 = (-1) ∨ ¬ (x4 < 1) ∧ ¬ (16 < x4)) then (if (¬ (x1 < 0) ∧ ¬ (3 < x1)) ∧ (¬ (x2 < 1) ∧ ¬ (9 < x2)) ∧ (¬ (x3 < 1) ∧ ¬ (8 < x3)) ∧ (x4 = (-1) ∨ ¬ (x4 < 1) ∧ ¬ (16 < x4)) then 0 else 3) else 2) else 1)), (1, 282)] h := by
      refine (rg_bne (t := 171) (pc := 164) (dd bX13_share dX13_share_164) rfl).trans ?_
      by_cases c11 : ¬ (x1 < 0) ∧ ¬ (3 < x1)
      · refine (if_pos c11).trans ?_
        refine (rn_iload (pc := 171) (dd bX13_share dX13_share_171) rfl).trans ?_
        have e10 : vrun mX13_share 173 [(1, 282), (0, x1), (0, x2), (0, x3), (0, x4), (0, (if ¬ (x1 < 0) ∧ ¬ (3 < x1) then 1 else 0)), (0, (if (¬ (x2 < 1) ∧ ¬ (9 < x2)) ∧ (¬ (x3 < 1) ∧ ¬ (8 < x3)) ∧ (x4 = (-1) ∨ ¬ (x4 < 1) ∧ ¬ (16 < x4)) then 1 else 0)), (0, (if (¬ (x1 < 0) ∧ ¬ (3 < x1)) ∧ (¬ (x2 < 1) ∧ ¬ (9 < x2)) ∧ (¬ (x3 < 1) ∧ ¬ (8 < x3)) ∧ (x4 = (-1) ∨ ¬ (x4 < 1) ∧ ¬ (16 < x4)) then 1 else 0)), (9, 0), (9, 0)] [(0, (if (¬ (x2 < 1) ∧ ¬ (9 < x2)) ∧ (¬ (x3 < 1) ∧ ¬ (8 < x3)) ∧ (x4 = (-1) ∨ ¬ (x4 < 1) ∧ ¬ (16 < x4)) then 1 else 0)), (1, 282)] h = vrun mX13_share 190 [(1, 282), (0, x1), (0, x2), (0, x3), (0, x4), (0, (if ¬ (x1 < 0) ∧ ¬ (3 < x1) then 1 else 0)), (0, (if (¬ (x2 < 1) ∧ ¬ (9 < x2)) ∧ (¬ (x3 < 1) ∧ ¬ (8 < x3)) ∧ (x4 = (-1) ∨ ¬ (x4 < 1) ∧ ¬ (16 < x4)) then 1 else 0)), (0, (if (¬ (x1 < 0) ∧ ¬ (3 < x1)) ∧ (¬ (x2 < 1) ∧ ¬ (9 < x2)) ∧ (¬ (x3 < 1) ∧ ¬ (8 < x3)) ∧ (x4 = (-1) ∨ ¬ (x4 < 1) ∧ ¬ (16 < x4)) then 1 else 0)), (9, 0), (9, 0)] [(0, (if (¬ (x2 < 1) ∧ ¬ (9 < x2)) ∧ (¬ (x3 < 1) ∧ ¬ (8 < x3)) ∧ (x4 = (-1) ∨ ¬ (x4 < 1) ∧ ¬ (16 < x4)) then (if (¬ (x1 < 0) ∧ ¬ (3 < x1)) ∧ (¬ (x2 < 1) ∧ ¬ (9 < x2)) ∧ (¬ (x3 < 1) ∧ ¬ (8 < x3)) ∧ (x4 = (-1) ∨ ¬ (x4 < 1) ∧ ¬ (16 < x4)) then 0 else 3) else 2)), (1, 282)] h := by
          refine (rg_bne (t := 180) (pc := 173) (dd bX13_share dX13_share_173) rfl).trans ?_
          by_cases c12 : (¬ (x2 < 1) ∧ ¬ (9 < x2)) ∧ (¬ (x3 < 1) ∧ ¬ (8 < x3)) ∧ (x4 = (-1) ∨ ¬ (x4 < 1) ∧ ¬ (16 < x4))
          · refine (if_pos c12).trans ?_
            refine (rn_iload (pc := 180) (dd bX13_share dX13_share_180) rfl).trans ?_
            have e9 : vrun mX13_share 182 [(1, 282), (0, x1), (0, x2), (0, x3), (0, x4), (0, (if ¬ (x1 < 0) ∧ ¬ (3 < x1) then 1 else 0)), (0, (if (¬ (x2 < 1) ∧ ¬ (9 < x2)) ∧ (¬ (x3 < 1) ∧ ¬ (8 < x3)) ∧ (x4 = (-1) ∨ ¬ (x4 < 1) ∧ ¬ (16 < x4)) then 1 else 0)), (0, (if (¬ (x1 < 0) ∧ ¬ (3 < x1)) ∧ (¬ (x2 < 1) ∧ ¬ (9 < x2)) ∧ (¬ (x3 < 1) ∧ ¬ (8 < x3)) ∧ (x4 = (-1) ∨ ¬ (x4 < 1) ∧ ¬ (16 < x4)) then 1 else 0)), (9, 0), (9, 0)] [(0, (if (¬ (x1 < 0) ∧ ¬ (3 < x1)) ∧ (¬ (x2 < 1) ∧ ¬ (9 < x2)) ∧ (¬ (x3 < 1) ∧ ¬ (8 < x3)) ∧ (x4 = (-1) ∨ ¬ (x4 < 1) ∧ ¬ (16 < x4)) then 1 else 0)), (1, 282)] h = vrun mX13_share 190 [(1, 282), (0, x1), (0, x2), (0, x3), (0, x4), (0, (if ¬ (x1 < 0) ∧ ¬ (3 < x1) then 1 else 0)), (0, (if (¬ (x2 < 1) ∧ ¬ (9 < x2)) ∧ (¬ (x3 < 1) ∧ ¬ (8 < x3)) ∧ (x4 = (-1) ∨ ¬ (x4 < 1) ∧ ¬ (16 < x4)) then 1 else 0)), (0, (if (¬ (x1 < 0) ∧ ¬ (3 < x1)) ∧ (¬ (x2 < 1) ∧ ¬ (9 < x2)) ∧ (¬ (x3 < 1) ∧ ¬ (8 < x3)) ∧ (x4 = (-1) ∨ ¬ (x4 < 1) ∧ ¬ (16 < x4)) then 1 else 0)), (9, 0), (9, 0)] [(0, (if (¬ (x1 < 0) ∧ ¬ (3 < x1)) ∧ (¬ (x2 < 1) ∧ ¬ (9 < x2)) ∧ (¬ (x3 < 1) ∧ ¬ (8 < x3)) ∧ (x4 = (-1) ∨ ¬ (x4 < 1) ∧ ¬ (16 < x4)) then 0 else 3)), (1, 282)] h := by
              refine (rg_bne (t := 189) (pc := 182) (dd bX13_share dX13_share_182) rfl).trans ?_
              by_cases c13 : (¬ (x1 < 0) ∧ ¬ (3 < x1)) ∧ (¬ (x2 < 1) ∧ ¬ (9 < x2)) ∧ (¬ (x3 < 1) ∧ ¬ (8 < x3)) ∧ (x4 = (-1) ∨ ¬ (x4 < 1) ∧ ¬ (16 < x4))
              · refine (if_pos c13).trans ?_
                refine (rn_iconst (pc := 189) (dd bX13_share dX13_share_189) (by decide)).trans ?_
                refine Eq.trans (b := vrun mX13_share 190 [(1, 282), (0, x1), (0, x2), (0, x3), (0, x4), (0, (if ¬ (x1 < 0) ∧ ¬ (3 < x1) then 1 else 0)), (0, (if (¬ (x2 < 1) ∧ ¬ (9 < x2)) ∧ (¬ (x3 < 1) ∧ ¬ (8 < x3)) ∧ (x4 = (-1) ∨ ¬ (x4 < 1) ∧ ¬ (16 < x4)) then 1 else 0)), (0, (if (¬ (x1 < 0) ∧ ¬ (3 < x1)) ∧ (¬ (x2 < 1) ∧ ¬ (9 < x2)) ∧ (¬ (x3 < 1) ∧ ¬ (8 < x3)) ∧ (x4 = (-1) ∨ ¬ (x4 < 1) ∧ ¬ (16 < x4)) then 1 else 0)), (9, 0), (9, 0)] [(0, 0), (1, 282)] h) rfl ?_
                simp only [if_pos c13]
              · refine (if_neg c13).trans ?_
                refine (rn_iconst (pc := 185) (dd bX13_share dX13_share_185) (by decide)).trans ?_
                refine (rn_goto (t := 190) (pc := 186) (dd bX13_share dX13_share_186) rfl).trans ?_
                refine Eq.trans (b := vrun mX13_share 190 [(1, 282), (0, x1), (0, x2), (0, x3), (0, x4), (0, (if ¬ (x1 < 0) ∧ ¬ (3 < x1) then 1 else 0)), (0, (if (¬ (x2 < 1) ∧ ¬ (9 < x2)) ∧ (¬ (x3 < 1) ∧ ¬ (8 < x3)) ∧ (x4 = (-1) ∨ ¬ (x4 < 1) ∧ ¬ (16 < x4)) then 1 else 0)), (0, (if (¬ (x1 < 0) ∧ ¬ (3 < x1)) ∧ (¬ (x2 < 1) ∧ ¬ (9 < x2)) ∧ (¬ (x3 < 1) ∧ ¬ (8 < x3)) ∧ (x4 = (-1) ∨ ¬ (x4 < 1) ∧ ¬ (16 < x4)) then 1 else 0)), (9, 0), (9, 0)] [(0, 3), (1, 282)] h) rfl ?_
                simp only [if_neg c13]
            refine e9.trans ?_
            refine Eq.trans (b := vrun mX13_share 190 [(1, 282), (0, x1), (0, x2), (0, x3), (0, x4), (0, (if ¬ (x1 < 0) ∧ ¬ (3 < x1) then 1 else 0)), (0, (if (¬ (x2 < 1) ∧ ¬ (9 < x2)) ∧ (¬ (x3 < 1) ∧ ¬ (8 < x3)) ∧ (x4 = (-1) ∨ ¬ (x4 < 1) ∧ ¬ (16 < x4)) then 1 else 0)), (0, (if (¬ (x1 < 0) ∧ ¬ (3 < x1)) ∧ (¬ (x2 < 1) ∧ ¬ (9 < x2)) ∧ (¬ (x3 < 1) ∧ ¬ (8 < x3)) ∧ (x4 = (-1) ∨ ¬ (x4 < 1) ∧ ¬ (16 < x4)) then 1 else 0)), (9, 0), (9, 0)] [(0, (if (¬ (x1 < 0) ∧ ¬ (3 < x1)) ∧ (¬ (x2 < 1) ∧ ¬ (9 < x2)) ∧ (¬ (x3 < 1) ∧ ¬ (8 < x3)) ∧ (x4 = (-1) ∨ ¬ (x4 < 1) ∧ ¬ (16 < x4)) then 0 else 3)), (1, 282)] h) rfl ?_
            simp only [if_pos c12]
          · refine (if_neg c12).trans ?_
            refine (rn_iconst (pc := 176) (dd bX13_share dX13_share_176) (by decide)).trans ?_
            refine (rn_goto (t := 190) (pc := 177) (dd bX13_share dX13_share_177) rfl).trans ?_
            refine Eq.trans (b := vrun mX13_share 190 [(1, 282), (0, x1), (0, x2), (0, x3), (0, x4), (0, (if ¬ (x1 < 0) ∧ ¬ (3 < x1) then 1 else 0)), (0, (if (¬ (x2 < 1) ∧ ¬ (9 < x2)) ∧ (¬ (x3 < 1) ∧ ¬ (8 < x3)) ∧ (x4 = (-1) ∨ ¬ (x4 < 1) ∧ ¬ (16 < x4)) then 1 else 0)), (0, (if (¬ (x1 < 0) ∧ ¬ (3 < x1)) ∧ (¬ (x2 < 1) ∧ ¬ (9 < x2)) ∧ (¬ (x3 < 1) ∧ ¬ (8 < x3)) ∧ (x4 = (-1) ∨ ¬ (x4 < 1) ∧ ¬ (16 < x4)) then 1 else 0)), (9, 0), (9, 0)] [(0, 2), (1, 282)] h) rfl ?_
            simp only [if_neg c12]
        refine e10.trans ?_
        refine Eq.trans (b := vrun mX13_share 190 [(1, 282), (0, x1), (0, x2), (0, x3), (0, x4), (0, (if ¬ (x1 < 0) ∧ ¬ (3 < x1) then 1 else 0)), (0, (if (¬ (x2 < 1) ∧ ¬ (9 < x2)) ∧ (¬ (x3 < 1) ∧ ¬ (8 < x3)) ∧ (x4 = (-1) ∨ ¬ (x4 < 1) ∧ ¬ (16 < x4)) then 1 else 0)), (0, (if (¬ (x1 < 0) ∧ ¬ (3 < x1)) ∧ (¬ (x2 < 1) ∧ ¬ (9 < x2)) ∧ (¬ (x3 < 1) ∧ ¬ (8 < x3)) ∧ (x4 = (-1) ∨ ¬ (x4 < 1) ∧ ¬ (16 < x4)) then 1 else 0)), (9, 0), (9, 0)] [(0, (if (¬ (x2 < 1) ∧ ¬ (9 < x2)) ∧ (¬ (x3 < 1) ∧ ¬ (8 < x3)) ∧ (x4 = (-1) ∨ ¬ (x4 < 1) ∧ ¬ (16 < x4)) then (if (¬ (x1 < 0) ∧ ¬ (3 < x1)) ∧ (¬ (x2 < 1) ∧ ¬ (9 < x2)) ∧ (¬ (x3 < 1) ∧ ¬ (8 < x3)) ∧ (x4 = (-1) ∨ ¬ (x4 < 1) ∧ ¬ (16 < x4)) then 0 else 3) else 2)), (1, 282)] h) rfl ?_
        simp only [if_pos c11]
      · refine (if_neg c11).trans ?_
        refine (rn_iconst (pc := 167) (dd bX13_share dX13_share_167) (by decide)).trans ?_
        refine (rn_goto (t := 190) (pc := 168) (dd bX13_share dX13_share_168) rfl).trans ?_
        refine Eq.trans (b := vrun mX13_share 190 [(1, 282), (0, x1), (0, x2), (0, x3), (0, x4), (0, (if ¬ (x1 < 0) ∧ ¬ (3 < x1) then 1 else 0)), (0, (if (¬ (x2 < 1) ∧ ¬ (9 < x2)) ∧ (¬ (x3 < 1) ∧ ¬ (8 < x3)) ∧ (x4 = (-1) ∨ ¬ (x4 < 1) ∧ ¬ (16 < x4)) then 1 else 0)), (0, (if (¬ (x1 < 0) ∧ ¬ (3 < x1)) ∧ (¬ (x2 < 1) ∧ ¬ (9 < x2)) ∧ (¬ (x3 < 1) ∧ ¬ (8 < x3)) ∧ (x4 = (-1) ∨ ¬ (x4 < 1) ∧ ¬ (16 < x4)) then 1 else 0)), (9, 0), (9, 0)] [(0, 1), (1, 282)] h) rfl ?_
        simp only [if_neg c11]
    refine e11.trans ?_
    exact rg_virtual (pc := 190) (dd bX13_share dX13_share_190) rfl rfl (by decide) (kc := 34) rfl s1.1 (as := [(1, 282), (0, (if ¬ (x1 < 0) ∧ ¬ (3 < x1) then (if (¬ (x2 < 1) ∧ ¬ (9 < x2)) ∧ (¬ (x3 < 1) ∧ ¬ (8 < x3)) ∧ (x4 = (-1) ∨ ¬ (x4 < 1) ∧ ¬ (16 < x4)) then (if (¬ (x1 < 0) ∧ ¬ (3 < x1)) ∧ (¬ (x2 < 1) ∧ ¬ (9 < x2)) ∧ (¬ (x3 < 1) ∧ ¬ (8 < x3)) ∧ (x4 = (-1) ∨ ¬ (x4 < 1) ∧ ¬ (16 < x4)) then 0 else 3) else 2) else 1))]) rfl ⟨Nat.le_of_ble_eq_true rfl, Nat.le_of_ble_eq_true rfl, Nat.le_of_ble_eq_true rfl, Nat.le_of_ble_eq_true rfl⟩
theorem rX13_share_193 {x1 : Int} {x2 : Int} {x3 : Int} {x4 : Int} {x5 : Int} {x6 : Int} {x7 : Int} {v8 : vv} {v9 : vv} {y0 : Int} {h : vH} (s1 : shModel h) (p2 : ¬ (y0 = 0) → 0 ≤ x1) (p3 : ¬ (y0 = 0) → x1 < 4) : vrun mX13_share 193 [(1, 282), (0, x1), (0, x2), (0, x3), (0, x4), (0, x5), (0, x6), (0, x7), v8, v9] [(0, y0)] h = if y0 = 0 then some (.inl (some (0, 0)), h) else vret vrun mX13_share 206 [(1, 282), (0, x1), (0, x2), (0, x3), (0, x4), (0, x5), (0, x6), (0, x7), v8, v9] [] (vcl mX13_shares [(1, 282)] (vup h 2 290 x1 x2)) := by
  refine (rg_if_ne (t := 198) (pc := 193) (dd bX13_share dX13_share_193) rfl).trans (itec (fun c1 => ?_) (fun c1 => ?_))
  · refine (rn_iconst (pc := 196) (dd bX13_share dX13_share_196) (by decide)).trans ?_
    exact rn_ireturn (pc := 197) (dd bX13_share dX13_share_197) (Or.inl rfl)
  · refine (rn_aload_n (pc := 198) (dd bX13_share dX13_share_198) rfl).trans ?_
    refine (rg_gf (pc := 199) (dd bX13_share dX13_share_199) (ci := 14) (j := 9) rfl rfl (key := 1509) rfl (kc := 34) rfl s1.1 s1.2.2.2.2.2.2.2.2.2.2.2.2.2.2.2.2.2.2.2.2.2.2.1).trans ?_
    refine (rn_iload_n (pc := 202) (dd bX13_share dX13_share_202) rfl).trans ?_
    refine (rn_iload_n (pc := 203) (dd bX13_share dX13_share_203) rfl).trans ?_
    refine (rg_iastore (pc := 204) (dd bX13_share dX13_share_204) s1.2.2.2.2.2.2.2.2.2.2.2.2.2.2.2.2.2.2.2.2.2.2.2.1 s1.2.2.2.2.2.2.2.2.2.2.2.2.2.2.2.2.2.2.2.2.2.2.2.2.1 (p2 c1) (p3 c1)).trans ?_
    refine (rn_aload_n (pc := 205) (dd bX13_share dX13_share_205) rfl).trans ?_
    exact rg_virtual (pc := 206) (dd bX13_share dX13_share_206) rfl rfl (by decide) (kc := 34) rfl ((vup_k (by decide)).trans s1.1) (as := [(1, 282)]) rfl ⟨Nat.le_of_ble_eq_true rfl, Nat.le_of_ble_eq_true rfl, Nat.le_of_ble_eq_true rfl, Nat.le_of_ble_eq_true rfl⟩
theorem rX13_share_116 {x1 : Int} {x2 : Int} {x3 : Int} {x4 : Int} {x5 : Int} {x6 : Int} {x7 : Int} {x8 : Int} {x9 : Int} {y0 : Int} {h : vH} (s1 : shModel h) (p2 : 0 ≤ x1) (p3 : x1 < 4) : vrun mX13_share 116 [(1, 282), (0, x1), (0, x2), (0, x3), (0, x4), (0, x5), (0, x6), (0, x7), (0, x8), (0, x9)] [(0, y0)] h = vret vrun mX13_share 190 [(1, 282), (0, x1), (0, x2), (0, x3), (0, x4), (0, x5), (0, x6), (0, (if ¬ (y0 = 0) then 1 else 0)), (0, x8), (0, x9)] [] (vcl mX13_isFine [(1, 282), (0, (if x5 = 0 then 1 else (if x6 = 0 then 2 else (if ¬ (y0 = 0) then 0 else 3))))] (vup (vup h 2 291 x1 (if ¬ (y0 = 0) then x3 else x8)) 2 292 x1 (if ¬ (y0 = 0) then x4 else x9))) := by
  have e1 : vrun mX13_share 116 [(1, 282), (0, x1), (0, x2), (0, x3), (0, x4), (0, x5), (0, x6), (0, x7), (0, x8), (0, x9)] [(0, y0)] h = vrun mX13_share 124 [(1, 282), (0, x1), (0, x2), (0, x3), (0, x4), (0, x5), (0, x6), (0, x7), (0, x8), (0, x9)] [(0, (if ¬ (y0 = 0) then 1 else 0))] h := by
    refine (rn_if_eq (t := 123) (pc := 116) (dd bX13_share dX13_share_116) rfl).trans ?_
    by_cases c1 : y0 = 0
    · refine (if_pos c1).trans ?_
      refine (rn_iconst (pc := 123) (dd bX13_share dX13_share_123) (by decide)).trans ?_
      refine Eq.trans (b := vrun mX13_share 124 [(1, 282), (0, x1), (0, x2), (0, x3), (0, x4), (0, x5), (0, x6), (0, x7), (0, x8), (0, x9)] [(0, 0)] h) rfl ?_
      simp only [c1, true_or, false_or, or_true, or_false, true_and, false_and, and_true, and_false, not_true_eq_false, not_false_eq_true, ne_eq, if_true, if_false, ↓reduceIte]
    · refine (if_neg c1).trans ?_
      refine (rn_iconst (pc := 119) (dd bX13_share dX13_share_119) (by decide)).trans ?_
      refine (rn_goto (t := 124) (pc := 120) (dd bX13_share dX13_share_120) rfl).trans ?_
      refine Eq.trans (b := vrun mX13_share 124 [(1, 282), (0, x1), (0, x2), (0, x3), (0, x4), (0, x5), (0, x6), (0, x7), (0, x8), (0, x9)] [(0, 1)] h) rfl ?_
      simp only [c1, true_or, false_or, or_true, or_false, true_and, false_and, and_true, and_false, not_true_eq_false, not_false_eq_true, ne_eq, if_true, if_false, ↓reduceIte]
  refine e1.trans ?_
  refine (rn_istore (pc := 124) (dd bX13_share dX13_share_124) (Nat.le_of_ble_eq_true rfl) rfl).trans ?_
  refine (rn_aload_n (pc := 126) (dd bX13_share dX13_share_126) rfl).trans ?_
  refine (rg_gf (pc := 127) (dd bX13_share dX13_share_127) (ci := 14) (j := 10) rfl rfl (key := 1510) rfl (kc := 34) rfl s1.1 s1.2.2.2.2.2.2.2.2.2.2.2.2.2.2.2.2.2.2.2.2.2.2.2.2.2.1).trans ?_
  refine (rn_iload_n (pc := 130) (dd bX13_share dX13_share_130) rfl).trans ?_
  refine (rn_iload (pc := 131) (dd bX13_share dX13_share_131) rfl).trans ?_
  have e2 : vrun mX13_share 133 [(1, 282), (0, x1), (0, x2), (0, x3), (0, x4), (0, x5), (0, x6), (0, (if ¬ (y0 = 0) then 1 else 0)), (0, x8), (0, x9)] [(0, (if ¬ (y0 = 0) then 1 else 0)), (0, x1), (1, 291)] h = vrun mX13_share 142 [(1, 282), (0, x1), (0, x2), (0, x3), (0, x4), (0, x5), (0, x6), (0, (if ¬ (y0 = 0) then 1 else 0)), (0, x8), (0, x9)] [(0, (if ¬ (y0 = 0) then x3 else x8)), (0, x1), (1, 291)] h := by
    refine (rg_beq (t := 140) (pc := 133) (dd bX13_share dX13_share_133) rfl).trans ?_
    by_cases c2 : ¬ (y0 = 0)
    · refine (if_pos c2).trans ?_
      refine (rn_iload_n (pc := 136) (dd bX13_share dX13_share_136) rfl).trans ?_
      refine (rn_goto (t := 142) (pc := 137) (dd bX13_share dX13_share_137) rfl).trans ?_
      refine Eq.trans (b := vrun mX13_share 142 [(1, 282), (0, x1), (0, x2), (0, x3), (0, x4), (0, x5), (0, x6), (0, (if ¬ (y0 = 0) then 1 else 0)), (0, x8), (0, x9)] [(0, x3), (0, x1), (1, 291)] h) rfl ?_
      simp only [if_pos c2]
    · refine (if_neg c2).trans ?_
      refine (rn_iload (pc := 140) (dd bX13_share dX13_share_140) rfl).trans ?_
      refine Eq.trans (b := vrun mX13_share 142 [(1, 282), (0, x1), (0, x2), (0, x3), (0, x4), (0, x5), (0, x6), (0, (if ¬ (y0 = 0) then 1 else 0)), (0, x8), (0, x9)] [(0, x8), (0, x1), (1, 291)] h) rfl ?_
      simp only [if_neg c2]
  refine e2.trans ?_
  refine (rg_iastore (pc := 142) (dd bX13_share dX13_share_142) s1.2.2.2.2.2.2.2.2.2.2.2.2.2.2.2.2.2.2.2.2.2.2.2.2.2.2.1 s1.2.2.2.2.2.2.2.2.2.2.2.2.2.2.2.2.2.2.2.2.2.2.2.2.2.2.2.1 p2 p3).trans ?_
  refine (rn_aload_n (pc := 143) (dd bX13_share dX13_share_143) rfl).trans ?_
  refine (rg_gf (pc := 144) (dd bX13_share dX13_share_144) (ci := 14) (j := 11) rfl rfl (key := 1511) rfl (kc := 34) rfl ((vup_k (by decide)).trans s1.1) ((vup_k (by decide)).trans s1.2.2.2.2.2.2.2.2.2.2.2.2.2.2.2.2.2.2.2.2.2.2.2.2.2.2.2.2.1)).trans ?_
  refine (rn_iload_n (pc := 147) (dd bX13_share dX13_share_147) rfl).trans ?_
  refine (rn_iload (pc := 148) (dd bX13_share dX13_share_148) rfl).trans ?_
  have e3 : vrun mX13_share 150 [(1, 282), (0, x1), (0, x2), (0, x3), (0, x4), (0, x5), (0, x6), (0, (if ¬ (y0 = 0) then 1 else 0)), (0, x8), (0, x9)] [(0, (if ¬ (y0 = 0) then 1 else 0)), (0, x1), (1, 292)] (vup h 2 291 x1 (if ¬ (y0 = 0) then x3 else x8)) = vrun mX13_share 160 [(1, 282), (0, x1), (0, x2), (0, x3), (0, x4), (0, x5), (0, x6), (0, (if ¬ (y0 = 0) then 1 else 0)), (0, x8), (0, x9)] [(0, (if ¬ (y0 = 0) then x4 else x9)), (0, x1), (1, 292)] (vup h 2 291 x1 (if ¬ (y0 = 0) then x3 else x8)) := by
    refine (rg_beq (t := 158) (pc := 150) (dd bX13_share dX13_share_150) rfl).trans ?_
    by_cases c3 : ¬ (y0 = 0)
    · refine (if_pos c3).trans ?_
      refine (rn_iload (pc := 153) (dd bX13_share dX13_share_153) rfl).trans ?_
      refine (rn_goto (t := 160) (pc := 155) (dd bX13_share dX13_share_155) rfl).trans ?_
      refine Eq.trans (b := vrun mX13_share 160 [(1, 282), (0, x1), (0, x2), (0, x3), (0, x4), (0, x5), (0, x6), (0, (if ¬ (y0 = 0) then 1 else 0)), (0, x8), (0, x9)] [(0, x4), (0, x1), (1, 292)] (vup h 2 291 x1 (if ¬ (y0 = 0) then x3 else x8))) rfl ?_
      simp only [if_pos c3]
    · refine (if_neg c3).trans ?_
      refine (rn_iload (pc := 158) (dd bX13_share dX13_share_158) rfl).trans ?_
      refine Eq.trans (b := vrun mX13_share 160 [(1, 282), (0, x1), (0, x2), (0, x3), (0, x4), (0, x5), (0, x6), (0, (if ¬ (y0 = 0) then 1 else 0)), (0, x8), (0, x9)] [(0, x9), (0, x1), (1, 292)] (vup h 2 291 x1 (if ¬ (y0 = 0) then x3 else x8))) rfl ?_
      simp only [if_neg c3]
  refine e3.trans ?_
  refine (rg_iastore (pc := 160) (dd bX13_share dX13_share_160) ((vup_k (by decide)).trans s1.2.2.2.2.2.2.2.2.2.2.2.2.2.2.2.2.2.2.2.2.2.2.2.2.2.2.2.2.2.1) ((vup_k (by decide)).trans s1.2.2.2.2.2.2.2.2.2.2.2.2.2.2.2.2.2.2.2.2.2.2.2.2.2.2.2.2.2.2.1) (by omega) (by omega)).trans ?_
  refine (rn_aload_n (pc := 161) (dd bX13_share dX13_share_161) rfl).trans ?_
  refine (rn_iload (pc := 162) (dd bX13_share dX13_share_162) rfl).trans ?_
  have e6 : vrun mX13_share 164 [(1, 282), (0, x1), (0, x2), (0, x3), (0, x4), (0, x5), (0, x6), (0, (if ¬ (y0 = 0) then 1 else 0)), (0, x8), (0, x9)] [(0, x5), (1, 282)] (vup (vup h 2 291 x1 (if ¬ (y0 = 0) then x3 else x8)) 2 292 x1 (if ¬ (y0 = 0) then x4 else x9)) = vrun mX13_share 190 [(1, 282), (0, x1), (0, x2), (0, x3), (0, x4), (0, x5), (0, x6), (0, (if ¬ (y0 = 0) then 1 else 0)), (0, x8), (0, x9)] [(0, (if x5 = 0 then 1 else (if x6 = 0 then 2 else (if ¬ (y0 = 0) then 0 else 3)))), (1, 282)] (vup (vup h 2 291 x1 (if ¬ (y0 = 0) then x3 else x8)) 2 292 x1 (if ¬ (y0 = 0) then x4 else x9)) := by
    refine (rg_if_ne (t := 171) (pc := 164) (dd bX13_share dX13_share_164) rfl).trans ?_
    by_cases c4 : x5 = 0
    · refine (if_pos c4).trans ?_
      refine (rn_iconst (pc := 167) (dd bX13_share dX13_share_167) (by decide)).trans ?_
      refine (rn_goto (t := 190) (pc := 168) (dd bX13_share dX13_share_168) rfl).trans ?_
      refine Eq.trans (b := vrun mX13_share 190 [(1, 282), (0, x1), (0, x2), (0, x3), (0, x4), (0, x5), (0, x6), (0, (if ¬ (y0 = 0) then 1 else 0)), (0, x8), (0, x9)] [(0, 1), (1, 282)] (vup (vup h 2 291 x1 (if ¬ (y0 = 0) then x3 else x8)) 2 292 x1 (if ¬ (y0 = 0) then x4 else x9))) rfl ?_
      simp only [if_pos c4]
    · refine (if_neg c4).trans ?_
      refine (rn_iload (pc := 171) (dd bX13_share dX13_share_171) rfl).trans ?_
      have e5 : vrun mX13_share 173 [(1, 282), (0, x1), (0, x2), (0, x3), (0, x4), (0, x5), (0, x6), (0, (if ¬ (y0 = 0) then 1 else 0)), (0, x8), (0, x9)] [(0, x6), (1, 282)] (vup (vup h 2 291 x1 (if ¬ (y0 = 0) then x3 else x8)) 2 292 x1 (if ¬ (y0 = 0) then x4 else x9)) = vrun mX13_share 190 [(1, 282), (0, x1), (0, x2), (0, x3), (0, x4), (0, x5), (0, x6), (0, (if ¬ (y0 = 0) then 1 else 0)), (0, x8), (0, x9)] [(0, (if x6 = 0 then 2 else (if ¬ (y0 = 0) then 0 else 3))), (1, 282)] (vup (vup h 2 291 x1 (if ¬ (y0 = 0) then x3 else x8)) 2 292 x1 (if ¬ (y0 = 0) then x4 else x9)) := by
        refine (rg_if_ne (t := 180) (pc := 173) (dd bX13_share dX13_share_173) rfl).trans ?_
        by_cases c5 : x6 = 0
        · refine (if_pos c5).trans ?_
          refine (rn_iconst (pc := 176) (dd bX13_share dX13_share_176) (by decide)).trans ?_
          refine (rn_goto (t := 190) (pc := 177) (dd bX13_share dX13_share_177) rfl).trans ?_
          refine Eq.trans (b := vrun mX13_share 190 [(1, 282), (0, x1), (0, x2), (0, x3), (0, x4), (0, x5), (0, x6), (0, (if ¬ (y0 = 0) then 1 else 0)), (0, x8), (0, x9)] [(0, 2), (1, 282)] (vup (vup h 2 291 x1 (if ¬ (y0 = 0) then x3 else x8)) 2 292 x1 (if ¬ (y0 = 0) then x4 else x9))) rfl ?_
          simp only [if_pos c5]
        · refine (if_neg c5).trans ?_
          refine (rn_iload (pc := 180) (dd bX13_share dX13_share_180) rfl).trans ?_
          have e4 : vrun mX13_share 182 [(1, 282), (0, x1), (0, x2), (0, x3), (0, x4), (0, x5), (0, x6), (0, (if ¬ (y0 = 0) then 1 else 0)), (0, x8), (0, x9)] [(0, (if ¬ (y0 = 0) then 1 else 0)), (1, 282)] (vup (vup h 2 291 x1 (if ¬ (y0 = 0) then x3 else x8)) 2 292 x1 (if ¬ (y0 = 0) then x4 else x9)) = vrun mX13_share 190 [(1, 282), (0, x1), (0, x2), (0, x3), (0, x4), (0, x5), (0, x6), (0, (if ¬ (y0 = 0) then 1 else 0)), (0, x8), (0, x9)] [(0, (if ¬ (y0 = 0) then 0 else 3)), (1, 282)] (vup (vup h 2 291 x1 (if ¬ (y0 = 0) then x3 else x8)) 2 292 x1 (if ¬ (y0 = 0) then x4 else x9)) := by
            refine (rg_bne (t := 189) (pc := 182) (dd bX13_share dX13_share_182) rfl).trans ?_
            by_cases c6 : ¬ (y0 = 0)
            · refine (if_pos c6).trans ?_
              refine (rn_iconst (pc := 189) (dd bX13_share dX13_share_189) (by decide)).trans ?_
              refine Eq.trans (b := vrun mX13_share 190 [(1, 282), (0, x1), (0, x2), (0, x3), (0, x4), (0, x5), (0, x6), (0, (if ¬ (y0 = 0) then 1 else 0)), (0, x8), (0, x9)] [(0, 0), (1, 282)] (vup (vup h 2 291 x1 (if ¬ (y0 = 0) then x3 else x8)) 2 292 x1 (if ¬ (y0 = 0) then x4 else x9))) rfl ?_
              simp only [if_pos c6]
            · refine (if_neg c6).trans ?_
              refine (rn_iconst (pc := 185) (dd bX13_share dX13_share_185) (by decide)).trans ?_
              refine (rn_goto (t := 190) (pc := 186) (dd bX13_share dX13_share_186) rfl).trans ?_
              refine Eq.trans (b := vrun mX13_share 190 [(1, 282), (0, x1), (0, x2), (0, x3), (0, x4), (0, x5), (0, x6), (0, (if ¬ (y0 = 0) then 1 else 0)), (0, x8), (0, x9)] [(0, 3), (1, 282)] (vup (vup h 2 291 x1 (if ¬ (y0 = 0) then x3 else x8)) 2 292 x1 (if ¬ (y0 = 0) then x4 else x9))) rfl ?_
              simp only [if_neg c6]
          refine e4.trans ?_
          refine Eq.trans (b := vrun mX13_share 190 [(1, 282), (0, x1), (0, x2), (0, x3), (0, x4), (0, x5), (0, x6), (0, (if ¬ (y0 = 0) then 1 else 0)), (0, x8), (0, x9)] [(0, (if ¬ (y0 = 0) then 0 else 3)), (1, 282)] (vup (vup h 2 291 x1 (if ¬ (y0 = 0) then x3 else x8)) 2 292 x1 (if ¬ (y0 = 0) then x4 else x9))) rfl ?_
          simp only [if_neg c5]
      refine e5.trans ?_
      refine Eq.trans (b := vrun mX13_share 190 [(1, 282), (0, x1), (0, x2), (0, x3), (0, x4), (0, x5), (0, x6), (0, (if ¬ (y0 = 0) then 1 else 0)), (0, x8), (0, x9)] [(0, (if x6 = 0 then 2 else (if ¬ (y0 = 0) then 0 else 3))), (1, 282)] (vup (vup h 2 291 x1 (if ¬ (y0 = 0) then x3 else x8)) 2 292 x1 (if ¬ (y0 = 0) then x4 else x9))) rfl ?_
      simp only [if_neg c4]
  refine e6.trans ?_
  exact rg_virtual (pc := 190) (dd bX13_share dX13_share_190) rfl rfl (by decide) (kc := 34) rfl ((vup_k (by decide)).trans ((vup_k (by decide)).trans s1.1)) (as := [(1, 282), (0, (if x5 = 0 then 1 else (if x6 = 0 then 2 else (if ¬ (y0 = 0) then 0 else 3))))]) rfl ⟨Nat.le_of_ble_eq_true rfl, Nat.le_of_ble_eq_true rfl, Nat.le_of_ble_eq_true rfl, Nat.le_of_ble_eq_true rfl⟩
theorem rX13_share_209 {x1 : Int} {x2 : Int} {x3 : Int} {x4 : Int} {x5 : Int} {x6 : Int} {x7 : Int} {v8 : vv} {v9 : vv} {h : vH} (s1 : shModel h) (p2 : 0 ≤ x1) (p3 : x1 < 4) : vrun mX13_share 209 [(1, 282), (0, x1), (0, x2), (0, x3), (0, x4), (0, x5), (0, x6), (0, x7), v8, v9] [] h = some (.inl (some (0, h 2 310 x1)), h) := by
  refine (rn_aload_n (pc := 209) (dd bX13_share dX13_share_209) rfl).trans ?_
  refine (rg_gf (pc := 210) (dd bX13_share dX13_share_210) (ci := 14) (j := 29) rfl rfl (key := 1529) rfl (kc := 34) rfl s1.1 s1.2.2.2.2.2.2.2.2.2.2.2.2.2.2.2.2.2.2.2.2.2.2.2.2.2.2.2.2.2.2.2.2.2.2.2.2.2.2.2.2.2.2.2.2.2.2.2.2.2.2.2.2.2.2.2.2.2.2.2.2.2.2.2.2.2.2.2.2.2.2.2.2.2.2.2.2.2.2.2.2.2.2.1).trans ?_
  refine (rn_iload_n (pc := 213) (dd bX13_share dX13_share_213) rfl).trans ?_
  refine (rg_iaload (pc := 214) (dd bX13_share dX13_share_214) s1.2.2.2.2.2.2.2.2.2.2.2.2.2.2.2.2.2.2.2.2.2.2.2.2.2.2.2.2.2.2.2.2.2.2.2.2.2.2.2.2.2.2.2.2.2.2.2.2.2.2.2.2.2.2.2.2.2.2.2.2.2.2.2.2.2.2.2.2.2.2.2.2.2.2.2.2.2.2.2.2.2.2.2.1 s1.2.2.2.2.2.2.2.2.2.2.2.2.2.2.2.2.2.2.2.2.2.2.2.2.2.2.2.2.2.2.2.2.2.2.2.2.2.2.2.2.2.2.2.2.2.2.2.2.2.2.2.2.2.2.2.2.2.2.2.2.2.2.2.2.2.2.2.2.2.2.2.2.2.2.2.2.2.2.2.2.2.2.2.2.1 p2 p3 rfl).trans ?_
  exact rn_ireturn (pc := 215) (dd bX13_share dX13_share_215) (Or.inl rfl)
