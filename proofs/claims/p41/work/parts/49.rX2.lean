theorem bX2_signCame : vmB mX2_signCame = cX2_signCame := rfl
theorem rX2_signCame_0 {x0 : Int} {x1 : Int} {x2 : Int} {h : vH} : vrun mX2_signCame 0 [(1, x0), (0, x1), (0, x2), (9, 0)] [] h = vrun mX2_signCame 2 [(1, x0), (0, x1), (0, x2), (0, 0)] [] h := by
  refine (rn_iconst (pc := 0) (dd bX2_signCame dX2_signCame_0) (by decide)).trans ?_
  refine (rn_istore_n (pc := 1) (dd bX2_signCame dX2_signCame_1) (Nat.le_of_ble_eq_true rfl) rfl).trans ?_
  rfl
theorem rX2_signCame_2 {x0 : Int} {x1 : Int} {x2 : Int} {x3 : Int} {h : vH} (s1 : shLayers h x0) (s2 : shList h (x0 + 1)) (p3 : ¬ (h 102 (x0 + 1) 0 ≤ x3) → ¬ (x3 < 0)) (p4 : ¬ (h 102 (x0 + 1) 0 ≤ x3) → h 0 (h 101 (x0 + 1) 0) 0 = 6) (p5 : ¬ (h 102 (x0 + 1) 0 ≤ x3) → 0 ≤ x3) (p6 : ¬ (h 102 (x0 + 1) 0 ≤ x3) → x3 < h 1 (h 101 (x0 + 1) 0) 0) (s7 : ¬ (h 102 (x0 + 1) 0 ≤ x3) → shSpan h (h 2 (h 101 (x0 + 1) 0) x3)) : vrun mX2_signCame 2 [(1, x0), (0, x1), (0, x2), (0, x3)] [] h = if h 102 (x0 + 1) 0 ≤ x3 then vrun mX2_signCame 59 [(1, x0), (0, x1), (0, x2), (0, 0)] [] h else vret vrun mX2_signCame 29 [(1, x0), (0, x1), (0, x2), (0, x3)] [] (vcl mX7_signCame [(1, h 2 (h 101 (x0 + 1) 0) x3 + 1), (0, x1), (0, x2)] h) := by
  refine (rn_iload_n (pc := 2) (dd bX2_signCame dX2_signCame_2) rfl).trans ?_
  refine (rn_aload_n (pc := 3) (dd bX2_signCame dX2_signCame_3) rfl).trans ?_
  refine (rg_gf (pc := 4) (dd bX2_signCame dX2_signCame_4) (ci := 3) (j := 0) rfl rfl (key := 400) rfl (kc := 23) rfl s1.1 s1.2.1).trans ?_
  refine (rg_virtual (pc := 7) (dd bX2_signCame dX2_signCame_7) rfl rfl (by decide) (kc := 20) rfl s2 (as := [(1, x0 + 1)]) rfl ⟨Nat.le_of_ble_eq_true rfl, Nat.le_of_ble_eq_true rfl, Nat.le_of_ble_eq_true rfl, Nat.le_of_ble_eq_true rfl⟩).trans ?_
  refine (vret_v (spJx4a65c_size_8abf5 s2)).trans ?_
  refine (rn_icmp_ge (t := 57) (pc := 10) (dd bX2_signCame dX2_signCame_10) rfl).trans (itec (fun c1 => ?_) (fun c1 => ?_))
  · refine (rn_iconst (pc := 57) (dd bX2_signCame dX2_signCame_57) (by decide)).trans ?_
    refine (rn_istore_n (pc := 58) (dd bX2_signCame dX2_signCame_58) (Nat.le_of_ble_eq_true rfl) rfl).trans ?_
    rfl
  · refine (rn_aload_n (pc := 13) (dd bX2_signCame dX2_signCame_13) rfl).trans ?_
    refine (rg_gf (pc := 14) (dd bX2_signCame dX2_signCame_14) (ci := 3) (j := 0) rfl rfl (key := 400) rfl (kc := 23) rfl s1.1 s1.2.1).trans ?_
    refine (rn_iload_n (pc := 17) (dd bX2_signCame dX2_signCame_17) rfl).trans ?_
    refine (rg_virtual (pc := 18) (dd bX2_signCame dX2_signCame_18) rfl rfl (by decide) (kc := 20) rfl s2 (as := [(1, x0 + 1), (0, x3)]) rfl ⟨Nat.le_of_ble_eq_true rfl, Nat.le_of_ble_eq_true rfl, Nat.le_of_ble_eq_true rfl, Nat.le_of_ble_eq_true rfl⟩).trans ?_
    refine (vret_v (spJx4a65c_get_915e3 s2 (p3 c1) (Int.not_le.mp c1) (p4 c1) (p5 c1) (p6 c1))).trans ?_
    refine (rg_cast (pc := 21) (dd bX2_signCame dX2_signCame_21) (ci := 9) rfl (kc := 29) rfl (s7 c1).1).trans ?_
    refine (rg_gf (pc := 24) (dd bX2_signCame dX2_signCame_24) (ci := 9) (j := 0) rfl rfl (key := 1000) rfl (kc := 29) rfl (s7 c1).1 (s7 c1).2.1).trans ?_
    refine (rn_iload_n (pc := 27) (dd bX2_signCame dX2_signCame_27) rfl).trans ?_
    refine (rn_iload_n (pc := 28) (dd bX2_signCame dX2_signCame_28) rfl).trans ?_
    exact rg_virtual (pc := 29) (dd bX2_signCame dX2_signCame_29) rfl rfl (by decide) (kc := 28) rfl (s7 c1).2.2.1 (as := [(1, h 2 (h 101 (x0 + 1) 0) x3 + 1), (0, x1), (0, x2)]) rfl ⟨Nat.le_of_ble_eq_true rfl, Nat.le_of_ble_eq_true rfl, Nat.le_of_ble_eq_true rfl, Nat.le_of_ble_eq_true rfl⟩
theorem rX2_signCame_59 {x0 : Int} {x1 : Int} {x2 : Int} {x3 : Int} {h : vH} (s1 : shLayers h x0) (s2 : shList h (x0 + 2)) (p3 : ¬ (h 102 (x0 + 2) 0 ≤ x3) → ¬ (x3 < 0)) (p4 : ¬ (h 102 (x0 + 2) 0 ≤ x3) → h 0 (h 101 (x0 + 2) 0) 0 = 6) (p5 : ¬ (h 102 (x0 + 2) 0 ≤ x3) → 0 ≤ x3) (p6 : ¬ (h 102 (x0 + 2) 0 ≤ x3) → x3 < h 1 (h 101 (x0 + 2) 0) 0) (s7 : ¬ (h 102 (x0 + 2) 0 ≤ x3) → shVirtual h (h 2 (h 101 (x0 + 2) 0) x3)) : vrun mX2_signCame 59 [(1, x0), (0, x1), (0, x2), (0, x3)] [] h = if h 102 (x0 + 2) 0 ≤ x3 then some (.inl none, h) else vret vrun mX2_signCame 86 [(1, x0), (0, x1), (0, x2), (0, x3)] [] (vcl mX7_signCame [(1, h 2 (h 101 (x0 + 2) 0) x3 + 1), (0, x1), (0, x2)] h) := by
  refine (rn_iload_n (pc := 59) (dd bX2_signCame dX2_signCame_59) rfl).trans ?_
  refine (rn_aload_n (pc := 60) (dd bX2_signCame dX2_signCame_60) rfl).trans ?_
  refine (rg_gf (pc := 61) (dd bX2_signCame dX2_signCame_61) (ci := 3) (j := 1) rfl rfl (key := 401) rfl (kc := 23) rfl s1.1 s1.2.2.1).trans ?_
  refine (rg_virtual (pc := 64) (dd bX2_signCame dX2_signCame_64) rfl rfl (by decide) (kc := 20) rfl s2 (as := [(1, x0 + 2)]) rfl ⟨Nat.le_of_ble_eq_true rfl, Nat.le_of_ble_eq_true rfl, Nat.le_of_ble_eq_true rfl, Nat.le_of_ble_eq_true rfl⟩).trans ?_
  refine (vret_v (spJx4a65c_size_8abf5 s2)).trans ?_
  refine (rn_icmp_ge (t := 95) (pc := 67) (dd bX2_signCame dX2_signCame_67) rfl).trans (itec (fun c1 => ?_) (fun c1 => ?_))
  · exact rn_return (pc := 95) (dd bX2_signCame dX2_signCame_95) rfl
  · refine (rn_aload_n (pc := 70) (dd bX2_signCame dX2_signCame_70) rfl).trans ?_
    refine (rg_gf (pc := 71) (dd bX2_signCame dX2_signCame_71) (ci := 3) (j := 1) rfl rfl (key := 401) rfl (kc := 23) rfl s1.1 s1.2.2.1).trans ?_
    refine (rn_iload_n (pc := 74) (dd bX2_signCame dX2_signCame_74) rfl).trans ?_
    refine (rg_virtual (pc := 75) (dd bX2_signCame dX2_signCame_75) rfl rfl (by decide) (kc := 20) rfl s2 (as := [(1, x0 + 2), (0, x3)]) rfl ⟨Nat.le_of_ble_eq_true rfl, Nat.le_of_ble_eq_true rfl, Nat.le_of_ble_eq_true rfl, Nat.le_of_ble_eq_true rfl⟩).trans ?_
    refine (vret_v (spJx4a65c_get_915e3 s2 (p3 c1) (Int.not_le.mp c1) (p4 c1) (p5 c1) (p6 c1))).trans ?_
    refine (rg_cast (pc := 78) (dd bX2_signCame dX2_signCame_78) (ci := 12) rfl (kc := 32) rfl (s7 c1).1).trans ?_
    refine (rg_gf (pc := 81) (dd bX2_signCame dX2_signCame_81) (ci := 12) (j := 0) rfl rfl (key := 1300) rfl (kc := 32) rfl (s7 c1).1 (s7 c1).2.1).trans ?_
    refine (rn_iload_n (pc := 84) (dd bX2_signCame dX2_signCame_84) rfl).trans ?_
    refine (rn_iload_n (pc := 85) (dd bX2_signCame dX2_signCame_85) rfl).trans ?_
    exact rg_virtual (pc := 86) (dd bX2_signCame dX2_signCame_86) rfl rfl (by decide) (kc := 28) rfl (s7 c1).2.2 (as := [(1, h 2 (h 101 (x0 + 2) 0) x3 + 1), (0, x1), (0, x2)]) rfl ⟨Nat.le_of_ble_eq_true rfl, Nat.le_of_ble_eq_true rfl, Nat.le_of_ble_eq_true rfl, Nat.le_of_ble_eq_true rfl⟩
theorem rX2_signCame_32 {x0 : Int} {x1 : Int} {x2 : Int} {x3 : Int} {h : vH} (s1 : shLayers h x0) (s2 : shList h (x0 + 1)) (p3 : ¬ (x3 < 0)) (p4 : x3 < h 102 (x0 + 1) 0) (p5 : h 0 (h 101 (x0 + 1) 0) 0 = 6) (p6 : 0 ≤ x3) (p7 : x3 < h 1 (h 101 (x0 + 1) 0) 0) (s8 : shSpan h (h 2 (h 101 (x0 + 1) 0) x3)) : vrun mX2_signCame 32 [(1, x0), (0, x1), (0, x2), (0, x3)] [] h = vret vrun mX2_signCame 48 [(1, x0), (0, x1), (0, x2), (0, x3)] [] (vcl mX7_signCame [(1, h 2 (h 101 (x0 + 1) 0) x3 + 2), (0, x1), (0, x2)] h) := by
  refine (rn_aload_n (pc := 32) (dd bX2_signCame dX2_signCame_32) rfl).trans ?_
  refine (rg_gf (pc := 33) (dd bX2_signCame dX2_signCame_33) (ci := 3) (j := 0) rfl rfl (key := 400) rfl (kc := 23) rfl s1.1 s1.2.1).trans ?_
  refine (rn_iload_n (pc := 36) (dd bX2_signCame dX2_signCame_36) rfl).trans ?_
  refine (rg_virtual (pc := 37) (dd bX2_signCame dX2_signCame_37) rfl rfl (by decide) (kc := 20) rfl s2 (as := [(1, x0 + 1), (0, x3)]) rfl ⟨Nat.le_of_ble_eq_true rfl, Nat.le_of_ble_eq_true rfl, Nat.le_of_ble_eq_true rfl, Nat.le_of_ble_eq_true rfl⟩).trans ?_
  refine (vret_v (spJx4a65c_get_915e3 s2 p3 p4 p5 p6 p7)).trans ?_
  refine (rg_cast (pc := 40) (dd bX2_signCame dX2_signCame_40) (ci := 9) rfl (kc := 29) rfl s8.1).trans ?_
  refine (rg_gf (pc := 43) (dd bX2_signCame dX2_signCame_43) (ci := 9) (j := 1) rfl rfl (key := 1001) rfl (kc := 29) rfl s8.1 s8.2.2.2.1).trans ?_
  refine (rn_iload_n (pc := 46) (dd bX2_signCame dX2_signCame_46) rfl).trans ?_
  refine (rn_iload_n (pc := 47) (dd bX2_signCame dX2_signCame_47) rfl).trans ?_
  exact rg_virtual (pc := 48) (dd bX2_signCame dX2_signCame_48) rfl rfl (by decide) (kc := 28) rfl s8.2.2.2.2 (as := [(1, h 2 (h 101 (x0 + 1) 0) x3 + 2), (0, x1), (0, x2)]) rfl ⟨Nat.le_of_ble_eq_true rfl, Nat.le_of_ble_eq_true rfl, Nat.le_of_ble_eq_true rfl, Nat.le_of_ble_eq_true rfl⟩
theorem rX2_signCame_89 {x0 : Int} {x1 : Int} {x2 : Int} {x3 : Int} {h : vH} (p1 : (-2147483648) ≤ x3 + 1) (p2 : x3 + 1 < 2147483648) : vrun mX2_signCame 89 [(1, x0), (0, x1), (0, x2), (0, x3)] [] h = vrun mX2_signCame 59 [(1, x0), (0, x1), (0, x2), (0, x3 + 1)] [] h := by
  refine (rg_iinc (pc := 89) (dd bX2_signCame dX2_signCame_89) rfl (Nat.le_of_ble_eq_true rfl) p1 p2 rfl).trans ?_
  refine (rn_goto (t := 59) (pc := 92) (dd bX2_signCame dX2_signCame_92) rfl).trans ?_
  rfl
theorem rX2_signCame_51 {x0 : Int} {x1 : Int} {x2 : Int} {x3 : Int} {h : vH} (p1 : (-2147483648) ≤ x3 + 1) (p2 : x3 + 1 < 2147483648) : vrun mX2_signCame 51 [(1, x0), (0, x1), (0, x2), (0, x3)] [] h = vrun mX2_signCame 2 [(1, x0), (0, x1), (0, x2), (0, x3 + 1)] [] h := by
  refine (rg_iinc (pc := 51) (dd bX2_signCame dX2_signCame_51) rfl (Nat.le_of_ble_eq_true rfl) p1 p2 rfl).trans ?_
  refine (rn_goto (t := 2) (pc := 54) (dd bX2_signCame dX2_signCame_54) rfl).trans ?_
  rfl
theorem bX2_signsWent : vmB mX2_signsWent = cX2_signsWent := rfl
theorem rX2_signsWent_0 {x0 : Int} {x1 : Int} {x2 : Int} {x3 : Int} {h : vH} (s1 : shLayers h x0) (s2 : shList h (x0 + 1)) (p3 : (-2147483648) ≤ h 102 (x0 + 1) 0 - 1) (p4 : h 102 (x0 + 1) 0 - 1 < 2147483648) : vrun mX2_signsWent 0 [(1, x0), (0, x1), (0, x2), (0, x3), (9, 0), (9, 0)] [] h = vrun mX2_signsWent 11 [(1, x0), (0, x1), (0, x2), (0, x3), (0, h 102 (x0 + 1) 0 - 1), (9, 0)] [] h := by
  refine (rn_aload_n (pc := 0) (dd bX2_signsWent dX2_signsWent_0) rfl).trans ?_
  refine (rg_gf (pc := 1) (dd bX2_signsWent dX2_signsWent_1) (ci := 3) (j := 0) rfl rfl (key := 400) rfl (kc := 23) rfl s1.1 s1.2.1).trans ?_
  refine (rg_virtual (pc := 4) (dd bX2_signsWent dX2_signsWent_4) rfl rfl (by decide) (kc := 20) rfl s2 (as := [(1, x0 + 1)]) rfl ⟨Nat.le_of_ble_eq_true rfl, Nat.le_of_ble_eq_true rfl, Nat.le_of_ble_eq_true rfl, Nat.le_of_ble_eq_true rfl⟩).trans ?_
  refine (vret_v (spJx4a65c_size_8abf5 s2)).trans ?_
  refine (rn_iconst (pc := 7) (dd bX2_signsWent dX2_signsWent_7) (by decide)).trans ?_
  refine (rg_isub (pc := 8) (dd bX2_signsWent dX2_signsWent_8) p3 p4).trans ?_
  refine (rn_istore (pc := 9) (dd bX2_signsWent dX2_signsWent_9) (Nat.le_of_ble_eq_true rfl) rfl).trans ?_
  rfl
theorem rX2_signsWent_11 {x0 : Int} {x1 : Int} {x2 : Int} {x3 : Int} {x4 : Int} {v5 : vv} {h : vH} (s1 : shLayers h x0) (s2 : ¬ (x4 < 0) → shList h (x0 + 1)) (p3 : ¬ (x4 < 0) → ¬ (x4 < 0)) (p4 : ¬ (x4 < 0) → x4 < h 102 (x0 + 1) 0) (p5 : ¬ (x4 < 0) → h 0 (h 101 (x0 + 1) 0) 0 = 6) (p6 : ¬ (x4 < 0) → x4 < h 1 (h 101 (x0 + 1) 0) 0) (s7 : ¬ (x4 < 0) → shSpan h (h 2 (h 101 (x0 + 1) 0) x4)) : vrun mX2_signsWent 11 [(1, x0), (0, x1), (0, x2), (0, x3), (0, x4), v5] [] h = if x4 < 0 then vrun mX2_signsWent 90 [(1, x0), (0, x1), (0, x2), (0, x3), (0, 0), v5] [] h else vret vrun mX2_signsWent 38 [(1, x0), (0, x1), (0, x2), (0, x3), (0, x4), (1, h 2 (h 101 (x0 + 1) 0) x4)] [] (vcl mX7_signsWent [(1, h 2 (h 101 (x0 + 1) 0) x4 + 1), (0, x1), (0, x2), (0, x3)] h) := by
  refine (rn_iload (pc := 11) (dd bX2_signsWent dX2_signsWent_11) rfl).trans ?_
  refine (rn_if_lt (t := 87) (pc := 13) (dd bX2_signsWent dX2_signsWent_13) rfl).trans (itec (fun c1 => ?_) (fun c1 => ?_))
  · refine (rn_iconst (pc := 87) (dd bX2_signsWent dX2_signsWent_87) (by decide)).trans ?_
    refine (rn_istore (pc := 88) (dd bX2_signsWent dX2_signsWent_88) (Nat.le_of_ble_eq_true rfl) rfl).trans ?_
    rfl
  · refine (rn_aload_n (pc := 16) (dd bX2_signsWent dX2_signsWent_16) rfl).trans ?_
    refine (rg_gf (pc := 17) (dd bX2_signsWent dX2_signsWent_17) (ci := 3) (j := 0) rfl rfl (key := 400) rfl (kc := 23) rfl s1.1 s1.2.1).trans ?_
    refine (rn_iload (pc := 20) (dd bX2_signsWent dX2_signsWent_20) rfl).trans ?_
    refine (rg_virtual (pc := 22) (dd bX2_signsWent dX2_signsWent_22) rfl rfl (by decide) (kc := 20) rfl (s2 c1) (as := [(1, x0 + 1), (0, x4)]) rfl ⟨Nat.le_of_ble_eq_true rfl, Nat.le_of_ble_eq_true rfl, Nat.le_of_ble_eq_true rfl, Nat.le_of_ble_eq_true rfl⟩).trans ?_
    refine (vret_v (spJx4a65c_get_915e3 (s2 c1) (p3 c1) (p4 c1) (p5 c1) (Int.not_lt.mp c1) (p6 c1))).trans ?_
    refine (rg_cast (pc := 25) (dd bX2_signsWent dX2_signsWent_25) (ci := 9) rfl (kc := 29) rfl (s7 c1).1).trans ?_
    refine (rn_astore (pc := 28) (dd bX2_signsWent dX2_signsWent_28) (Nat.le_of_ble_eq_true rfl) rfl).trans ?_
    refine (rn_aload (pc := 30) (dd bX2_signsWent dX2_signsWent_30) rfl).trans ?_
    refine (rg_gf (pc := 32) (dd bX2_signsWent dX2_signsWent_32) (ci := 9) (j := 0) rfl rfl (key := 1000) rfl (kc := 29) rfl (s7 c1).1 (s7 c1).2.1).trans ?_
    refine (rn_iload_n (pc := 35) (dd bX2_signsWent dX2_signsWent_35) rfl).trans ?_
    refine (rn_iload_n (pc := 36) (dd bX2_signsWent dX2_signsWent_36) rfl).trans ?_
    refine (rn_iload_n (pc := 37) (dd bX2_signsWent dX2_signsWent_37) rfl).trans ?_
    exact rg_virtual (pc := 38) (dd bX2_signsWent dX2_signsWent_38) rfl rfl (by decide) (kc := 28) rfl (s7 c1).2.2.1 (as := [(1, h 2 (h 101 (x0 + 1) 0) x4 + 1), (0, x1), (0, x2), (0, x3)]) rfl ⟨Nat.le_of_ble_eq_true rfl, Nat.le_of_ble_eq_true rfl, Nat.le_of_ble_eq_true rfl, Nat.le_of_ble_eq_true rfl⟩
theorem rX2_signsWent_90 {x0 : Int} {x1 : Int} {x2 : Int} {x3 : Int} {x4 : Int} {v5 : vv} {h : vH} (s1 : shLayers h x0) (s2 : shList h (x0 + 2)) (p3 : ¬ (h 102 (x0 + 2) 0 ≤ x4) → ¬ (x4 < 0)) (p4 : ¬ (h 102 (x0 + 2) 0 ≤ x4) → h 0 (h 101 (x0 + 2) 0) 0 = 6) (p5 : ¬ (h 102 (x0 + 2) 0 ≤ x4) → 0 ≤ x4) (p6 : ¬ (h 102 (x0 + 2) 0 ≤ x4) → x4 < h 1 (h 101 (x0 + 2) 0) 0) (s7 : ¬ (h 102 (x0 + 2) 0 ≤ x4) → shVirtual h (h 2 (h 101 (x0 + 2) 0) x4)) : vrun mX2_signsWent 90 [(1, x0), (0, x1), (0, x2), (0, x3), (0, x4), v5] [] h = if h 102 (x0 + 2) 0 ≤ x4 then some (.inl none, h) else vret vrun mX2_signsWent 120 [(1, x0), (0, x1), (0, x2), (0, x3), (0, x4), v5] [] (vcl mX7_signsWent [(1, h 2 (h 101 (x0 + 2) 0) x4 + 1), (0, x1), (0, x2), (0, x3)] h) := by
  refine (rn_iload (pc := 90) (dd bX2_signsWent dX2_signsWent_90) rfl).trans ?_
  refine (rn_aload_n (pc := 92) (dd bX2_signsWent dX2_signsWent_92) rfl).trans ?_
  refine (rg_gf (pc := 93) (dd bX2_signsWent dX2_signsWent_93) (ci := 3) (j := 1) rfl rfl (key := 401) rfl (kc := 23) rfl s1.1 s1.2.2.1).trans ?_
  refine (rg_virtual (pc := 96) (dd bX2_signsWent dX2_signsWent_96) rfl rfl (by decide) (kc := 20) rfl s2 (as := [(1, x0 + 2)]) rfl ⟨Nat.le_of_ble_eq_true rfl, Nat.le_of_ble_eq_true rfl, Nat.le_of_ble_eq_true rfl, Nat.le_of_ble_eq_true rfl⟩).trans ?_
  refine (vret_v (spJx4a65c_size_8abf5 s2)).trans ?_
  refine (rn_icmp_ge (t := 129) (pc := 99) (dd bX2_signsWent dX2_signsWent_99) rfl).trans (itec (fun c1 => ?_) (fun c1 => ?_))
  · exact rn_return (pc := 129) (dd bX2_signsWent dX2_signsWent_129) rfl
  · refine (rn_aload_n (pc := 102) (dd bX2_signsWent dX2_signsWent_102) rfl).trans ?_
    refine (rg_gf (pc := 103) (dd bX2_signsWent dX2_signsWent_103) (ci := 3) (j := 1) rfl rfl (key := 401) rfl (kc := 23) rfl s1.1 s1.2.2.1).trans ?_
    refine (rn_iload (pc := 106) (dd bX2_signsWent dX2_signsWent_106) rfl).trans ?_
    refine (rg_virtual (pc := 108) (dd bX2_signsWent dX2_signsWent_108) rfl rfl (by decide) (kc := 20) rfl s2 (as := [(1, x0 + 2), (0, x4)]) rfl ⟨Nat.le_of_ble_eq_true rfl, Nat.le_of_ble_eq_true rfl, Nat.le_of_ble_eq_true rfl, Nat.le_of_ble_eq_true rfl⟩).trans ?_
    refine (vret_v (spJx4a65c_get_915e3 s2 (p3 c1) (Int.not_le.mp c1) (p4 c1) (p5 c1) (p6 c1))).trans ?_
    refine (rg_cast (pc := 111) (dd bX2_signsWent dX2_signsWent_111) (ci := 12) rfl (kc := 32) rfl (s7 c1).1).trans ?_
    refine (rg_gf (pc := 114) (dd bX2_signsWent dX2_signsWent_114) (ci := 12) (j := 0) rfl rfl (key := 1300) rfl (kc := 32) rfl (s7 c1).1 (s7 c1).2.1).trans ?_
    refine (rn_iload_n (pc := 117) (dd bX2_signsWent dX2_signsWent_117) rfl).trans ?_
    refine (rn_iload_n (pc := 118) (dd bX2_signsWent dX2_signsWent_118) rfl).trans ?_
    refine (rn_iload_n (pc := 119) (dd bX2_signsWent dX2_signsWent_119) rfl).trans ?_
    exact rg_virtual (pc := 120) (dd bX2_signsWent dX2_signsWent_120) rfl rfl (by decide) (kc := 28) rfl (s7 c1).2.2 (as := [(1, h 2 (h 101 (x0 + 2) 0) x4 + 1), (0, x1), (0, x2), (0, x3)]) rfl ⟨Nat.le_of_ble_eq_true rfl, Nat.le_of_ble_eq_true rfl, Nat.le_of_ble_eq_true rfl, Nat.le_of_ble_eq_true rfl⟩
theorem rX2_signsWent_41 {x0 : Int} {x1 : Int} {x2 : Int} {x3 : Int} {x4 : Int} {x5 : Int} {h : vH} (s1 : shSpan h x5) : vrun mX2_signsWent 41 [(1, x0), (0, x1), (0, x2), (0, x3), (0, x4), (1, x5)] [] h = vret vrun mX2_signsWent 49 [(1, x0), (0, x1), (0, x2), (0, x3), (0, x4), (1, x5)] [] (vcl mX7_signsWent [(1, x5 + 2), (0, x1), (0, x2), (0, x3)] h) := by
  refine (rn_aload (pc := 41) (dd bX2_signsWent dX2_signsWent_41) rfl).trans ?_
  refine (rg_gf (pc := 43) (dd bX2_signsWent dX2_signsWent_43) (ci := 9) (j := 1) rfl rfl (key := 1001) rfl (kc := 29) rfl s1.1 s1.2.2.2.1).trans ?_
  refine (rn_iload_n (pc := 46) (dd bX2_signsWent dX2_signsWent_46) rfl).trans ?_
  refine (rn_iload_n (pc := 47) (dd bX2_signsWent dX2_signsWent_47) rfl).trans ?_
  refine (rn_iload_n (pc := 48) (dd bX2_signsWent dX2_signsWent_48) rfl).trans ?_
  exact rg_virtual (pc := 49) (dd bX2_signsWent dX2_signsWent_49) rfl rfl (by decide) (kc := 28) rfl s1.2.2.2.2 (as := [(1, x5 + 2), (0, x1), (0, x2), (0, x3)]) rfl ⟨Nat.le_of_ble_eq_true rfl, Nat.le_of_ble_eq_true rfl, Nat.le_of_ble_eq_true rfl, Nat.le_of_ble_eq_true rfl⟩
theorem rX2_signsWent_123 {x0 : Int} {x1 : Int} {x2 : Int} {x3 : Int} {x4 : Int} {v5 : vv} {h : vH} (p1 : (-2147483648) ≤ x4 + 1) (p2 : x4 + 1 < 2147483648) : vrun mX2_signsWent 123 [(1, x0), (0, x1), (0, x2), (0, x3), (0, x4), v5] [] h = vrun mX2_signsWent 90 [(1, x0), (0, x1), (0, x2), (0, x3), (0, x4 + 1), v5] [] h := by
  refine (rg_iinc (pc := 123) (dd bX2_signsWent dX2_signsWent_123) rfl (Nat.le_of_ble_eq_true rfl) p1 p2 rfl).trans ?_
  refine (rn_goto (t := 90) (pc := 126) (dd bX2_signsWent dX2_signsWent_126) rfl).trans ?_
  rfl
theorem rX2_signsWent_52 {x0 : Int} {x1 : Int} {x2 : Int} {x3 : Int} {x4 : Int} {x5 : Int} {h : vH} (s1 : shSpan h x5) (p2 : h 902 (x5 + 1) 0 < h 902 (x5 + 2) 0 → (-2147483648) ≤ x4 + (-1)) (p3 : h 902 (x5 + 1) 0 < h 902 (x5 + 2) 0 → x4 + (-1) < 2147483648) (s4 : shLayers h x0) (s5 : ¬ (h 902 (x5 + 1) 0 < h 902 (x5 + 2) 0) → shList h (x0 + 1)) : vrun mX2_signsWent 52 [(1, x0), (0, x1), (0, x2), (0, x3), (0, x4), (1, x5)] [] h = if h 902 (x5 + 1) 0 < h 902 (x5 + 2) 0 then vrun mX2_signsWent 11 [(1, x0), (0, x1), (0, x2), (0, x3), (0, x4 + (-1)), (1, x5)] [] h else vret vrun mX2_signsWent 77 [(1, x0), (0, x1), (0, x2), (0, x3), (0, x4), (1, x5)] [] (vcl mJx4a65c_remove_915e3 [(1, x0 + 1), (0, x4)] h) := by
  refine (rn_aload (pc := 52) (dd bX2_signsWent dX2_signsWent_52) rfl).trans ?_
  refine (rg_gf (pc := 54) (dd bX2_signsWent dX2_signsWent_54) (ci := 9) (j := 0) rfl rfl (key := 1000) rfl (kc := 29) rfl s1.1 s1.2.1).trans ?_
  refine (rg_gf (pc := 57) (dd bX2_signsWent dX2_signsWent_57) (ci := 8) (j := 2) rfl rfl (key := 902) rfl (kc := 28) rfl s1.2.2.1 rfl).trans ?_
  refine (rn_aload (pc := 60) (dd bX2_signsWent dX2_signsWent_60) rfl).trans ?_
  refine (rg_gf (pc := 62) (dd bX2_signsWent dX2_signsWent_62) (ci := 9) (j := 1) rfl rfl (key := 1001) rfl (kc := 29) rfl s1.1 s1.2.2.2.1).trans ?_
  refine (rg_gf (pc := 65) (dd bX2_signsWent dX2_signsWent_65) (ci := 8) (j := 2) rfl rfl (key := 902) rfl (kc := 28) rfl s1.2.2.2.2 rfl).trans ?_
  refine (rn_icmp_lt (t := 81) (pc := 68) (dd bX2_signsWent dX2_signsWent_68) rfl).trans (itec (fun c1 => ?_) (fun c1 => ?_))
  · refine (rg_iinc (pc := 81) (dd bX2_signsWent dX2_signsWent_81) rfl (Nat.le_of_ble_eq_true rfl) (p2 c1) (p3 c1) rfl).trans ?_
    refine (rn_goto (t := 11) (pc := 84) (dd bX2_signsWent dX2_signsWent_84) rfl).trans ?_
    rfl
  · refine (rn_aload_n (pc := 71) (dd bX2_signsWent dX2_signsWent_71) rfl).trans ?_
    refine (rg_gf (pc := 72) (dd bX2_signsWent dX2_signsWent_72) (ci := 3) (j := 0) rfl rfl (key := 400) rfl (kc := 23) rfl s4.1 s4.2.1).trans ?_
    refine (rn_iload (pc := 75) (dd bX2_signsWent dX2_signsWent_75) rfl).trans ?_
    exact rg_virtual (pc := 77) (dd bX2_signsWent dX2_signsWent_77) rfl rfl (by decide) (kc := 20) rfl (s5 c1) (as := [(1, x0 + 1), (0, x4)]) rfl ⟨Nat.le_of_ble_eq_true rfl, Nat.le_of_ble_eq_true rfl, Nat.le_of_ble_eq_true rfl, Nat.le_of_ble_eq_true rfl⟩
theorem rX2_signsWent_80 {x0 : Int} {x1 : Int} {x2 : Int} {x3 : Int} {x4 : Int} {x5 : Int} {y0 : Int} {h : vH} (p1 : (-2147483648) ≤ x4 + (-1)) (p2 : x4 + (-1) < 2147483648) : vrun mX2_signsWent 80 [(1, x0), (0, x1), (0, x2), (0, x3), (0, x4), (1, x5)] [(1, y0)] h = vrun mX2_signsWent 11 [(1, x0), (0, x1), (0, x2), (0, x3), (0, x4 + (-1)), (1, x5)] [] h := by
  refine (rn_pop (pc := 80) (dd bX2_signsWent dX2_signsWent_80) (by decide)).trans ?_
  refine (rg_iinc (pc := 81) (dd bX2_signsWent dX2_signsWent_81) rfl (Nat.le_of_ble_eq_true rfl) p1 p2 rfl).trans ?_
  refine (rn_goto (t := 11) (pc := 84) (dd bX2_signsWent dX2_signsWent_84) rfl).trans ?_
  rfl
theorem bX2_lineBroke : vmB mX2_lineBroke = cX2_lineBroke := rfl
theorem rX2_lineBroke_0 {x0 : Int} {x1 : Int} {x2 : Int} {h : vH} : vrun mX2_lineBroke 0 [(1, x0), (0, x1), (0, x2), (9, 0)] [] h = vrun mX2_lineBroke 2 [(1, x0), (0, x1), (0, x2), (0, 0)] [] h := by
  refine (rn_iconst (pc := 0) (dd bX2_lineBroke dX2_lineBroke_0) (by decide)).trans ?_
  refine (rn_istore_n (pc := 1) (dd bX2_lineBroke dX2_lineBroke_1) (Nat.le_of_ble_eq_true rfl) rfl).trans ?_
  rfl
theorem rX2_lineBroke_2 {x0 : Int} {x1 : Int} {x2 : Int} {x3 : Int} {h : vH} (s1 : shLayers h x0) (s2 : shList h (x0 + 1)) (p3 : ¬ (h 102 (x0 + 1) 0 ≤ x3) → ¬ (x3 < 0)) (p4 : ¬ (h 102 (x0 + 1) 0 ≤ x3) → h 0 (h 101 (x0 + 1) 0) 0 = 6) (p5 : ¬ (h 102 (x0 + 1) 0 ≤ x3) → 0 ≤ x3) (p6 : ¬ (h 102 (x0 + 1) 0 ≤ x3) → x3 < h 1 (h 101 (x0 + 1) 0) 0) (s7 : ¬ (h 102 (x0 + 1) 0 ≤ x3) → shSpan h (h 2 (h 101 (x0 + 1) 0) x3)) : vrun mX2_lineBroke 2 [(1, x0), (0, x1), (0, x2), (0, x3)] [] h = if h 102 (x0 + 1) 0 ≤ x3 then vrun mX2_lineBroke 37 [(1, x0), (0, x1), (0, x2), (0, 0)] [] h else vret vrun mX2_lineBroke 26 [(1, x0), (0, x1), (0, x2), (0, x3)] [] (vcl mX8_lineBroke [(1, h 2 (h 101 (x0 + 1) 0) x3), (0, x1), (0, x2)] h) := by
  refine (rn_iload_n (pc := 2) (dd bX2_lineBroke dX2_lineBroke_2) rfl).trans ?_
  refine (rn_aload_n (pc := 3) (dd bX2_lineBroke dX2_lineBroke_3) rfl).trans ?_
  refine (rg_gf (pc := 4) (dd bX2_lineBroke dX2_lineBroke_4) (ci := 3) (j := 0) rfl rfl (key := 400) rfl (kc := 23) rfl s1.1 s1.2.1).trans ?_
  refine (rg_virtual (pc := 7) (dd bX2_lineBroke dX2_lineBroke_7) rfl rfl (by decide) (kc := 20) rfl s2 (as := [(1, x0 + 1)]) rfl ⟨Nat.le_of_ble_eq_true rfl, Nat.le_of_ble_eq_true rfl, Nat.le_of_ble_eq_true rfl, Nat.le_of_ble_eq_true rfl⟩).trans ?_
  refine (vret_v (spJx4a65c_size_8abf5 s2)).trans ?_
  refine (rn_icmp_ge (t := 35) (pc := 10) (dd bX2_lineBroke dX2_lineBroke_10) rfl).trans (itec (fun c1 => ?_) (fun c1 => ?_))
  · refine (rn_iconst (pc := 35) (dd bX2_lineBroke dX2_lineBroke_35) (by decide)).trans ?_
    refine (rn_istore_n (pc := 36) (dd bX2_lineBroke dX2_lineBroke_36) (Nat.le_of_ble_eq_true rfl) rfl).trans ?_
    rfl
  · refine (rn_aload_n (pc := 13) (dd bX2_lineBroke dX2_lineBroke_13) rfl).trans ?_
    refine (rg_gf (pc := 14) (dd bX2_lineBroke dX2_lineBroke_14) (ci := 3) (j := 0) rfl rfl (key := 400) rfl (kc := 23) rfl s1.1 s1.2.1).trans ?_
    refine (rn_iload_n (pc := 17) (dd bX2_lineBroke dX2_lineBroke_17) rfl).trans ?_
    refine (rg_virtual (pc := 18) (dd bX2_lineBroke dX2_lineBroke_18) rfl rfl (by decide) (kc := 20) rfl s2 (as := [(1, x0 + 1), (0, x3)]) rfl ⟨Nat.le_of_ble_eq_true rfl, Nat.le_of_ble_eq_true rfl, Nat.le_of_ble_eq_true rfl, Nat.le_of_ble_eq_true rfl⟩).trans ?_
    refine (vret_v (spJx4a65c_get_915e3 s2 (p3 c1) (Int.not_le.mp c1) (p4 c1) (p5 c1) (p6 c1))).trans ?_
    refine (rg_cast (pc := 21) (dd bX2_lineBroke dX2_lineBroke_21) (ci := 9) rfl (kc := 29) rfl (s7 c1).1).trans ?_
    refine (rn_iload_n (pc := 24) (dd bX2_lineBroke dX2_lineBroke_24) rfl).trans ?_
    refine (rn_iload_n (pc := 25) (dd bX2_lineBroke dX2_lineBroke_25) rfl).trans ?_
    exact rg_virtual (pc := 26) (dd bX2_lineBroke dX2_lineBroke_26) rfl rfl (by decide) (kc := 29) rfl (s7 c1).1 (as := [(1, h 2 (h 101 (x0 + 1) 0) x3), (0, x1), (0, x2)]) rfl ⟨Nat.le_of_ble_eq_true rfl, Nat.le_of_ble_eq_true rfl, Nat.le_of_ble_eq_true rfl, Nat.le_of_ble_eq_true rfl⟩
theorem rX2_lineBroke_37 {x0 : Int} {x1 : Int} {x2 : Int} {x3 : Int} {h : vH} (s1 : shLayers h x0) (s2 : shList h (x0 + 2)) (p3 : ¬ (h 102 (x0 + 2) 0 ≤ x3) → ¬ (x3 < 0)) (p4 : ¬ (h 102 (x0 + 2) 0 ≤ x3) → h 0 (h 101 (x0 + 2) 0) 0 = 6) (p5 : ¬ (h 102 (x0 + 2) 0 ≤ x3) → 0 ≤ x3) (p6 : ¬ (h 102 (x0 + 2) 0 ≤ x3) → x3 < h 1 (h 101 (x0 + 2) 0) 0) (s7 : ¬ (h 102 (x0 + 2) 0 ≤ x3) → shVirtual h (h 2 (h 101 (x0 + 2) 0) x3)) : vrun mX2_lineBroke 37 [(1, x0), (0, x1), (0, x2), (0, x3)] [] h = if h 102 (x0 + 2) 0 ≤ x3 then vrun mX2_lineBroke 75 [(1, x0), (0, x1), (0, x2), (0, 0)] [] h else vret vrun mX2_lineBroke 64 [(1, x0), (0, x1), (0, x2), (0, x3)] [] (vcl mX7_lineBroke [(1, h 2 (h 101 (x0 + 2) 0) x3 + 1), (0, x1), (0, x2)] h) := by
  refine (rn_iload_n (pc := 37) (dd bX2_lineBroke dX2_lineBroke_37) rfl).trans ?_
  refine (rn_aload_n (pc := 38) (dd bX2_lineBroke dX2_lineBroke_38) rfl).trans ?_
  refine (rg_gf (pc := 39) (dd bX2_lineBroke dX2_lineBroke_39) (ci := 3) (j := 1) rfl rfl (key := 401) rfl (kc := 23) rfl s1.1 s1.2.2.1).trans ?_
  refine (rg_virtual (pc := 42) (dd bX2_lineBroke dX2_lineBroke_42) rfl rfl (by decide) (kc := 20) rfl s2 (as := [(1, x0 + 2)]) rfl ⟨Nat.le_of_ble_eq_true rfl, Nat.le_of_ble_eq_true rfl, Nat.le_of_ble_eq_true rfl, Nat.le_of_ble_eq_true rfl⟩).trans ?_
  refine (vret_v (spJx4a65c_size_8abf5 s2)).trans ?_
  refine (rn_icmp_ge (t := 73) (pc := 45) (dd bX2_lineBroke dX2_lineBroke_45) rfl).trans (itec (fun c1 => ?_) (fun c1 => ?_))
  · refine (rn_iconst (pc := 73) (dd bX2_lineBroke dX2_lineBroke_73) (by decide)).trans ?_
    refine (rn_istore_n (pc := 74) (dd bX2_lineBroke dX2_lineBroke_74) (Nat.le_of_ble_eq_true rfl) rfl).trans ?_
    rfl
  · refine (rn_aload_n (pc := 48) (dd bX2_lineBroke dX2_lineBroke_48) rfl).trans ?_
    refine (rg_gf (pc := 49) (dd bX2_lineBroke dX2_lineBroke_49) (ci := 3) (j := 1) rfl rfl (key := 401) rfl (kc := 23) rfl s1.1 s1.2.2.1).trans ?_
    refine (rn_iload_n (pc := 52) (dd bX2_lineBroke dX2_lineBroke_52) rfl).trans ?_
    refine (rg_virtual (pc := 53) (dd bX2_lineBroke dX2_lineBroke_53) rfl rfl (by decide) (kc := 20) rfl s2 (as := [(1, x0 + 2), (0, x3)]) rfl ⟨Nat.le_of_ble_eq_true rfl, Nat.le_of_ble_eq_true rfl, Nat.le_of_ble_eq_true rfl, Nat.le_of_ble_eq_true rfl⟩).trans ?_
    refine (vret_v (spJx4a65c_get_915e3 s2 (p3 c1) (Int.not_le.mp c1) (p4 c1) (p5 c1) (p6 c1))).trans ?_
    refine (rg_cast (pc := 56) (dd bX2_lineBroke dX2_lineBroke_56) (ci := 12) rfl (kc := 32) rfl (s7 c1).1).trans ?_
    refine (rg_gf (pc := 59) (dd bX2_lineBroke dX2_lineBroke_59) (ci := 12) (j := 0) rfl rfl (key := 1300) rfl (kc := 32) rfl (s7 c1).1 (s7 c1).2.1).trans ?_
    refine (rn_iload_n (pc := 62) (dd bX2_lineBroke dX2_lineBroke_62) rfl).trans ?_
    refine (rn_iload_n (pc := 63) (dd bX2_lineBroke dX2_lineBroke_63) rfl).trans ?_
    exact rg_virtual (pc := 64) (dd bX2_lineBroke dX2_lineBroke_64) rfl rfl (by decide) (kc := 28) rfl (s7 c1).2.2 (as := [(1, h 2 (h 101 (x0 + 2) 0) x3 + 1), (0, x1), (0, x2)]) rfl ⟨Nat.le_of_ble_eq_true rfl, Nat.le_of_ble_eq_true rfl, Nat.le_of_ble_eq_true rfl, Nat.le_of_ble_eq_true rfl⟩
theorem rX2_lineBroke_29 {x0 : Int} {x1 : Int} {x2 : Int} {x3 : Int} {h : vH} (p1 : (-2147483648) ≤ x3 + 1) (p2 : x3 + 1 < 2147483648) : vrun mX2_lineBroke 29 [(1, x0), (0, x1), (0, x2), (0, x3)] [] h = vrun mX2_lineBroke 2 [(1, x0), (0, x1), (0, x2), (0, x3 + 1)] [] h := by
  refine (rg_iinc (pc := 29) (dd bX2_lineBroke dX2_lineBroke_29) rfl (Nat.le_of_ble_eq_true rfl) p1 p2 rfl).trans ?_
  refine (rn_goto (t := 2) (pc := 32) (dd bX2_lineBroke dX2_lineBroke_32) rfl).trans ?_
  rfl
theorem rX2_lineBroke_75 {x0 : Int} {x1 : Int} {x2 : Int} {x3 : Int} {h : vH} (s1 : shLayers h x0) (s2 : shList h (x0 + 3)) (p3 : ¬ (h 102 (x0 + 3) 0 ≤ x3) → ¬ (x3 < 0)) (p4 : ¬ (h 102 (x0 + 3) 0 ≤ x3) → h 0 (h 101 (x0 + 3) 0) 0 = 6) (p5 : ¬ (h 102 (x0 + 3) 0 ≤ x3) → 0 ≤ x3) (p6 : ¬ (h 102 (x0 + 3) 0 ≤ x3) → x3 < h 1 (h 101 (x0 + 3) 0) 0) (s7 : ¬ (h 102 (x0 + 3) 0 ≤ x3) → shFold h (h 2 (h 101 (x0 + 3) 0) x3)) : vrun mX2_lineBroke 75 [(1, x0), (0, x1), (0, x2), (0, x3)] [] h = if h 102 (x0 + 3) 0 ≤ x3 then some (.inl none, h) else vret vrun mX2_lineBroke 98 [(1, x0), (0, x1), (0, x2), (0, x3)] [] (vcl mX1_lineBroke [(1, h 2 (h 101 (x0 + 3) 0) x3), (0, x1)] h) := by
  refine (rn_iload_n (pc := 75) (dd bX2_lineBroke dX2_lineBroke_75) rfl).trans ?_
  refine (rn_aload_n (pc := 76) (dd bX2_lineBroke dX2_lineBroke_76) rfl).trans ?_
  refine (rg_gf (pc := 77) (dd bX2_lineBroke dX2_lineBroke_77) (ci := 3) (j := 2) rfl rfl (key := 402) rfl (kc := 23) rfl s1.1 s1.2.2.2).trans ?_
  refine (rg_virtual (pc := 80) (dd bX2_lineBroke dX2_lineBroke_80) rfl rfl (by decide) (kc := 20) rfl s2 (as := [(1, x0 + 3)]) rfl ⟨Nat.le_of_ble_eq_true rfl, Nat.le_of_ble_eq_true rfl, Nat.le_of_ble_eq_true rfl, Nat.le_of_ble_eq_true rfl⟩).trans ?_
  refine (vret_v (spJx4a65c_size_8abf5 s2)).trans ?_
  refine (rn_icmp_ge (t := 107) (pc := 83) (dd bX2_lineBroke dX2_lineBroke_83) rfl).trans (itec (fun c1 => ?_) (fun c1 => ?_))
  · exact rn_return (pc := 107) (dd bX2_lineBroke dX2_lineBroke_107) rfl
  · refine (rn_aload_n (pc := 86) (dd bX2_lineBroke dX2_lineBroke_86) rfl).trans ?_
    refine (rg_gf (pc := 87) (dd bX2_lineBroke dX2_lineBroke_87) (ci := 3) (j := 2) rfl rfl (key := 402) rfl (kc := 23) rfl s1.1 s1.2.2.2).trans ?_
    refine (rn_iload_n (pc := 90) (dd bX2_lineBroke dX2_lineBroke_90) rfl).trans ?_
    refine (rg_virtual (pc := 91) (dd bX2_lineBroke dX2_lineBroke_91) rfl rfl (by decide) (kc := 20) rfl s2 (as := [(1, x0 + 3), (0, x3)]) rfl ⟨Nat.le_of_ble_eq_true rfl, Nat.le_of_ble_eq_true rfl, Nat.le_of_ble_eq_true rfl, Nat.le_of_ble_eq_true rfl⟩).trans ?_
    refine (vret_v (spJx4a65c_get_915e3 s2 (p3 c1) (Int.not_le.mp c1) (p4 c1) (p5 c1) (p6 c1))).trans ?_
    refine (rg_cast (pc := 94) (dd bX2_lineBroke dX2_lineBroke_94) (ci := 2) rfl (kc := 22) rfl (s7 c1)).trans ?_
    refine (rn_iload_n (pc := 97) (dd bX2_lineBroke dX2_lineBroke_97) rfl).trans ?_
    exact rg_virtual (pc := 98) (dd bX2_lineBroke dX2_lineBroke_98) rfl rfl (by decide) (kc := 22) rfl (s7 c1) (as := [(1, h 2 (h 101 (x0 + 3) 0) x3), (0, x1)]) rfl ⟨Nat.le_of_ble_eq_true rfl, Nat.le_of_ble_eq_true rfl, Nat.le_of_ble_eq_true rfl, Nat.le_of_ble_eq_true rfl⟩
theorem rX2_lineBroke_67 {x0 : Int} {x1 : Int} {x2 : Int} {x3 : Int} {h : vH} (p1 : (-2147483648) ≤ x3 + 1) (p2 : x3 + 1 < 2147483648) : vrun mX2_lineBroke 67 [(1, x0), (0, x1), (0, x2), (0, x3)] [] h = vrun mX2_lineBroke 37 [(1, x0), (0, x1), (0, x2), (0, x3 + 1)] [] h := by
  refine (rg_iinc (pc := 67) (dd bX2_lineBroke dX2_lineBroke_67) rfl (Nat.le_of_ble_eq_true rfl) p1 p2 rfl).trans ?_
  refine (rn_goto (t := 37) (pc := 70) (dd bX2_lineBroke dX2_lineBroke_70) rfl).trans ?_
  rfl
theorem rX2_lineBroke_101 {x0 : Int} {x1 : Int} {x2 : Int} {x3 : Int} {h : vH} (p1 : (-2147483648) ≤ x3 + 1) (p2 : x3 + 1 < 2147483648) : vrun mX2_lineBroke 101 [(1, x0), (0, x1), (0, x2), (0, x3)] [] h = vrun mX2_lineBroke 75 [(1, x0), (0, x1), (0, x2), (0, x3 + 1)] [] h := by
  refine (rg_iinc (pc := 101) (dd bX2_lineBroke dX2_lineBroke_101) rfl (Nat.le_of_ble_eq_true rfl) p1 p2 rfl).trans ?_
  refine (rn_goto (t := 75) (pc := 104) (dd bX2_lineBroke dX2_lineBroke_104) rfl).trans ?_
  rfl
theorem bX2_linesJoined : vmB mX2_linesJoined = cX2_linesJoined := rfl
theorem rX2_linesJoined_0 {x0 : Int} {x1 : Int} {x2 : Int} {h : vH} : vrun mX2_linesJoined 0 [(1, x0), (0, x1), (0, x2), (9, 0), (9, 0)] [] h = vrun mX2_linesJoined 2 [(1, x0), (0, x1), (0, x2), (0, 0), (9, 0)] [] h := by
  refine (rn_iconst (pc := 0) (dd bX2_linesJoined dX2_linesJoined_0) (by decide)).trans ?_
  refine (rn_istore_n (pc := 1) (dd bX2_linesJoined dX2_linesJoined_1) (Nat.le_of_ble_eq_true rfl) rfl).trans ?_
  rfl
theorem rX2_linesJoined_2 {x0 : Int} {x1 : Int} {x2 : Int} {x3 : Int} {h : vH} (s1 : shLayers h x0) (s2 : shList h (x0 + 1)) (p3 : ¬ (h 102 (x0 + 1) 0 ≤ x3) → ¬ (x3 < 0)) (p4 : ¬ (h 102 (x0 + 1) 0 ≤ x3) → h 0 (h 101 (x0 + 1) 0) 0 = 6) (p5 : ¬ (h 102 (x0 + 1) 0 ≤ x3) → 0 ≤ x3) (p6 : ¬ (h 102 (x0 + 1) 0 ≤ x3) → x3 < h 1 (h 101 (x0 + 1) 0) 0) (s7 : ¬ (h 102 (x0 + 1) 0 ≤ x3) → shSpan h (h 2 (h 101 (x0 + 1) 0) x3)) : vrun mX2_linesJoined 2 [(1, x0), (0, x1), (0, x2), (0, x3), (9, 0)] [] h = if h 102 (x0 + 1) 0 ≤ x3 then vrun mX2_linesJoined 59 [(1, x0), (0, x1), (0, x2), (0, 0), (9, 0)] [] h else vret vrun mX2_linesJoined 29 [(1, x0), (0, x1), (0, x2), (0, x3), (9, 0)] [] (vcl mX7_linesJoined [(1, h 2 (h 101 (x0 + 1) 0) x3 + 1), (0, x1), (0, x2)] h) := by
  refine (rn_iload_n (pc := 2) (dd bX2_linesJoined dX2_linesJoined_2) rfl).trans ?_
  refine (rn_aload_n (pc := 3) (dd bX2_linesJoined dX2_linesJoined_3) rfl).trans ?_
  refine (rg_gf (pc := 4) (dd bX2_linesJoined dX2_linesJoined_4) (ci := 3) (j := 0) rfl rfl (key := 400) rfl (kc := 23) rfl s1.1 s1.2.1).trans ?_
  refine (rg_virtual (pc := 7) (dd bX2_linesJoined dX2_linesJoined_7) rfl rfl (by decide) (kc := 20) rfl s2 (as := [(1, x0 + 1)]) rfl ⟨Nat.le_of_ble_eq_true rfl, Nat.le_of_ble_eq_true rfl, Nat.le_of_ble_eq_true rfl, Nat.le_of_ble_eq_true rfl⟩).trans ?_
  refine (vret_v (spJx4a65c_size_8abf5 s2)).trans ?_
  refine (rn_icmp_ge (t := 57) (pc := 10) (dd bX2_linesJoined dX2_linesJoined_10) rfl).trans (itec (fun c1 => ?_) (fun c1 => ?_))
  · refine (rn_iconst (pc := 57) (dd bX2_linesJoined dX2_linesJoined_57) (by decide)).trans ?_
    refine (rn_istore_n (pc := 58) (dd bX2_linesJoined dX2_linesJoined_58) (Nat.le_of_ble_eq_true rfl) rfl).trans ?_
    rfl
  · refine (rn_aload_n (pc := 13) (dd bX2_linesJoined dX2_linesJoined_13) rfl).trans ?_
    refine (rg_gf (pc := 14) (dd bX2_linesJoined dX2_linesJoined_14) (ci := 3) (j := 0) rfl rfl (key := 400) rfl (kc := 23) rfl s1.1 s1.2.1).trans ?_
    refine (rn_iload_n (pc := 17) (dd bX2_linesJoined dX2_linesJoined_17) rfl).trans ?_
    refine (rg_virtual (pc := 18) (dd bX2_linesJoined dX2_linesJoined_18) rfl rfl (by decide) (kc := 20) rfl s2 (as := [(1, x0 + 1), (0, x3)]) rfl ⟨Nat.le_of_ble_eq_true rfl, Nat.le_of_ble_eq_true rfl, Nat.le_of_ble_eq_true rfl, Nat.le_of_ble_eq_true rfl⟩).trans ?_
    refine (vret_v (spJx4a65c_get_915e3 s2 (p3 c1) (Int.not_le.mp c1) (p4 c1) (p5 c1) (p6 c1))).trans ?_
    refine (rg_cast (pc := 21) (dd bX2_linesJoined dX2_linesJoined_21) (ci := 9) rfl (kc := 29) rfl (s7 c1).1).trans ?_
    refine (rg_gf (pc := 24) (dd bX2_linesJoined dX2_linesJoined_24) (ci := 9) (j := 0) rfl rfl (key := 1000) rfl (kc := 29) rfl (s7 c1).1 (s7 c1).2.1).trans ?_
    refine (rn_iload_n (pc := 27) (dd bX2_linesJoined dX2_linesJoined_27) rfl).trans ?_
    refine (rn_iload_n (pc := 28) (dd bX2_linesJoined dX2_linesJoined_28) rfl).trans ?_
    exact rg_virtual (pc := 29) (dd bX2_linesJoined dX2_linesJoined_29) rfl rfl (by decide) (kc := 28) rfl (s7 c1).2.2.1 (as := [(1, h 2 (h 101 (x0 + 1) 0) x3 + 1), (0, x1), (0, x2)]) rfl ⟨Nat.le_of_ble_eq_true rfl, Nat.le_of_ble_eq_true rfl, Nat.le_of_ble_eq_true rfl, Nat.le_of_ble_eq_true rfl⟩
theorem rX2_linesJoined_59 {x0 : Int} {x1 : Int} {x2 : Int} {x3 : Int} {h : vH} (s1 : shLayers h x0) (s2 : shList h (x0 + 2)) (s3 : h 102 (x0 + 2) 0 ≤ x3 → shList h (x0 + 3)) (p4 : h 102 (x0 + 2) 0 ≤ x3 → (-2147483648) ≤ h 102 (x0 + 3) 0 - 1) (p5 : h 102 (x0 + 2) 0 ≤ x3 → h 102 (x0 + 3) 0 - 1 < 2147483648) (p6 : ¬ (h 102 (x0 + 2) 0 ≤ x3) → ¬ (x3 < 0)) (p7 : ¬ (h 102 (x0 + 2) 0 ≤ x3) → h 0 (h 101 (x0 + 2) 0) 0 = 6) (p8 : ¬ (h 102 (x0 + 2) 0 ≤ x3) → 0 ≤ x3) (p9 : ¬ (h 102 (x0 + 2) 0 ≤ x3) → x3 < h 1 (h 101 (x0 + 2) 0) 0) (s10 : ¬ (h 102 (x0 + 2) 0 ≤ x3) → shVirtual h (h 2 (h 101 (x0 + 2) 0) x3)) : vrun mX2_linesJoined 59 [(1, x0), (0, x1), (0, x2), (0, x3), (9, 0)] [] h = if h 102 (x0 + 2) 0 ≤ x3 then vrun mX2_linesJoined 105 [(1, x0), (0, x1), (0, x2), (0, h 102 (x0 + 3) 0 - 1), (9, 0)] [] h else vret vrun mX2_linesJoined 86 [(1, x0), (0, x1), (0, x2), (0, x3), (9, 0)] [] (vcl mX7_linesJoined [(1, h 2 (h 101 (x0 + 2) 0) x3 + 1), (0, x1), (0, x2)] h) := by
  refine (rn_iload_n (pc := 59) (dd bX2_linesJoined dX2_linesJoined_59) rfl).trans ?_
  refine (rn_aload_n (pc := 60) (dd bX2_linesJoined dX2_linesJoined_60) rfl).trans ?_
  refine (rg_gf (pc := 61) (dd bX2_linesJoined dX2_linesJoined_61) (ci := 3) (j := 1) rfl rfl (key := 401) rfl (kc := 23) rfl s1.1 s1.2.2.1).trans ?_
  refine (rg_virtual (pc := 64) (dd bX2_linesJoined dX2_linesJoined_64) rfl rfl (by decide) (kc := 20) rfl s2 (as := [(1, x0 + 2)]) rfl ⟨Nat.le_of_ble_eq_true rfl, Nat.le_of_ble_eq_true rfl, Nat.le_of_ble_eq_true rfl, Nat.le_of_ble_eq_true rfl⟩).trans ?_
  refine (vret_v (spJx4a65c_size_8abf5 s2)).trans ?_
  refine (rn_icmp_ge (t := 95) (pc := 67) (dd bX2_linesJoined dX2_linesJoined_67) rfl).trans (itec (fun c1 => ?_) (fun c1 => ?_))
  · refine (rn_aload_n (pc := 95) (dd bX2_linesJoined dX2_linesJoined_95) rfl).trans ?_
    refine (rg_gf (pc := 96) (dd bX2_linesJoined dX2_linesJoined_96) (ci := 3) (j := 2) rfl rfl (key := 402) rfl (kc := 23) rfl s1.1 s1.2.2.2).trans ?_
    refine (rg_virtual (pc := 99) (dd bX2_linesJoined dX2_linesJoined_99) rfl rfl (by decide) (kc := 20) rfl (s3 c1) (as := [(1, x0 + 3)]) rfl ⟨Nat.le_of_ble_eq_true rfl, Nat.le_of_ble_eq_true rfl, Nat.le_of_ble_eq_true rfl, Nat.le_of_ble_eq_true rfl⟩).trans ?_
    refine (vret_v (spJx4a65c_size_8abf5 (s3 c1))).trans ?_
    refine (rn_iconst (pc := 102) (dd bX2_linesJoined dX2_linesJoined_102) (by decide)).trans ?_
    refine (rg_isub (pc := 103) (dd bX2_linesJoined dX2_linesJoined_103) (p4 c1) (p5 c1)).trans ?_
    refine (rn_istore_n (pc := 104) (dd bX2_linesJoined dX2_linesJoined_104) (Nat.le_of_ble_eq_true rfl) rfl).trans ?_
    rfl
  · refine (rn_aload_n (pc := 70) (dd bX2_linesJoined dX2_linesJoined_70) rfl).trans ?_
    refine (rg_gf (pc := 71) (dd bX2_linesJoined dX2_linesJoined_71) (ci := 3) (j := 1) rfl rfl (key := 401) rfl (kc := 23) rfl s1.1 s1.2.2.1).trans ?_
    refine (rn_iload_n (pc := 74) (dd bX2_linesJoined dX2_linesJoined_74) rfl).trans ?_
    refine (rg_virtual (pc := 75) (dd bX2_linesJoined dX2_linesJoined_75) rfl rfl (by decide) (kc := 20) rfl s2 (as := [(1, x0 + 2), (0, x3)]) rfl ⟨Nat.le_of_ble_eq_true rfl, Nat.le_of_ble_eq_true rfl, Nat.le_of_ble_eq_true rfl, Nat.le_of_ble_eq_true rfl⟩).trans ?_
    refine (vret_v (spJx4a65c_get_915e3 s2 (p6 c1) (Int.not_le.mp c1) (p7 c1) (p8 c1) (p9 c1))).trans ?_
    refine (rg_cast (pc := 78) (dd bX2_linesJoined dX2_linesJoined_78) (ci := 12) rfl (kc := 32) rfl (s10 c1).1).trans ?_
    refine (rg_gf (pc := 81) (dd bX2_linesJoined dX2_linesJoined_81) (ci := 12) (j := 0) rfl rfl (key := 1300) rfl (kc := 32) rfl (s10 c1).1 (s10 c1).2.1).trans ?_
    refine (rn_iload_n (pc := 84) (dd bX2_linesJoined dX2_linesJoined_84) rfl).trans ?_
    refine (rn_iload_n (pc := 85) (dd bX2_linesJoined dX2_linesJoined_85) rfl).trans ?_
    exact rg_virtual (pc := 86) (dd bX2_linesJoined dX2_linesJoined_86) rfl rfl (by decide) (kc := 28) rfl (s10 c1).2.2 (as := [(1, h 2 (h 101 (x0 + 2) 0) x3 + 1), (0, x1), (0, x2)]) rfl ⟨Nat.le_of_ble_eq_true rfl, Nat.le_of_ble_eq_true rfl, Nat.le_of_ble_eq_true rfl, Nat.le_of_ble_eq_true rfl⟩
theorem rX2_linesJoined_32 {x0 : Int} {x1 : Int} {x2 : Int} {x3 : Int} {h : vH} (s1 : shLayers h x0) (s2 : shList h (x0 + 1)) (p3 : ¬ (x3 < 0)) (p4 : x3 < h 102 (x0 + 1) 0) (p5 : h 0 (h 101 (x0 + 1) 0) 0 = 6) (p6 : 0 ≤ x3) (p7 : x3 < h 1 (h 101 (x0 + 1) 0) 0) (s8 : shSpan h (h 2 (h 101 (x0 + 1) 0) x3)) : vrun mX2_linesJoined 32 [(1, x0), (0, x1), (0, x2), (0, x3), (9, 0)] [] h = vret vrun mX2_linesJoined 48 [(1, x0), (0, x1), (0, x2), (0, x3), (9, 0)] [] (vcl mX7_linesJoined [(1, h 2 (h 101 (x0 + 1) 0) x3 + 2), (0, x1), (0, x2)] h) := by
  refine (rn_aload_n (pc := 32) (dd bX2_linesJoined dX2_linesJoined_32) rfl).trans ?_
  refine (rg_gf (pc := 33) (dd bX2_linesJoined dX2_linesJoined_33) (ci := 3) (j := 0) rfl rfl (key := 400) rfl (kc := 23) rfl s1.1 s1.2.1).trans ?_
  refine (rn_iload_n (pc := 36) (dd bX2_linesJoined dX2_linesJoined_36) rfl).trans ?_
  refine (rg_virtual (pc := 37) (dd bX2_linesJoined dX2_linesJoined_37) rfl rfl (by decide) (kc := 20) rfl s2 (as := [(1, x0 + 1), (0, x3)]) rfl ⟨Nat.le_of_ble_eq_true rfl, Nat.le_of_ble_eq_true rfl, Nat.le_of_ble_eq_true rfl, Nat.le_of_ble_eq_true rfl⟩).trans ?_
  refine (vret_v (spJx4a65c_get_915e3 s2 p3 p4 p5 p6 p7)).trans ?_
  refine (rg_cast (pc := 40) (dd bX2_linesJoined dX2_linesJoined_40) (ci := 9) rfl (kc := 29) rfl s8.1).trans ?_
  refine (rg_gf (pc := 43) (dd bX2_linesJoined dX2_linesJoined_43) (ci := 9) (j := 1) rfl rfl (key := 1001) rfl (kc := 29) rfl s8.1 s8.2.2.2.1).trans ?_
  refine (rn_iload_n (pc := 46) (dd bX2_linesJoined dX2_linesJoined_46) rfl).trans ?_
  refine (rn_iload_n (pc := 47) (dd bX2_linesJoined dX2_linesJoined_47) rfl).trans ?_
  exact rg_virtual (pc := 48) (dd bX2_linesJoined dX2_linesJoined_48) rfl rfl (by decide) (kc := 28) rfl s8.2.2.2.2 (as := [(1, h 2 (h 101 (x0 + 1) 0) x3 + 2), (0, x1), (0, x2)]) rfl ⟨Nat.le_of_ble_eq_true rfl, Nat.le_of_ble_eq_true rfl, Nat.le_of_ble_eq_true rfl, Nat.le_of_ble_eq_true rfl⟩
theorem rX2_linesJoined_105 {x0 : Int} {x1 : Int} {x2 : Int} {x3 : Int} {v4 : vv} {h : vH} (s1 : shLayers h x0) (s2 : ¬ (x3 < 0) → shList h (x0 + 3)) (p3 : ¬ (x3 < 0) → ¬ (x3 < 0)) (p4 : ¬ (x3 < 0) → x3 < h 102 (x0 + 3) 0) (p5 : ¬ (x3 < 0) → h 0 (h 101 (x0 + 3) 0) 0 = 6) (p6 : ¬ (x3 < 0) → x3 < h 1 (h 101 (x0 + 3) 0) 0) (s7 : ¬ (x3 < 0) → shFold h (h 2 (h 101 (x0 + 3) 0) x3)) : vrun mX2_linesJoined 105 [(1, x0), (0, x1), (0, x2), (0, x3), v4] [] h = if x3 < 0 then some (.inl none, h) else vret vrun mX2_linesJoined 125 [(1, x0), (0, x1), (0, x2), (0, x3), (1, h 2 (h 101 (x0 + 3) 0) x3)] [] (vcl mX1_linesJoined [(1, h 2 (h 101 (x0 + 3) 0) x3), (0, x1)] h) := by
  refine (rn_iload_n (pc := 105) (dd bX2_linesJoined dX2_linesJoined_105) rfl).trans ?_
  refine (rn_if_lt (t := 156) (pc := 106) (dd bX2_linesJoined dX2_linesJoined_106) rfl).trans (itec (fun c1 => ?_) (fun c1 => ?_))
  · exact rn_return (pc := 156) (dd bX2_linesJoined dX2_linesJoined_156) rfl
  · refine (rn_aload_n (pc := 109) (dd bX2_linesJoined dX2_linesJoined_109) rfl).trans ?_
    refine (rg_gf (pc := 110) (dd bX2_linesJoined dX2_linesJoined_110) (ci := 3) (j := 2) rfl rfl (key := 402) rfl (kc := 23) rfl s1.1 s1.2.2.2).trans ?_
    refine (rn_iload_n (pc := 113) (dd bX2_linesJoined dX2_linesJoined_113) rfl).trans ?_
    refine (rg_virtual (pc := 114) (dd bX2_linesJoined dX2_linesJoined_114) rfl rfl (by decide) (kc := 20) rfl (s2 c1) (as := [(1, x0 + 3), (0, x3)]) rfl ⟨Nat.le_of_ble_eq_true rfl, Nat.le_of_ble_eq_true rfl, Nat.le_of_ble_eq_true rfl, Nat.le_of_ble_eq_true rfl⟩).trans ?_
    refine (vret_v (spJx4a65c_get_915e3 (s2 c1) (p3 c1) (p4 c1) (p5 c1) (Int.not_lt.mp c1) (p6 c1))).trans ?_
    refine (rg_cast (pc := 117) (dd bX2_linesJoined dX2_linesJoined_117) (ci := 2) rfl (kc := 22) rfl (s7 c1)).trans ?_
    refine (rn_astore (pc := 120) (dd bX2_linesJoined dX2_linesJoined_120) (Nat.le_of_ble_eq_true rfl) rfl).trans ?_
    refine (rn_aload (pc := 122) (dd bX2_linesJoined dX2_linesJoined_122) rfl).trans ?_
    refine (rn_iload_n (pc := 124) (dd bX2_linesJoined dX2_linesJoined_124) rfl).trans ?_
    exact rg_virtual (pc := 125) (dd bX2_linesJoined dX2_linesJoined_125) rfl rfl (by decide) (kc := 22) rfl (s7 c1) (as := [(1, h 2 (h 101 (x0 + 3) 0) x3), (0, x1)]) rfl ⟨Nat.le_of_ble_eq_true rfl, Nat.le_of_ble_eq_true rfl, Nat.le_of_ble_eq_true rfl, Nat.le_of_ble_eq_true rfl⟩
theorem rX2_linesJoined_89 {x0 : Int} {x1 : Int} {x2 : Int} {x3 : Int} {h : vH} (p1 : (-2147483648) ≤ x3 + 1) (p2 : x3 + 1 < 2147483648) : vrun mX2_linesJoined 89 [(1, x0), (0, x1), (0, x2), (0, x3), (9, 0)] [] h = vrun mX2_linesJoined 59 [(1, x0), (0, x1), (0, x2), (0, x3 + 1), (9, 0)] [] h := by
  refine (rg_iinc (pc := 89) (dd bX2_linesJoined dX2_linesJoined_89) rfl (Nat.le_of_ble_eq_true rfl) p1 p2 rfl).trans ?_
  refine (rn_goto (t := 59) (pc := 92) (dd bX2_linesJoined dX2_linesJoined_92) rfl).trans ?_
  rfl
theorem rX2_linesJoined_51 {x0 : Int} {x1 : Int} {x2 : Int} {x3 : Int} {h : vH} (p1 : (-2147483648) ≤ x3 + 1) (p2 : x3 + 1 < 2147483648) : vrun mX2_linesJoined 51 [(1, x0), (0, x1), (0, x2), (0, x3), (9, 0)] [] h = vrun mX2_linesJoined 2 [(1, x0), (0, x1), (0, x2), (0, x3 + 1), (9, 0)] [] h := by
  refine (rg_iinc (pc := 51) (dd bX2_linesJoined dX2_linesJoined_51) rfl (Nat.le_of_ble_eq_true rfl) p1 p2 rfl).trans ?_
  refine (rn_goto (t := 2) (pc := 54) (dd bX2_linesJoined dX2_linesJoined_54) rfl).trans ?_
  rfl
theorem rX2_linesJoined_128 {x0 : Int} {x1 : Int} {x2 : Int} {x3 : Int} {x4 : Int} {h : vH} (s1 : shFold h x4) (p2 : h 300 x4 0 < h 301 x4 0 → (-2147483648) ≤ x3 + (-1)) (p3 : h 300 x4 0 < h 301 x4 0 → x3 + (-1) < 2147483648) (s4 : shLayers h x0) (s5 : ¬ (h 300 x4 0 < h 301 x4 0) → shList h (x0 + 3)) : vrun mX2_linesJoined 128 [(1, x0), (0, x1), (0, x2), (0, x3), (1, x4)] [] h = if h 300 x4 0 < h 301 x4 0 then vrun mX2_linesJoined 105 [(1, x0), (0, x1), (0, x2), (0, x3 + (-1)), (1, x4)] [] h else vret vrun mX2_linesJoined 146 [(1, x0), (0, x1), (0, x2), (0, x3), (1, x4)] [] (vcl mJx4a65c_remove_915e3 [(1, x0 + 3), (0, x3)] h) := by
  refine (rn_aload (pc := 128) (dd bX2_linesJoined dX2_linesJoined_128) rfl).trans ?_
  refine (rg_gf (pc := 130) (dd bX2_linesJoined dX2_linesJoined_130) (ci := 2) (j := 0) rfl rfl (key := 300) rfl (kc := 22) rfl s1 rfl).trans ?_
  refine (rn_aload (pc := 133) (dd bX2_linesJoined dX2_linesJoined_133) rfl).trans ?_
  refine (rg_gf (pc := 135) (dd bX2_linesJoined dX2_linesJoined_135) (ci := 2) (j := 1) rfl rfl (key := 301) rfl (kc := 22) rfl s1 rfl).trans ?_
  refine (rn_icmp_lt (t := 150) (pc := 138) (dd bX2_linesJoined dX2_linesJoined_138) rfl).trans (itec (fun c1 => ?_) (fun c1 => ?_))
  · refine (rg_iinc (pc := 150) (dd bX2_linesJoined dX2_linesJoined_150) rfl (Nat.le_of_ble_eq_true rfl) (p2 c1) (p3 c1) rfl).trans ?_
    refine (rn_goto (t := 105) (pc := 153) (dd bX2_linesJoined dX2_linesJoined_153) rfl).trans ?_
    rfl
  · refine (rn_aload_n (pc := 141) (dd bX2_linesJoined dX2_linesJoined_141) rfl).trans ?_
    refine (rg_gf (pc := 142) (dd bX2_linesJoined dX2_linesJoined_142) (ci := 3) (j := 2) rfl rfl (key := 402) rfl (kc := 23) rfl s4.1 s4.2.2.2).trans ?_
    refine (rn_iload_n (pc := 145) (dd bX2_linesJoined dX2_linesJoined_145) rfl).trans ?_
    exact rg_virtual (pc := 146) (dd bX2_linesJoined dX2_linesJoined_146) rfl rfl (by decide) (kc := 20) rfl (s5 c1) (as := [(1, x0 + 3), (0, x3)]) rfl ⟨Nat.le_of_ble_eq_true rfl, Nat.le_of_ble_eq_true rfl, Nat.le_of_ble_eq_true rfl, Nat.le_of_ble_eq_true rfl⟩
theorem rX2_linesJoined_149 {x0 : Int} {x1 : Int} {x2 : Int} {x3 : Int} {x4 : Int} {y0 : Int} {h : vH} (p1 : (-2147483648) ≤ x3 + (-1)) (p2 : x3 + (-1) < 2147483648) : vrun mX2_linesJoined 149 [(1, x0), (0, x1), (0, x2), (0, x3), (1, x4)] [(1, y0)] h = vrun mX2_linesJoined 105 [(1, x0), (0, x1), (0, x2), (0, x3 + (-1)), (1, x4)] [] h := by
  refine (rn_pop (pc := 149) (dd bX2_linesJoined dX2_linesJoined_149) (by decide)).trans ?_
  refine (rg_iinc (pc := 150) (dd bX2_linesJoined dX2_linesJoined_150) rfl (Nat.le_of_ble_eq_true rfl) p1 p2 rfl).trans ?_
  refine (rn_goto (t := 105) (pc := 153) (dd bX2_linesJoined dX2_linesJoined_153) rfl).trans ?_
  rfl
theorem bX2_isVisible : vmB mX2_isVisible = cX2_isVisible := rfl
theorem rX2_isVisible_0 {x0 : Int} {x1 : Int} {h : vH} : vrun mX2_isVisible 0 [(1, x0), (0, x1), (9, 0)] [] h = vrun mX2_isVisible 2 [(1, x0), (0, x1), (0, 0)] [] h := by
  refine (rn_iconst (pc := 0) (dd bX2_isVisible dX2_isVisible_0) (by decide)).trans ?_
  refine (rn_istore_n (pc := 1) (dd bX2_isVisible dX2_isVisible_1) (Nat.le_of_ble_eq_true rfl) rfl).trans ?_
  rfl
theorem rX2_isVisible_2 {x0 : Int} {x1 : Int} {x2 : Int} {h : vH} (s1 : shLayers h x0) (s2 : shList h (x0 + 3)) (p3 : ¬ (h 102 (x0 + 3) 0 ≤ x2) → ¬ (x2 < 0)) (p4 : ¬ (h 102 (x0 + 3) 0 ≤ x2) → h 0 (h 101 (x0 + 3) 0) 0 = 6) (p5 : ¬ (h 102 (x0 + 3) 0 ≤ x2) → 0 ≤ x2) (p6 : ¬ (h 102 (x0 + 3) 0 ≤ x2) → x2 < h 1 (h 101 (x0 + 3) 0) 0) (s7 : ¬ (h 102 (x0 + 3) 0 ≤ x2) → shFold h (h 2 (h 101 (x0 + 3) 0) x2)) (p8 : ¬ (h 102 (x0 + 3) 0 ≤ x2) → fX1_hides h (h 2 (h 101 (x0 + 3) 0) x2) x1 = 0 → x2 + 1 < 2147483648) : vrun mX2_isVisible 2 [(1, x0), (0, x1), (0, x2)] [] h = if h 102 (x0 + 3) 0 ≤ x2 then some (.inl (some (0, 1)), h) else if fX1_hides h (h 2 (h 101 (x0 + 3) 0) x2) x1 = 0 then vrun mX2_isVisible 2 [(1, x0), (0, x1), (0, x2 + 1)] [] h else some (.inl (some (0, 0)), h) := by
  refine (rn_iload_n (pc := 2) (dd bX2_isVisible dX2_isVisible_2) rfl).trans ?_
  refine (rn_aload_n (pc := 3) (dd bX2_isVisible dX2_isVisible_3) rfl).trans ?_
  refine (rg_gf (pc := 4) (dd bX2_isVisible dX2_isVisible_4) (ci := 3) (j := 2) rfl rfl (key := 402) rfl (kc := 23) rfl s1.1 s1.2.2.2).trans ?_
  refine (rg_virtual (pc := 7) (dd bX2_isVisible dX2_isVisible_7) rfl rfl (by decide) (kc := 20) rfl s2 (as := [(1, x0 + 3)]) rfl ⟨Nat.le_of_ble_eq_true rfl, Nat.le_of_ble_eq_true rfl, Nat.le_of_ble_eq_true rfl, Nat.le_of_ble_eq_true rfl⟩).trans ?_
  refine (vret_v (spJx4a65c_size_8abf5 s2)).trans ?_
  refine (rn_icmp_ge (t := 39) (pc := 10) (dd bX2_isVisible dX2_isVisible_10) rfl).trans (itec (fun c1 => ?_) (fun c1 => ?_))
  · refine (rn_iconst (pc := 39) (dd bX2_isVisible dX2_isVisible_39) (by decide)).trans ?_
    exact rn_ireturn (pc := 40) (dd bX2_isVisible dX2_isVisible_40) (Or.inr ⟨rfl, (by decide)⟩)
  · refine (rn_aload_n (pc := 13) (dd bX2_isVisible dX2_isVisible_13) rfl).trans ?_
    refine (rg_gf (pc := 14) (dd bX2_isVisible dX2_isVisible_14) (ci := 3) (j := 2) rfl rfl (key := 402) rfl (kc := 23) rfl s1.1 s1.2.2.2).trans ?_
    refine (rn_iload_n (pc := 17) (dd bX2_isVisible dX2_isVisible_17) rfl).trans ?_
    refine (rg_virtual (pc := 18) (dd bX2_isVisible dX2_isVisible_18) rfl rfl (by decide) (kc := 20) rfl s2 (as := [(1, x0 + 3), (0, x2)]) rfl ⟨Nat.le_of_ble_eq_true rfl, Nat.le_of_ble_eq_true rfl, Nat.le_of_ble_eq_true rfl, Nat.le_of_ble_eq_true rfl⟩).trans ?_
    refine (vret_v (spJx4a65c_get_915e3 s2 (p3 c1) (Int.not_le.mp c1) (p4 c1) (p5 c1) (p6 c1))).trans ?_
    refine (rg_cast (pc := 21) (dd bX2_isVisible dX2_isVisible_21) (ci := 2) rfl (kc := 22) rfl (s7 c1)).trans ?_
    refine (rn_iload_n (pc := 24) (dd bX2_isVisible dX2_isVisible_24) rfl).trans ?_
    refine (rg_virtual (pc := 25) (dd bX2_isVisible dX2_isVisible_25) rfl rfl (by decide) (kc := 22) rfl (s7 c1) (as := [(1, h 2 (h 101 (x0 + 3) 0) x2), (0, x1)]) rfl ⟨Nat.le_of_ble_eq_true rfl, Nat.le_of_ble_eq_true rfl, Nat.le_of_ble_eq_true rfl, Nat.le_of_ble_eq_true rfl⟩).trans ?_
    refine (vret_v (spX1_hides (s7 c1))).trans ?_
    refine (rn_if_eq (t := 33) (pc := 28) (dd bX2_isVisible dX2_isVisible_28) rfl).trans (itec (fun c2 => ?_) (fun c2 => ?_))
    · refine (rg_iinc (pc := 33) (dd bX2_isVisible dX2_isVisible_33) rfl (Nat.le_of_ble_eq_true rfl) (by have z0 := p5 c1; omega) (p8 c1 c2) rfl).trans ?_
      refine (rn_goto (t := 2) (pc := 36) (dd bX2_isVisible dX2_isVisible_36) rfl).trans ?_
      rfl
    · refine (rn_iconst (pc := 31) (dd bX2_isVisible dX2_isVisible_31) (by decide)).trans ?_
      exact rn_ireturn (pc := 32) (dd bX2_isVisible dX2_isVisible_32) (Or.inr ⟨rfl, (by decide)⟩)
theorem bX2_isHidden : vmB mX2_isHidden = cX2_isHidden := rfl
theorem rX2_isHidden_0 {x0 : Int} {x1 : Int} {x2 : Int} {h : vH} : vrun mX2_isHidden 0 [(1, x0), (0, x1), (0, x2), (9, 0)] [] h = vrun mX2_isHidden 2 [(1, x0), (0, x1), (0, x2), (0, 0)] [] h := by
  refine (rn_iconst (pc := 0) (dd bX2_isHidden dX2_isHidden_0) (by decide)).trans ?_
  refine (rn_istore_n (pc := 1) (dd bX2_isHidden dX2_isHidden_1) (Nat.le_of_ble_eq_true rfl) rfl).trans ?_
  rfl
theorem rX2_isHidden_2 {x0 : Int} {x1 : Int} {x2 : Int} {x3 : Int} {h : vH} (s1 : shLayers h x0) (s2 : shList h (x0 + 1)) (p3 : ¬ (h 102 (x0 + 1) 0 ≤ x3) → ¬ (x3 < 0)) (p4 : ¬ (h 102 (x0 + 1) 0 ≤ x3) → h 0 (h 101 (x0 + 1) 0) 0 = 6) (p5 : ¬ (h 102 (x0 + 1) 0 ≤ x3) → 0 ≤ x3) (p6 : ¬ (h 102 (x0 + 1) 0 ≤ x3) → x3 < h 1 (h 101 (x0 + 1) 0) 0) (s7 : ¬ (h 102 (x0 + 1) 0 ≤ x3) → shSpan h (h 2 (h 101 (x0 + 1) 0) x3)) (p8 : ¬ (h 102 (x0 + 1) 0 ≤ x3) → fX8_holds h (h 2 (h 101 (x0 + 1) 0) x3) x1 x2 = 0 → x3 + 1 < 2147483648) : vrun mX2_isHidden 2 [(1, x0), (0, x1), (0, x2), (0, x3)] [] h = if h 102 (x0 + 1) 0 ≤ x3 then some (.inl (some (0, 0)), h) else if fX8_holds h (h 2 (h 101 (x0 + 1) 0) x3) x1 x2 = 0 then vrun mX2_isHidden 2 [(1, x0), (0, x1), (0, x2), (0, x3 + 1)] [] h else some (.inl (some (0, 1)), h) := by
  refine (rn_iload_n (pc := 2) (dd bX2_isHidden dX2_isHidden_2) rfl).trans ?_
  refine (rn_aload_n (pc := 3) (dd bX2_isHidden dX2_isHidden_3) rfl).trans ?_
  refine (rg_gf (pc := 4) (dd bX2_isHidden dX2_isHidden_4) (ci := 3) (j := 0) rfl rfl (key := 400) rfl (kc := 23) rfl s1.1 s1.2.1).trans ?_
  refine (rg_virtual (pc := 7) (dd bX2_isHidden dX2_isHidden_7) rfl rfl (by decide) (kc := 20) rfl s2 (as := [(1, x0 + 1)]) rfl ⟨Nat.le_of_ble_eq_true rfl, Nat.le_of_ble_eq_true rfl, Nat.le_of_ble_eq_true rfl, Nat.le_of_ble_eq_true rfl⟩).trans ?_
  refine (vret_v (spJx4a65c_size_8abf5 s2)).trans ?_
  refine (rn_icmp_ge (t := 40) (pc := 10) (dd bX2_isHidden dX2_isHidden_10) rfl).trans (itec (fun c1 => ?_) (fun c1 => ?_))
  · refine (rn_iconst (pc := 40) (dd bX2_isHidden dX2_isHidden_40) (by decide)).trans ?_
    exact rn_ireturn (pc := 41) (dd bX2_isHidden dX2_isHidden_41) (Or.inr ⟨rfl, (by decide)⟩)
  · refine (rn_aload_n (pc := 13) (dd bX2_isHidden dX2_isHidden_13) rfl).trans ?_
    refine (rg_gf (pc := 14) (dd bX2_isHidden dX2_isHidden_14) (ci := 3) (j := 0) rfl rfl (key := 400) rfl (kc := 23) rfl s1.1 s1.2.1).trans ?_
    refine (rn_iload_n (pc := 17) (dd bX2_isHidden dX2_isHidden_17) rfl).trans ?_
    refine (rg_virtual (pc := 18) (dd bX2_isHidden dX2_isHidden_18) rfl rfl (by decide) (kc := 20) rfl s2 (as := [(1, x0 + 1), (0, x3)]) rfl ⟨Nat.le_of_ble_eq_true rfl, Nat.le_of_ble_eq_true rfl, Nat.le_of_ble_eq_true rfl, Nat.le_of_ble_eq_true rfl⟩).trans ?_
    refine (vret_v (spJx4a65c_get_915e3 s2 (p3 c1) (Int.not_le.mp c1) (p4 c1) (p5 c1) (p6 c1))).trans ?_
    refine (rg_cast (pc := 21) (dd bX2_isHidden dX2_isHidden_21) (ci := 9) rfl (kc := 29) rfl (s7 c1).1).trans ?_
    refine (rn_iload_n (pc := 24) (dd bX2_isHidden dX2_isHidden_24) rfl).trans ?_
    refine (rn_iload_n (pc := 25) (dd bX2_isHidden dX2_isHidden_25) rfl).trans ?_
    refine (rg_virtual (pc := 26) (dd bX2_isHidden dX2_isHidden_26) rfl rfl (by decide) (kc := 29) rfl (s7 c1).1 (as := [(1, h 2 (h 101 (x0 + 1) 0) x3), (0, x1), (0, x2)]) rfl ⟨Nat.le_of_ble_eq_true rfl, Nat.le_of_ble_eq_true rfl, Nat.le_of_ble_eq_true rfl, Nat.le_of_ble_eq_true rfl⟩).trans ?_
    refine (vret_v (spX8_holds (s7 c1))).trans ?_
    refine (rn_if_eq (t := 34) (pc := 29) (dd bX2_isHidden dX2_isHidden_29) rfl).trans (itec (fun c2 => ?_) (fun c2 => ?_))
    · refine (rg_iinc (pc := 34) (dd bX2_isHidden dX2_isHidden_34) rfl (Nat.le_of_ble_eq_true rfl) (by have z0 := p5 c1; omega) (p8 c1 c2) rfl).trans ?_
      refine (rn_goto (t := 2) (pc := 37) (dd bX2_isHidden dX2_isHidden_37) rfl).trans ?_
      rfl
    · refine (rn_iconst (pc := 32) (dd bX2_isHidden dX2_isHidden_32) (by decide)).trans ?_
      exact rn_ireturn (pc := 33) (dd bX2_isHidden dX2_isHidden_33) (Or.inr ⟨rfl, (by decide)⟩)
theorem bX2_closedEnd : vmB mX2_closedEnd = cX2_closedEnd := rfl
theorem rX2_closedEnd_0 {x0 : Int} {x1 : Int} {h : vH} : vrun mX2_closedEnd 0 [(1, x0), (0, x1), (9, 0), (9, 0), (9, 0)] [] h = vrun mX2_closedEnd 4 [(1, x0), (0, x1), (0, (-1)), (0, 0), (9, 0)] [] h := by
  refine (rn_iconst (pc := 0) (dd bX2_closedEnd dX2_closedEnd_0) (by decide)).trans ?_
  refine (rn_istore_n (pc := 1) (dd bX2_closedEnd dX2_closedEnd_1) (Nat.le_of_ble_eq_true rfl) rfl).trans ?_
  refine (rn_iconst (pc := 2) (dd bX2_closedEnd dX2_closedEnd_2) (by decide)).trans ?_
  refine (rn_istore_n (pc := 3) (dd bX2_closedEnd dX2_closedEnd_3) (Nat.le_of_ble_eq_true rfl) rfl).trans ?_
  rfl
theorem rX2_closedEnd_4 {x0 : Int} {x1 : Int} {x2 : Int} {x3 : Int} {v4 : vv} {h : vH} (s1 : shLayers h x0) (s2 : shList h (x0 + 3)) (p3 : ¬ (h 102 (x0 + 3) 0 ≤ x3) → ¬ (x3 < 0)) (p4 : ¬ (h 102 (x0 + 3) 0 ≤ x3) → h 0 (h 101 (x0 + 3) 0) 0 = 6) (p5 : ¬ (h 102 (x0 + 3) 0 ≤ x3) → 0 ≤ x3) (p6 : ¬ (h 102 (x0 + 3) 0 ≤ x3) → x3 < h 1 (h 101 (x0 + 3) 0) 0) (s7 : ¬ (h 102 (x0 + 3) 0 ≤ x3) → shFold h (h 2 (h 101 (x0 + 3) 0) x3)) (p8 : ¬ (h 102 (x0 + 3) 0 ≤ x3) → x3 + 1 < 2147483648) : vrun mX2_closedEnd 4 [(1, x0), (0, x1), (0, x2), (0, x3), v4] [] h = if h 102 (x0 + 3) 0 ≤ x3 then some (.inl (some (0, x2)), h) else vrun mX2_closedEnd 4 [(1, x0), (0, x1), (0, (if h 302 (h 2 (h 101 (x0 + 3) 0) x3) 0 = 0 then x2 else (if h 300 (h 2 (h 101 (x0 + 3) 0) x3) 0 = x1 then max x2 (h 301 (h 2 (h 101 (x0 + 3) 0) x3) 0) else x2))), (0, x3 + 1), (1, h 2 (h 101 (x0 + 3) 0) x3)] [] h := by
  refine (rn_iload_n (pc := 4) (dd bX2_closedEnd dX2_closedEnd_4) rfl).trans ?_
  refine (rn_aload_n (pc := 5) (dd bX2_closedEnd dX2_closedEnd_5) rfl).trans ?_
  refine (rg_gf (pc := 6) (dd bX2_closedEnd dX2_closedEnd_6) (ci := 3) (j := 2) rfl rfl (key := 402) rfl (kc := 23) rfl s1.1 s1.2.2.2).trans ?_
  refine (rg_virtual (pc := 9) (dd bX2_closedEnd dX2_closedEnd_9) rfl rfl (by decide) (kc := 20) rfl s2 (as := [(1, x0 + 3)]) rfl ⟨Nat.le_of_ble_eq_true rfl, Nat.le_of_ble_eq_true rfl, Nat.le_of_ble_eq_true rfl, Nat.le_of_ble_eq_true rfl⟩).trans ?_
  refine (vret_v (spJx4a65c_size_8abf5 s2)).trans ?_
  refine (rn_icmp_ge (t := 61) (pc := 12) (dd bX2_closedEnd dX2_closedEnd_12) rfl).trans (itec (fun c1 => ?_) (fun c1 => ?_))
  · refine (rn_iload_n (pc := 61) (dd bX2_closedEnd dX2_closedEnd_61) rfl).trans ?_
    exact rn_ireturn (pc := 62) (dd bX2_closedEnd dX2_closedEnd_62) (Or.inl rfl)
  · refine (rn_aload_n (pc := 15) (dd bX2_closedEnd dX2_closedEnd_15) rfl).trans ?_
    refine (rg_gf (pc := 16) (dd bX2_closedEnd dX2_closedEnd_16) (ci := 3) (j := 2) rfl rfl (key := 402) rfl (kc := 23) rfl s1.1 s1.2.2.2).trans ?_
    refine (rn_iload_n (pc := 19) (dd bX2_closedEnd dX2_closedEnd_19) rfl).trans ?_
    refine (rg_virtual (pc := 20) (dd bX2_closedEnd dX2_closedEnd_20) rfl rfl (by decide) (kc := 20) rfl s2 (as := [(1, x0 + 3), (0, x3)]) rfl ⟨Nat.le_of_ble_eq_true rfl, Nat.le_of_ble_eq_true rfl, Nat.le_of_ble_eq_true rfl, Nat.le_of_ble_eq_true rfl⟩).trans ?_
    refine (vret_v (spJx4a65c_get_915e3 s2 (p3 c1) (Int.not_le.mp c1) (p4 c1) (p5 c1) (p6 c1))).trans ?_
    refine (rg_cast (pc := 23) (dd bX2_closedEnd dX2_closedEnd_23) (ci := 2) rfl (kc := 22) rfl (s7 c1)).trans ?_
    refine (rn_astore (pc := 26) (dd bX2_closedEnd dX2_closedEnd_26) (Nat.le_of_ble_eq_true rfl) rfl).trans ?_
    refine (rn_aload (pc := 28) (dd bX2_closedEnd dX2_closedEnd_28) rfl).trans ?_
    refine (rg_gf (pc := 30) (dd bX2_closedEnd dX2_closedEnd_30) (ci := 2) (j := 2) rfl rfl (key := 302) rfl (kc := 22) rfl (s7 c1) rfl).trans ?_
    have e2 : vrun mX2_closedEnd 33 [(1, x0), (0, x1), (0, x2), (0, x3), (1, h 2 (h 101 (x0 + 3) 0) x3)] [(0, h 302 (h 2 (h 101 (x0 + 3) 0) x3) 0)] h = vrun mX2_closedEnd 55 [(1, x0), (0, x1), (0, (if h 302 (h 2 (h 101 (x0 + 3) 0) x3) 0 = 0 then x2 else (if h 300 (h 2 (h 101 (x0 + 3) 0) x3) 0 = x1 then max x2 (h 301 (h 2 (h 101 (x0 + 3) 0) x3) 0) else x2))), (0, x3), (1, h 2 (h 101 (x0 + 3) 0) x3)] [] h := by
      refine (rn_if_eq (t := 55) (pc := 33) (dd bX2_closedEnd dX2_closedEnd_33) rfl).trans ?_
      by_cases c2 : h 302 (h 2 (h 101 (x0 + 3) 0) x3) 0 = 0
      · refine (if_pos c2).trans ?_
        refine Eq.trans (b := vrun mX2_closedEnd 55 [(1, x0), (0, x1), (0, x2), (0, x3), (1, h 2 (h 101 (x0 + 3) 0) x3)] [] h) rfl ?_
        simp only [if_pos c2]
      · refine (if_neg c2).trans ?_
        refine (rn_aload (pc := 36) (dd bX2_closedEnd dX2_closedEnd_36) rfl).trans ?_
        refine (rg_gf (pc := 38) (dd bX2_closedEnd dX2_closedEnd_38) (ci := 2) (j := 0) rfl rfl (key := 300) rfl (kc := 22) rfl (s7 c1) rfl).trans ?_
        refine (rn_iload_n (pc := 41) (dd bX2_closedEnd dX2_closedEnd_41) rfl).trans ?_
        have e1 : vrun mX2_closedEnd 42 [(1, x0), (0, x1), (0, x2), (0, x3), (1, h 2 (h 101 (x0 + 3) 0) x3)] [(0, x1), (0, h 300 (h 2 (h 101 (x0 + 3) 0) x3) 0)] h = vrun mX2_closedEnd 55 [(1, x0), (0, x1), (0, (if h 300 (h 2 (h 101 (x0 + 3) 0) x3) 0 = x1 then max x2 (h 301 (h 2 (h 101 (x0 + 3) 0) x3) 0) else x2)), (0, x3), (1, h 2 (h 101 (x0 + 3) 0) x3)] [] h := by
          refine (rg_icmp_ne (t := 55) (pc := 42) (dd bX2_closedEnd dX2_closedEnd_42) rfl).trans ?_
          by_cases c3 : h 300 (h 2 (h 101 (x0 + 3) 0) x3) 0 = x1
          · refine (if_pos c3).trans ?_
            refine (rn_iload_n (pc := 45) (dd bX2_closedEnd dX2_closedEnd_45) rfl).trans ?_
            refine (rn_aload (pc := 46) (dd bX2_closedEnd dX2_closedEnd_46) rfl).trans ?_
            refine (rg_gf (pc := 48) (dd bX2_closedEnd dX2_closedEnd_48) (ci := 2) (j := 1) rfl rfl (key := 301) rfl (kc := 22) rfl (s7 c1) rfl).trans ?_
            refine (rg_max (pc := 51) (dd bX2_closedEnd dX2_closedEnd_51) rfl ⟨Nat.le_of_ble_eq_true rfl, Nat.le_of_ble_eq_true rfl, Nat.le_of_ble_eq_true rfl⟩).trans ?_
            refine (rn_istore_n (pc := 54) (dd bX2_closedEnd dX2_closedEnd_54) (Nat.le_of_ble_eq_true rfl) rfl).trans ?_
            refine Eq.trans (b := vrun mX2_closedEnd 55 [(1, x0), (0, x1), (0, max x2 (h 301 (h 2 (h 101 (x0 + 3) 0) x3) 0)), (0, x3), (1, h 2 (h 101 (x0 + 3) 0) x3)] [] h) rfl ?_
            simp only [if_pos c3]
          · refine (if_neg c3).trans ?_
            refine Eq.trans (b := vrun mX2_closedEnd 55 [(1, x0), (0, x1), (0, x2), (0, x3), (1, h 2 (h 101 (x0 + 3) 0) x3)] [] h) rfl ?_
            simp only [if_neg c3]
        refine e1.trans ?_
        refine Eq.trans (b := vrun mX2_closedEnd 55 [(1, x0), (0, x1), (0, (if h 300 (h 2 (h 101 (x0 + 3) 0) x3) 0 = x1 then max x2 (h 301 (h 2 (h 101 (x0 + 3) 0) x3) 0) else x2)), (0, x3), (1, h 2 (h 101 (x0 + 3) 0) x3)] [] h) rfl ?_
        simp only [if_neg c2]
    refine e2.trans ?_
    refine (rg_iinc (pc := 55) (dd bX2_closedEnd dX2_closedEnd_55) rfl (Nat.le_of_ble_eq_true rfl) (by have z0 := p5 c1; omega) (p8 c1) rfl).trans ?_
    refine (rn_goto (t := 4) (pc := 58) (dd bX2_closedEnd dX2_closedEnd_58) rfl).trans ?_
    rfl

