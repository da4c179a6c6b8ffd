theorem bX12_lines : vmB mX12_lines = cX12_lines := rfl
theorem rX12_lines_0 {h : vH} (s1 : shPL h) (s2 : shText h) : vrun mX12_lines 0 [(1, 3)] [] h = some (.inl (some (0, h 1201 4 0)), h) := by
  refine (rn_aload_n (pc := 0) (dd bX12_lines dX12_lines_0) rfl).trans ?_
  refine (rg_gf (pc := 1) (dd bX12_lines dX12_lines_1) (ci := 13) (j := 0) rfl rfl (key := 1400) rfl (kc := 33) rfl s1.1 s1.2.1).trans ?_
  refine (rg_gf (pc := 4) (dd bX12_lines dX12_lines_4) (ci := 11) (j := 1) rfl rfl (key := 1201) rfl (kc := 31) rfl s2.1 rfl).trans ?_
  exact rn_ireturn (pc := 7) (dd bX12_lines dX12_lines_7) (Or.inl rfl)
theorem spX12_lines {h : vH} (s1 : shPL h) (s2 : shText h) : vcl mX12_lines [(1, 3)] h = some (.inl (some (0, h 1201 4 0)), h) := by
  refine (show _ = _ from rX12_lines_0 s1 s2).trans ?_
  rfl
theorem bX12_checkLine : vmB mX12_checkLine = cX12_checkLine := rfl
theorem rX12_checkLine_0 {x1 : Int} {h : vH} (s1 : shPL h) (s2 : shText h) : vrun mX12_checkLine 0 [(1, 3), (0, x1)] [] h = if x1 < 0 then some (.inr "java/lang/IndexOutOfBoundsException", vexc h) else if x1 < h 1201 4 0 then some (.inl none, h) else some (.inr "java/lang/IndexOutOfBoundsException", vexc h) := by
  refine (rn_iload_n (pc := 0) (dd bX12_checkLine dX12_checkLine_0) rfl).trans ?_
  refine (rn_if_lt (t := 15) (pc := 1) (dd bX12_checkLine dX12_checkLine_1) rfl).trans (itec (fun c1 => ?_) (fun c1 => ?_))
  · exact rn_throw (pc := 15) (dd bX12_checkLine dX12_checkLine_15) rfl (vthrows_m bX12_checkLine (vthrows_w dX12_checkLine_15 dX12_checkLine_18 dX12_checkLine_19 dX12_checkLine_22 dX12_checkLine_25)) ⟨rfl, rfl, rfl, Nat.le_of_ble_eq_true rfl, Nat.le_of_ble_eq_true rfl⟩
  · refine (rn_iload_n (pc := 4) (dd bX12_checkLine dX12_checkLine_4) rfl).trans ?_
    refine (rn_aload_n (pc := 5) (dd bX12_checkLine dX12_checkLine_5) rfl).trans ?_
    refine (rg_gf (pc := 6) (dd bX12_checkLine dX12_checkLine_6) (ci := 13) (j := 0) rfl rfl (key := 1400) rfl (kc := 33) rfl s1.1 s1.2.1).trans ?_
    refine (rg_gf (pc := 9) (dd bX12_checkLine dX12_checkLine_9) (ci := 11) (j := 1) rfl rfl (key := 1201) rfl (kc := 31) rfl s2.1 rfl).trans ?_
    refine (rn_icmp_lt (t := 26) (pc := 12) (dd bX12_checkLine dX12_checkLine_12) rfl).trans (itec (fun c2 => ?_) (fun c2 => ?_))
    · exact rn_return (pc := 26) (dd bX12_checkLine dX12_checkLine_26) rfl
    · exact rn_throw (pc := 15) (dd bX12_checkLine dX12_checkLine_15) rfl (vthrows_m bX12_checkLine (vthrows_w dX12_checkLine_15 dX12_checkLine_18 dX12_checkLine_19 dX12_checkLine_22 dX12_checkLine_25)) ⟨rfl, rfl, rfl, Nat.le_of_ble_eq_true rfl, Nat.le_of_ble_eq_true rfl⟩
theorem bX12_lineOf : vmB mX12_lineOf = cX12_lineOf := rfl
theorem rX12_lineOf_0 {x1 : Int} {h : vH} (s1 : shPL h) : vrun mX12_lineOf 0 [(1, 3), (0, x1)] [] h = vret vrun mX12_lineOf 2 [(1, 3), (0, x1)] [] (vcl mX12_checkLine [(1, 3), (0, x1)] h) := by
  refine (rn_aload_n (pc := 0) (dd bX12_lineOf dX12_lineOf_0) rfl).trans ?_
  refine (rn_iload_n (pc := 1) (dd bX12_lineOf dX12_lineOf_1) rfl).trans ?_
  exact rg_virtual (pc := 2) (dd bX12_lineOf dX12_lineOf_2) rfl rfl (by decide) (kc := 33) rfl s1.1 (as := [(1, 3), (0, x1)]) rfl ⟨Nat.le_of_ble_eq_true rfl, Nat.le_of_ble_eq_true rfl, Nat.le_of_ble_eq_true rfl, Nat.le_of_ble_eq_true rfl⟩
theorem rX12_lineOf_5 {x1 : Int} {h : vH} (s1 : shPL h) (s2 : shText h) : vrun mX12_lineOf 5 [(1, 3), (0, x1)] [] h = some (.inl (some (1, fX10_at h x1)), h) := by
  refine (rn_aload_n (pc := 5) (dd bX12_lineOf dX12_lineOf_5) rfl).trans ?_
  refine (rg_gf (pc := 6) (dd bX12_lineOf dX12_lineOf_6) (ci := 13) (j := 0) rfl rfl (key := 1400) rfl (kc := 33) rfl s1.1 s1.2.1).trans ?_
  refine (rn_iload_n (pc := 9) (dd bX12_lineOf dX12_lineOf_9) rfl).trans ?_
  refine (rg_virtual (pc := 10) (dd bX12_lineOf dX12_lineOf_10) rfl rfl (by decide) (kc := 31) rfl s2.1 (as := [(1, 4), (0, x1)]) rfl ⟨Nat.le_of_ble_eq_true rfl, Nat.le_of_ble_eq_true rfl, Nat.le_of_ble_eq_true rfl, Nat.le_of_ble_eq_true rfl⟩).trans ?_
  refine (vret_v (spX10_at s2)).trans ?_
  exact rn_areturn (pc := 13) (dd bX12_lineOf dX12_lineOf_13) rfl
theorem bX12_length : vmB mX12_length = cX12_length := rfl
theorem rX12_length_0 {x1 : Int} {h : vH} (s1 : shPL h) : vrun mX12_length 0 [(1, 3), (0, x1)] [] h = vret vrun mX12_length 2 [(1, 3), (0, x1)] [] (vcl mX12_lineOf [(1, 3), (0, x1)] h) := by
  refine (rn_aload_n (pc := 0) (dd bX12_length dX12_length_0) rfl).trans ?_
  refine (rn_iload_n (pc := 1) (dd bX12_length dX12_length_1) rfl).trans ?_
  exact rg_virtual (pc := 2) (dd bX12_length dX12_length_2) rfl rfl (by decide) (kc := 33) rfl s1.1 (as := [(1, 3), (0, x1)]) rfl ⟨Nat.le_of_ble_eq_true rfl, Nat.le_of_ble_eq_true rfl, Nat.le_of_ble_eq_true rfl, Nat.le_of_ble_eq_true rfl⟩
theorem rX12_length_5 {x1 : Int} {y0 : Int} {h : vH} (s1 : shLine h y0) : vrun mX12_length 5 [(1, 3), (0, x1)] [(1, y0)] h = some (.inl (some (0, h 601 y0 0)), h) := by
  refine (rg_gf (pc := 5) (dd bX12_length dX12_length_5) (ci := 5) (j := 1) rfl rfl (key := 601) rfl (kc := 25) rfl s1.1 rfl).trans ?_
  exact rn_ireturn (pc := 8) (dd bX12_length dX12_length_8) (Or.inl rfl)
theorem bX12_checkRange : vmB mX12_checkRange = cX12_checkRange := rfl
theorem rX12_checkRange_0 {x1 : Int} {x2 : Int} {x3 : Int} {h : vH} : vrun mX12_checkRange 0 [(1, 3), (0, x1), (0, x2), (0, x3)] [] h = if x1 < x2 then some (.inr "java/lang/IllegalArgumentException", vexc h) else if x1 ≤ x3 then some (.inl none, h) else some (.inr "java/lang/IllegalArgumentException", vexc h) := by
  refine (rn_iload_n (pc := 0) (dd bX12_checkRange dX12_checkRange_0) rfl).trans ?_
  refine (rn_iload_n (pc := 1) (dd bX12_checkRange dX12_checkRange_1) rfl).trans ?_
  refine (rn_icmp_lt (t := 10) (pc := 2) (dd bX12_checkRange dX12_checkRange_2) rfl).trans (itec (fun c1 => ?_) (fun c1 => ?_))
  · exact rn_throw (pc := 10) (dd bX12_checkRange dX12_checkRange_10) rfl (vthrows_m bX12_checkRange (vthrows_w dX12_checkRange_10 dX12_checkRange_13 dX12_checkRange_14 dX12_checkRange_17 dX12_checkRange_20)) ⟨rfl, rfl, rfl, Nat.le_of_ble_eq_true rfl, Nat.le_of_ble_eq_true rfl⟩
  · refine (rn_iload_n (pc := 5) (dd bX12_checkRange dX12_checkRange_5) rfl).trans ?_
    refine (rn_iload_n (pc := 6) (dd bX12_checkRange dX12_checkRange_6) rfl).trans ?_
    refine (rn_icmp_le (t := 21) (pc := 7) (dd bX12_checkRange dX12_checkRange_7) rfl).trans (itec (fun c2 => ?_) (fun c2 => ?_))
    · exact rn_return (pc := 21) (dd bX12_checkRange dX12_checkRange_21) rfl
    · exact rn_throw (pc := 10) (dd bX12_checkRange dX12_checkRange_10) rfl (vthrows_m bX12_checkRange (vthrows_w dX12_checkRange_10 dX12_checkRange_13 dX12_checkRange_14 dX12_checkRange_17 dX12_checkRange_20)) ⟨rfl, rfl, rfl, Nat.le_of_ble_eq_true rfl, Nat.le_of_ble_eq_true rfl⟩
theorem bX12_sign : vmB mX12_sign = cX12_sign := rfl
theorem rX12_sign_0 {x1 : Int} {x2 : Int} {h : vH} (s1 : shPL h) : vrun mX12_sign 0 [(1, 3), (0, x1), (0, x2), (9, 0)] [] h = vret vrun mX12_sign 2 [(1, 3), (0, x1), (0, x2), (9, 0)] [] (vcl mX12_lineOf [(1, 3), (0, x1)] h) := by
  refine (rn_aload_n (pc := 0) (dd bX12_sign dX12_sign_0) rfl).trans ?_
  refine (rn_iload_n (pc := 1) (dd bX12_sign dX12_sign_1) rfl).trans ?_
  exact rg_virtual (pc := 2) (dd bX12_sign dX12_sign_2) rfl rfl (by decide) (kc := 33) rfl s1.1 (as := [(1, 3), (0, x1)]) rfl ⟨Nat.le_of_ble_eq_true rfl, Nat.le_of_ble_eq_true rfl, Nat.le_of_ble_eq_true rfl, Nat.le_of_ble_eq_true rfl⟩
theorem rX12_sign_5 {x1 : Int} {x2 : Int} {y0 : Int} {h : vH} (s1 : shLine h y0) (p2 : (-2147483648) ≤ h 601 y0 0 - 1) (p3 : h 601 y0 0 - 1 < 2147483648) (s4 : shPL h) : vrun mX12_sign 5 [(1, 3), (0, x1), (0, x2), (9, 0)] [(1, y0)] h = vret vrun mX12_sign 15 [(1, 3), (0, x1), (0, x2), (1, y0)] [] (vcl mX12_checkRange [(1, 3), (0, x2), (0, 0), (0, h 601 y0 0 - 1)] h) := by
  refine (rn_astore_n (pc := 5) (dd bX12_sign dX12_sign_5) (Nat.le_of_ble_eq_true rfl) rfl).trans ?_
  refine (rn_aload_n (pc := 6) (dd bX12_sign dX12_sign_6) rfl).trans ?_
  refine (rn_iload_n (pc := 7) (dd bX12_sign dX12_sign_7) rfl).trans ?_
  refine (rn_iconst (pc := 8) (dd bX12_sign dX12_sign_8) (by decide)).trans ?_
  refine (rn_aload_n (pc := 9) (dd bX12_sign dX12_sign_9) rfl).trans ?_
  refine (rg_gf (pc := 10) (dd bX12_sign dX12_sign_10) (ci := 5) (j := 1) rfl rfl (key := 601) rfl (kc := 25) rfl s1.1 rfl).trans ?_
  refine (rn_iconst (pc := 13) (dd bX12_sign dX12_sign_13) (by decide)).trans ?_
  refine (rg_isub (pc := 14) (dd bX12_sign dX12_sign_14) p2 p3).trans ?_
  exact rg_virtual (pc := 15) (dd bX12_sign dX12_sign_15) rfl rfl (by decide) (kc := 33) rfl s4.1 (as := [(1, 3), (0, x2), (0, 0), (0, h 601 y0 0 - 1)]) rfl ⟨Nat.le_of_ble_eq_true rfl, Nat.le_of_ble_eq_true rfl, Nat.le_of_ble_eq_true rfl, Nat.le_of_ble_eq_true rfl⟩
theorem rX12_sign_18 {x1 : Int} {x2 : Int} {x3 : Int} {h : vH} (s1 : shLine h x3) : vrun mX12_sign 18 [(1, 3), (0, x1), (0, x2), (1, x3)] [] h = some (.inl (some (0, fX4_signAt h x3 x2)), h) := by
  refine (rn_aload_n (pc := 18) (dd bX12_sign dX12_sign_18) rfl).trans ?_
  refine (rn_iload_n (pc := 19) (dd bX12_sign dX12_sign_19) rfl).trans ?_
  refine (rg_virtual (pc := 20) (dd bX12_sign dX12_sign_20) rfl rfl (by decide) (kc := 25) rfl s1.1 (as := [(1, x3), (0, x2)]) rfl ⟨Nat.le_of_ble_eq_true rfl, Nat.le_of_ble_eq_true rfl, Nat.le_of_ble_eq_true rfl, Nat.le_of_ble_eq_true rfl⟩).trans ?_
  refine (vret_v (spX4_signAt s1)).trans ?_
  exact rn_ireturn (pc := 23) (dd bX12_sign dX12_sign_23) (Or.inl rfl)
theorem bX12_checkSign : vmB mX12_checkSign = cX12_checkSign := rfl
theorem rX12_checkSign_0 {x1 : Int} {h : vH} : vrun mX12_checkSign 0 [(1, 3), (0, x1)] [] h = if x1 = 9 then some (.inl none, h) else if x1 < 32 then some (.inr "java/lang/IllegalArgumentException", vexc h) else if x1 ≤ 126 then some (.inl none, h) else some (.inr "java/lang/IllegalArgumentException", vexc h) := by
  refine (rn_iload_n (pc := 0) (dd bX12_checkSign dX12_checkSign_0) rfl).trans ?_
  refine (rn_bipush (pc := 1) (dd bX12_checkSign dX12_checkSign_1) (by decide)).trans ?_
  refine (rn_icmp_eq (t := 29) (pc := 3) (dd bX12_checkSign dX12_checkSign_3) rfl).trans (itec (fun c1 => ?_) (fun c1 => ?_))
  · exact rn_return (pc := 29) (dd bX12_checkSign dX12_checkSign_29) rfl
  · refine (rn_iload_n (pc := 6) (dd bX12_checkSign dX12_checkSign_6) rfl).trans ?_
    refine (rn_bipush (pc := 7) (dd bX12_checkSign dX12_checkSign_7) (by decide)).trans ?_
    refine (rn_icmp_lt (t := 18) (pc := 9) (dd bX12_checkSign dX12_checkSign_9) rfl).trans (itec (fun c2 => ?_) (fun c2 => ?_))
    · exact rn_throw (pc := 18) (dd bX12_checkSign dX12_checkSign_18) rfl (vthrows_m bX12_checkSign (vthrows_w dX12_checkSign_18 dX12_checkSign_21 dX12_checkSign_22 dX12_checkSign_25 dX12_checkSign_28)) ⟨rfl, rfl, rfl, Nat.le_of_ble_eq_true rfl, Nat.le_of_ble_eq_true rfl⟩
    · refine (rn_iload_n (pc := 12) (dd bX12_checkSign dX12_checkSign_12) rfl).trans ?_
      refine (rn_bipush (pc := 13) (dd bX12_checkSign dX12_checkSign_13) (by decide)).trans ?_
      refine (rn_icmp_le (t := 29) (pc := 15) (dd bX12_checkSign dX12_checkSign_15) rfl).trans (itec (fun c3 => ?_) (fun c3 => ?_))
      · exact rn_return (pc := 29) (dd bX12_checkSign dX12_checkSign_29) rfl
      · exact rn_throw (pc := 18) (dd bX12_checkSign dX12_checkSign_18) rfl (vthrows_m bX12_checkSign (vthrows_w dX12_checkSign_18 dX12_checkSign_21 dX12_checkSign_22 dX12_checkSign_25 dX12_checkSign_28)) ⟨rfl, rfl, rfl, Nat.le_of_ble_eq_true rfl, Nat.le_of_ble_eq_true rfl⟩
theorem bX12_checkState : vmB mX12_checkState = cX12_checkState := rfl
theorem rX12_checkState_0 {x1 : Int} {h : vH} : vrun mX12_checkState 0 [(1, 3), (0, x1)] [] h = if x1 = 0 then some (.inr "java/lang/IllegalStateException", vexc h) else some (.inl none, h) := by
  refine (rn_iload_n (pc := 0) (dd bX12_checkState dX12_checkState_0) rfl).trans ?_
  refine (rg_if_ne (t := 15) (pc := 1) (dd bX12_checkState dX12_checkState_1) rfl).trans (itec (fun c1 => ?_) (fun c1 => ?_))
  · exact rn_throw (pc := 4) (dd bX12_checkState dX12_checkState_4) rfl (vthrows_m bX12_checkState (vthrows_w dX12_checkState_4 dX12_checkState_7 dX12_checkState_8 dX12_checkState_11 dX12_checkState_14)) ⟨rfl, rfl, rfl, Nat.le_of_ble_eq_true rfl, Nat.le_of_ble_eq_true rfl⟩
  · exact rn_return (pc := 15) (dd bX12_checkState dX12_checkState_15) rfl
theorem bX12_putIn : vmB mX12_putIn = cX12_putIn := rfl
theorem rX12_putIn_0 {x1 : Int} {x2 : Int} {x3 : Int} {h : vH} (s1 : shPL h) (s2 : shText h) (s3 : shLine h (fX10_at h x1)) : vrun mX12_putIn 0 [(1, 3), (0, x1), (0, x2), (0, x3), (9, 0), (9, 0), (9, 0), (9, 0)] [] h = vret vrun mX12_putIn 10 [(1, 3), (0, x1), (0, x2), (0, x3), (9, 0), (9, 0), (9, 0), (9, 0)] [] (vcl mX4_putIn [(1, fX10_at h x1), (0, x2), (0, x3)] h) := by
  refine (rn_aload_n (pc := 0) (dd bX12_putIn dX12_putIn_0) rfl).trans ?_
  refine (rg_gf (pc := 1) (dd bX12_putIn dX12_putIn_1) (ci := 13) (j := 0) rfl rfl (key := 1400) rfl (kc := 33) rfl s1.1 s1.2.1).trans ?_
  refine (rn_iload_n (pc := 4) (dd bX12_putIn dX12_putIn_4) rfl).trans ?_
  refine (rg_virtual (pc := 5) (dd bX12_putIn dX12_putIn_5) rfl rfl (by decide) (kc := 31) rfl s2.1 (as := [(1, 4), (0, x1)]) rfl ⟨Nat.le_of_ble_eq_true rfl, Nat.le_of_ble_eq_true rfl, Nat.le_of_ble_eq_true rfl, Nat.le_of_ble_eq_true rfl⟩).trans ?_
  refine (vret_v (spX10_at s2)).trans ?_
  refine (rn_iload_n (pc := 8) (dd bX12_putIn dX12_putIn_8) rfl).trans ?_
  refine (rn_iload_n (pc := 9) (dd bX12_putIn dX12_putIn_9) rfl).trans ?_
  exact rg_virtual (pc := 10) (dd bX12_putIn dX12_putIn_10) rfl rfl (by decide) (kc := 25) rfl s3.1 (as := [(1, fX10_at h x1), (0, x2), (0, x3)]) rfl ⟨Nat.le_of_ble_eq_true rfl, Nat.le_of_ble_eq_true rfl, Nat.le_of_ble_eq_true rfl, Nat.le_of_ble_eq_true rfl⟩
theorem rX12_putIn_13 {x1 : Int} {x2 : Int} {x3 : Int} {h : vH} (s1 : shPL h) : vrun mX12_putIn 13 [(1, 3), (0, x1), (0, x2), (0, x3), (9, 0), (9, 0), (9, 0), (9, 0)] [] h = vrun mX12_putIn 27 [(1, 3), (0, x1), (0, x2), (0, x3), (1, 126), (0, 4), (0, 0), (9, 0)] [] h := by
  refine (rn_aload_n (pc := 13) (dd bX12_putIn dX12_putIn_13) rfl).trans ?_
  refine (rg_gf (pc := 14) (dd bX12_putIn dX12_putIn_14) (ci := 13) (j := 1) rfl rfl (key := 1401) rfl (kc := 33) rfl s1.1 s1.2.2.2.1).trans ?_
  refine (rn_astore (pc := 17) (dd bX12_putIn dX12_putIn_17) (Nat.le_of_ble_eq_true rfl) rfl).trans ?_
  refine (rn_aload (pc := 19) (dd bX12_putIn dX12_putIn_19) rfl).trans ?_
  refine (rg_alen (pc := 21) (dd bX12_putIn dX12_putIn_21) (k := 5) s1.2.2.2.2.1 (by decide) s1.2.2.2.2.2.1).trans ?_
  refine (rn_istore (pc := 22) (dd bX12_putIn dX12_putIn_22) (Nat.le_of_ble_eq_true rfl) rfl).trans ?_
  refine (rn_iconst (pc := 24) (dd bX12_putIn dX12_putIn_24) (by decide)).trans ?_
  refine (rn_istore (pc := 25) (dd bX12_putIn dX12_putIn_25) (Nat.le_of_ble_eq_true rfl) rfl).trans ?_
  rfl
theorem rX12_putIn_27 {x1 : Int} {x2 : Int} {x3 : Int} {x4 : Int} {x5 : Int} {x6 : Int} {v7 : vv} {h : vH} (p1 : ¬ (x5 ≤ x6) → h 0 x4 0 = 5) (p2 : ¬ (x5 ≤ x6) → 0 ≤ x6) (p3 : ¬ (x5 ≤ x6) → x6 < h 1 x4 0) (s4 : ¬ (x5 ≤ x6) → shPane h (h 2 x4 x6)) : vrun mX12_putIn 27 [(1, 3), (0, x1), (0, x2), (0, x3), (1, x4), (0, x5), (0, x6), v7] [] h = if x5 ≤ x6 then some (.inl none, h) else vret vrun mX12_putIn 45 [(1, 3), (0, x1), (0, x2), (0, x3), (1, x4), (0, x5), (0, x6), (1, h 2 x4 x6)] [] (vcl mX5_signCame [(1, h 2 x4 x6), (0, x1), (0, x2)] h) := by
  refine (rn_iload (pc := 27) (dd bX12_putIn dX12_putIn_27) rfl).trans ?_
  refine (rn_iload (pc := 29) (dd bX12_putIn dX12_putIn_29) rfl).trans ?_
  refine (rn_icmp_ge (t := 54) (pc := 31) (dd bX12_putIn dX12_putIn_31) rfl).trans (itec (fun c1 => ?_) (fun c1 => ?_))
  · exact rn_return (pc := 54) (dd bX12_putIn dX12_putIn_54) rfl
  · refine (rn_aload (pc := 34) (dd bX12_putIn dX12_putIn_34) rfl).trans ?_
    refine (rn_iload (pc := 36) (dd bX12_putIn dX12_putIn_36) rfl).trans ?_
    refine (rg_aaload (pc := 38) (dd bX12_putIn dX12_putIn_38) (p1 c1) (by decide) rfl (p2 c1) (p3 c1) rfl).trans ?_
    refine (rn_astore (pc := 39) (dd bX12_putIn dX12_putIn_39) (Nat.le_of_ble_eq_true rfl) rfl).trans ?_
    refine (rn_aload (pc := 41) (dd bX12_putIn dX12_putIn_41) rfl).trans ?_
    refine (rn_iload_n (pc := 43) (dd bX12_putIn dX12_putIn_43) rfl).trans ?_
    refine (rn_iload_n (pc := 44) (dd bX12_putIn dX12_putIn_44) rfl).trans ?_
    exact rg_virtual (pc := 45) (dd bX12_putIn dX12_putIn_45) rfl rfl (by decide) (kc := 26) rfl (s4 c1).1 (as := [(1, h 2 x4 x6), (0, x1), (0, x2)]) rfl ⟨Nat.le_of_ble_eq_true rfl, Nat.le_of_ble_eq_true rfl, Nat.le_of_ble_eq_true rfl, Nat.le_of_ble_eq_true rfl⟩
theorem rX12_putIn_48 {x1 : Int} {x2 : Int} {x3 : Int} {x4 : Int} {x5 : Int} {x6 : Int} {x7 : Int} {h : vH} (p1 : (-2147483648) ≤ x6 + 1) (p2 : x6 + 1 < 2147483648) : vrun mX12_putIn 48 [(1, 3), (0, x1), (0, x2), (0, x3), (1, x4), (0, x5), (0, x6), (1, x7)] [] h = vrun mX12_putIn 27 [(1, 3), (0, x1), (0, x2), (0, x3), (1, x4), (0, x5), (0, x6 + 1), (1, x7)] [] h := by
  refine (rg_iinc (pc := 48) (dd bX12_putIn dX12_putIn_48) rfl (Nat.le_of_ble_eq_true rfl) p1 p2 rfl).trans ?_
  refine (rn_goto (t := 27) (pc := 51) (dd bX12_putIn dX12_putIn_51) rfl).trans ?_
  rfl
theorem bX12_insert : vmB mX12_insert = cX12_insert := rfl
theorem rX12_insert_0 {x1 : Int} {x2 : Int} {x3 : Int} {h : vH} (s1 : shPL h) : vrun mX12_insert 0 [(1, 3), (0, x1), (0, x2), (0, x3), (9, 0)] [] h = vret vrun mX12_insert 2 [(1, 3), (0, x1), (0, x2), (0, x3), (9, 0)] [] (vcl mX12_lineOf [(1, 3), (0, x1)] h) := by
  refine (rn_aload_n (pc := 0) (dd bX12_insert dX12_insert_0) rfl).trans ?_
  refine (rn_iload_n (pc := 1) (dd bX12_insert dX12_insert_1) rfl).trans ?_
  exact rg_virtual (pc := 2) (dd bX12_insert dX12_insert_2) rfl rfl (by decide) (kc := 33) rfl s1.1 (as := [(1, 3), (0, x1)]) rfl ⟨Nat.le_of_ble_eq_true rfl, Nat.le_of_ble_eq_true rfl, Nat.le_of_ble_eq_true rfl, Nat.le_of_ble_eq_true rfl⟩
theorem rX12_insert_5 {x1 : Int} {x2 : Int} {x3 : Int} {y0 : Int} {h : vH} (s1 : shLine h y0) (s2 : shPL h) : vrun mX12_insert 5 [(1, 3), (0, x1), (0, x2), (0, x3), (9, 0)] [(1, y0)] h = vret vrun mX12_insert 15 [(1, 3), (0, x1), (0, x2), (0, x3), (1, y0)] [] (vcl mX12_checkRange [(1, 3), (0, x2), (0, 0), (0, h 601 y0 0)] h) := by
  refine (rn_astore (pc := 5) (dd bX12_insert dX12_insert_5) (Nat.le_of_ble_eq_true rfl) rfl).trans ?_
  refine (rn_aload_n (pc := 7) (dd bX12_insert dX12_insert_7) rfl).trans ?_
  refine (rn_iload_n (pc := 8) (dd bX12_insert dX12_insert_8) rfl).trans ?_
  refine (rn_iconst (pc := 9) (dd bX12_insert dX12_insert_9) (by decide)).trans ?_
  refine (rn_aload (pc := 10) (dd bX12_insert dX12_insert_10) rfl).trans ?_
  refine (rg_gf (pc := 12) (dd bX12_insert dX12_insert_12) (ci := 5) (j := 1) rfl rfl (key := 601) rfl (kc := 25) rfl s1.1 rfl).trans ?_
  exact rg_virtual (pc := 15) (dd bX12_insert dX12_insert_15) rfl rfl (by decide) (kc := 33) rfl s2.1 (as := [(1, 3), (0, x2), (0, 0), (0, h 601 y0 0)]) rfl ⟨Nat.le_of_ble_eq_true rfl, Nat.le_of_ble_eq_true rfl, Nat.le_of_ble_eq_true rfl, Nat.le_of_ble_eq_true rfl⟩
theorem rX12_insert_18 {x1 : Int} {x2 : Int} {x3 : Int} {x4 : Int} {h : vH} (s1 : shPL h) : vrun mX12_insert 18 [(1, 3), (0, x1), (0, x2), (0, x3), (1, x4)] [] h = vret vrun mX12_insert 20 [(1, 3), (0, x1), (0, x2), (0, x3), (1, x4)] [] (vcl mX12_checkSign [(1, 3), (0, x3)] h) := by
  refine (rn_aload_n (pc := 18) (dd bX12_insert dX12_insert_18) rfl).trans ?_
  refine (rn_iload_n (pc := 19) (dd bX12_insert dX12_insert_19) rfl).trans ?_
  exact rg_virtual (pc := 20) (dd bX12_insert dX12_insert_20) rfl rfl (by decide) (kc := 33) rfl s1.1 (as := [(1, 3), (0, x3)]) rfl ⟨Nat.le_of_ble_eq_true rfl, Nat.le_of_ble_eq_true rfl, Nat.le_of_ble_eq_true rfl, Nat.le_of_ble_eq_true rfl⟩
theorem rX12_insert_23 {x1 : Int} {x2 : Int} {x3 : Int} {x4 : Int} {h : vH} (s1 : shLine h x4) (s2 : shPL h) : vrun mX12_insert 23 [(1, 3), (0, x1), (0, x2), (0, x3), (1, x4)] [] h = vret vrun mX12_insert 39 [(1, 3), (0, x1), (0, x2), (0, x3), (1, x4)] [] (vcl mX12_checkState [(1, 3), (0, (if ¬ (80 ≤ h 601 x4 0) then 1 else 0))] h) := by
  refine (rn_aload_n (pc := 23) (dd bX12_insert dX12_insert_23) rfl).trans ?_
  refine (rn_aload (pc := 24) (dd bX12_insert dX12_insert_24) rfl).trans ?_
  refine (rg_gf (pc := 26) (dd bX12_insert dX12_insert_26) (ci := 5) (j := 1) rfl rfl (key := 601) rfl (kc := 25) rfl s1.1 rfl).trans ?_
  refine (rn_bipush (pc := 29) (dd bX12_insert dX12_insert_29) (by decide)).trans ?_
  have e1 : vrun mX12_insert 31 [(1, 3), (0, x1), (0, x2), (0, x3), (1, x4)] [(0, 80), (0, h 601 x4 0), (1, 3)] h = vrun mX12_insert 39 [(1, 3), (0, x1), (0, x2), (0, x3), (1, x4)] [(0, (if ¬ (80 ≤ h 601 x4 0) then 1 else 0)), (1, 3)] h := by
    refine (rn_icmp_ge (t := 38) (pc := 31) (dd bX12_insert dX12_insert_31) rfl).trans ?_
    by_cases c1 : 80 ≤ h 601 x4 0
    · refine (if_pos c1).trans ?_
      refine (rn_iconst (pc := 38) (dd bX12_insert dX12_insert_38) (by decide)).trans ?_
      refine Eq.trans (b := vrun mX12_insert 39 [(1, 3), (0, x1), (0, x2), (0, x3), (1, x4)] [(0, 0), (1, 3)] h) rfl ?_
      simp only [c1, true_or, false_or, or_true, or_false, true_and, false_and, and_true, and_false, not_true_eq_false, not_false_eq_true, ne_eq, if_true, if_false, ↓reduceIte]
    · refine (if_neg c1).trans ?_
      refine (rn_iconst (pc := 34) (dd bX12_insert dX12_insert_34) (by decide)).trans ?_
      refine (rn_goto (t := 39) (pc := 35) (dd bX12_insert dX12_insert_35) rfl).trans ?_
      refine Eq.trans (b := vrun mX12_insert 39 [(1, 3), (0, x1), (0, x2), (0, x3), (1, x4)] [(0, 1), (1, 3)] h) rfl ?_
      simp only [c1, true_or, false_or, or_true, or_false, true_and, false_and, and_true, and_false, not_true_eq_false, not_false_eq_true, ne_eq, if_true, if_false, ↓reduceIte]
  refine e1.trans ?_
  exact rg_virtual (pc := 39) (dd bX12_insert dX12_insert_39) rfl rfl (by decide) (kc := 33) rfl s2.1 (as := [(1, 3), (0, (if ¬ (80 ≤ h 601 x4 0) then 1 else 0))]) rfl ⟨Nat.le_of_ble_eq_true rfl, Nat.le_of_ble_eq_true rfl, Nat.le_of_ble_eq_true rfl, Nat.le_of_ble_eq_true rfl⟩
theorem rX12_insert_42 {x1 : Int} {x2 : Int} {x3 : Int} {x4 : Int} {h : vH} (s1 : shPL h) : vrun mX12_insert 42 [(1, 3), (0, x1), (0, x2), (0, x3), (1, x4)] [] h = vret vrun mX12_insert 46 [(1, 3), (0, x1), (0, x2), (0, x3), (1, x4)] [] (vcl mX12_putIn [(1, 3), (0, x1), (0, x2), (0, x3)] h) := by
  refine (rn_aload_n (pc := 42) (dd bX12_insert dX12_insert_42) rfl).trans ?_
  refine (rn_iload_n (pc := 43) (dd bX12_insert dX12_insert_43) rfl).trans ?_
  refine (rn_iload_n (pc := 44) (dd bX12_insert dX12_insert_44) rfl).trans ?_
  refine (rn_iload_n (pc := 45) (dd bX12_insert dX12_insert_45) rfl).trans ?_
  exact rg_virtual (pc := 46) (dd bX12_insert dX12_insert_46) rfl rfl (by decide) (kc := 33) rfl s1.1 (as := [(1, 3), (0, x1), (0, x2), (0, x3)]) rfl ⟨Nat.le_of_ble_eq_true rfl, Nat.le_of_ble_eq_true rfl, Nat.le_of_ble_eq_true rfl, Nat.le_of_ble_eq_true rfl⟩
theorem rX12_insert_49 {x1 : Int} {x2 : Int} {x3 : Int} {x4 : Int} {h : vH} (s1 : shLine h x4) : vrun mX12_insert 49 [(1, 3), (0, x1), (0, x2), (0, x3), (1, x4)] [] h = some (.inl (some (0, h 601 x4 0)), h) := by
  refine (rn_aload (pc := 49) (dd bX12_insert dX12_insert_49) rfl).trans ?_
  refine (rg_gf (pc := 51) (dd bX12_insert dX12_insert_51) (ci := 5) (j := 1) rfl rfl (key := 601) rfl (kc := 25) rfl s1.1 rfl).trans ?_
  exact rn_ireturn (pc := 54) (dd bX12_insert dX12_insert_54) (Or.inl rfl)
theorem bX12_remove : vmB mX12_remove = cX12_remove := rfl
theorem rX12_remove_0 {x1 : Int} {x2 : Int} {x3 : Int} {h : vH} (s1 : shPL h) : vrun mX12_remove 0 [(1, 3), (0, x1), (0, x2), (0, x3), (9, 0), (9, 0), (9, 0), (9, 0), (9, 0)] [] h = vret vrun mX12_remove 2 [(1, 3), (0, x1), (0, x2), (0, x3), (9, 0), (9, 0), (9, 0), (9, 0), (9, 0)] [] (vcl mX12_lineOf [(1, 3), (0, x1)] h) := by
  refine (rn_aload_n (pc := 0) (dd bX12_remove dX12_remove_0) rfl).trans ?_
  refine (rn_iload_n (pc := 1) (dd bX12_remove dX12_remove_1) rfl).trans ?_
  exact rg_virtual (pc := 2) (dd bX12_remove dX12_remove_2) rfl rfl (by decide) (kc := 33) rfl s1.1 (as := [(1, 3), (0, x1)]) rfl ⟨Nat.le_of_ble_eq_true rfl, Nat.le_of_ble_eq_true rfl, Nat.le_of_ble_eq_true rfl, Nat.le_of_ble_eq_true rfl⟩
theorem rX12_remove_5 {x1 : Int} {x2 : Int} {x3 : Int} {y0 : Int} {h : vH} (s1 : shLine h y0) (s2 : shPL h) : vrun mX12_remove 5 [(1, 3), (0, x1), (0, x2), (0, x3), (9, 0), (9, 0), (9, 0), (9, 0), (9, 0)] [(1, y0)] h = vret vrun mX12_remove 15 [(1, 3), (0, x1), (0, x2), (0, x3), (1, y0), (9, 0), (9, 0), (9, 0), (9, 0)] [] (vcl mX12_checkRange [(1, 3), (0, x3), (0, 1), (0, h 601 y0 0)] h) := by
  refine (rn_astore (pc := 5) (dd bX12_remove dX12_remove_5) (Nat.le_of_ble_eq_true rfl) rfl).trans ?_
  refine (rn_aload_n (pc := 7) (dd bX12_remove dX12_remove_7) rfl).trans ?_
  refine (rn_iload_n (pc := 8) (dd bX12_remove dX12_remove_8) rfl).trans ?_
  refine (rn_iconst (pc := 9) (dd bX12_remove dX12_remove_9) (by decide)).trans ?_
  refine (rn_aload (pc := 10) (dd bX12_remove dX12_remove_10) rfl).trans ?_
  refine (rg_gf (pc := 12) (dd bX12_remove dX12_remove_12) (ci := 5) (j := 1) rfl rfl (key := 601) rfl (kc := 25) rfl s1.1 rfl).trans ?_
  exact rg_virtual (pc := 15) (dd bX12_remove dX12_remove_15) rfl rfl (by decide) (kc := 33) rfl s2.1 (as := [(1, 3), (0, x3), (0, 1), (0, h 601 y0 0)]) rfl ⟨Nat.le_of_ble_eq_true rfl, Nat.le_of_ble_eq_true rfl, Nat.le_of_ble_eq_true rfl, Nat.le_of_ble_eq_true rfl⟩
theorem rX12_remove_18 {x1 : Int} {x2 : Int} {x3 : Int} {x4 : Int} {h : vH} (p1 : (-2147483648) ≤ x3 - 1) (p2 : x3 - 1 < 2147483648) (s3 : shPL h) : vrun mX12_remove 18 [(1, 3), (0, x1), (0, x2), (0, x3), (1, x4), (9, 0), (9, 0), (9, 0), (9, 0)] [] h = vret vrun mX12_remove 24 [(1, 3), (0, x1), (0, x2), (0, x3), (1, x4), (9, 0), (9, 0), (9, 0), (9, 0)] [] (vcl mX12_checkRange [(1, 3), (0, x2), (0, 0), (0, x3 - 1)] h) := by
  refine (rn_aload_n (pc := 18) (dd bX12_remove dX12_remove_18) rfl).trans ?_
  refine (rn_iload_n (pc := 19) (dd bX12_remove dX12_remove_19) rfl).trans ?_
  refine (rn_iconst (pc := 20) (dd bX12_remove dX12_remove_20) (by decide)).trans ?_
  refine (rn_iload_n (pc := 21) (dd bX12_remove dX12_remove_21) rfl).trans ?_
  refine (rn_iconst (pc := 22) (dd bX12_remove dX12_remove_22) (by decide)).trans ?_
  refine (rg_isub (pc := 23) (dd bX12_remove dX12_remove_23) p1 p2).trans ?_
  exact rg_virtual (pc := 24) (dd bX12_remove dX12_remove_24) rfl rfl (by decide) (kc := 33) rfl s3.1 (as := [(1, 3), (0, x2), (0, 0), (0, x3 - 1)]) rfl ⟨Nat.le_of_ble_eq_true rfl, Nat.le_of_ble_eq_true rfl, Nat.le_of_ble_eq_true rfl, Nat.le_of_ble_eq_true rfl⟩
theorem rX12_remove_27 {x1 : Int} {x2 : Int} {x3 : Int} {x4 : Int} {h : vH} (s1 : shLine h x4) : vrun mX12_remove 27 [(1, 3), (0, x1), (0, x2), (0, x3), (1, x4), (9, 0), (9, 0), (9, 0), (9, 0)] [] h = vret vrun mX12_remove 31 [(1, 3), (0, x1), (0, x2), (0, x3), (1, x4), (9, 0), (9, 0), (9, 0), (9, 0)] [] (vcl mX4_takeOut [(1, x4), (0, x2), (0, x3)] h) := by
  refine (rn_aload (pc := 27) (dd bX12_remove dX12_remove_27) rfl).trans ?_
  refine (rn_iload_n (pc := 29) (dd bX12_remove dX12_remove_29) rfl).trans ?_
  refine (rn_iload_n (pc := 30) (dd bX12_remove dX12_remove_30) rfl).trans ?_
  exact rg_virtual (pc := 31) (dd bX12_remove dX12_remove_31) rfl rfl (by decide) (kc := 25) rfl s1.1 (as := [(1, x4), (0, x2), (0, x3)]) rfl ⟨Nat.le_of_ble_eq_true rfl, Nat.le_of_ble_eq_true rfl, Nat.le_of_ble_eq_true rfl, Nat.le_of_ble_eq_true rfl⟩
theorem rX12_remove_34 {x1 : Int} {x2 : Int} {x3 : Int} {x4 : Int} {h : vH} (s1 : shPL h) : vrun mX12_remove 34 [(1, 3), (0, x1), (0, x2), (0, x3), (1, x4), (9, 0), (9, 0), (9, 0), (9, 0)] [] h = vrun mX12_remove 48 [(1, 3), (0, x1), (0, x2), (0, x3), (1, x4), (1, 126), (0, 4), (0, 0), (9, 0)] [] h := by
  refine (rn_aload_n (pc := 34) (dd bX12_remove dX12_remove_34) rfl).trans ?_
  refine (rg_gf (pc := 35) (dd bX12_remove dX12_remove_35) (ci := 13) (j := 1) rfl rfl (key := 1401) rfl (kc := 33) rfl s1.1 s1.2.2.2.1).trans ?_
  refine (rn_astore (pc := 38) (dd bX12_remove dX12_remove_38) (Nat.le_of_ble_eq_true rfl) rfl).trans ?_
  refine (rn_aload (pc := 40) (dd bX12_remove dX12_remove_40) rfl).trans ?_
  refine (rg_alen (pc := 42) (dd bX12_remove dX12_remove_42) (k := 5) s1.2.2.2.2.1 (by decide) s1.2.2.2.2.2.1).trans ?_
  refine (rn_istore (pc := 43) (dd bX12_remove dX12_remove_43) (Nat.le_of_ble_eq_true rfl) rfl).trans ?_
  refine (rn_iconst (pc := 45) (dd bX12_remove dX12_remove_45) (by decide)).trans ?_
  refine (rn_istore (pc := 46) (dd bX12_remove dX12_remove_46) (Nat.le_of_ble_eq_true rfl) rfl).trans ?_
  rfl
theorem rX12_remove_48 {x1 : Int} {x2 : Int} {x3 : Int} {x4 : Int} {x5 : Int} {x6 : Int} {x7 : Int} {v8 : vv} {h : vH} (s1 : shLine h x4) (p2 : ¬ (x6 ≤ x7) → h 0 x5 0 = 5) (p3 : ¬ (x6 ≤ x7) → 0 ≤ x7) (p4 : ¬ (x6 ≤ x7) → x7 < h 1 x5 0) (s5 : ¬ (x6 ≤ x7) → shPane h (h 2 x5 x7)) : vrun mX12_remove 48 [(1, 3), (0, x1), (0, x2), (0, x3), (1, x4), (1, x5), (0, x6), (0, x7), v8] [] h = if x6 ≤ x7 then some (.inl (some (0, h 601 x4 0)), h) else vret vrun mX12_remove 67 [(1, 3), (0, x1), (0, x2), (0, x3), (1, x4), (1, x5), (0, x6), (0, x7), (1, h 2 x5 x7)] [] (vcl mX5_signsWent [(1, h 2 x5 x7), (0, x1), (0, x2), (0, x3)] h) := by
  refine (rn_iload (pc := 48) (dd bX12_remove dX12_remove_48) rfl).trans ?_
  refine (rn_iload (pc := 50) (dd bX12_remove dX12_remove_50) rfl).trans ?_
  refine (rn_icmp_ge (t := 76) (pc := 52) (dd bX12_remove dX12_remove_52) rfl).trans (itec (fun c1 => ?_) (fun c1 => ?_))
  · refine (rn_aload (pc := 76) (dd bX12_remove dX12_remove_76) rfl).trans ?_
    refine (rg_gf (pc := 78) (dd bX12_remove dX12_remove_78) (ci := 5) (j := 1) rfl rfl (key := 601) rfl (kc := 25) rfl s1.1 rfl).trans ?_
    exact rn_ireturn (pc := 81) (dd bX12_remove dX12_remove_81) (Or.inl rfl)
  · refine (rn_aload (pc := 55) (dd bX12_remove dX12_remove_55) rfl).trans ?_
    refine (rn_iload (pc := 57) (dd bX12_remove dX12_remove_57) rfl).trans ?_
    refine (rg_aaload (pc := 59) (dd bX12_remove dX12_remove_59) (p2 c1) (by decide) rfl (p3 c1) (p4 c1) rfl).trans ?_
    refine (rn_astore (pc := 60) (dd bX12_remove dX12_remove_60) (Nat.le_of_ble_eq_true rfl) rfl).trans ?_
    refine (rn_aload (pc := 62) (dd bX12_remove dX12_remove_62) rfl).trans ?_
    refine (rn_iload_n (pc := 64) (dd bX12_remove dX12_remove_64) rfl).trans ?_
    refine (rn_iload_n (pc := 65) (dd bX12_remove dX12_remove_65) rfl).trans ?_
    refine (rn_iload_n (pc := 66) (dd bX12_remove dX12_remove_66) rfl).trans ?_
    exact rg_virtual (pc := 67) (dd bX12_remove dX12_remove_67) rfl rfl (by decide) (kc := 26) rfl (s5 c1).1 (as := [(1, h 2 x5 x7), (0, x1), (0, x2), (0, x3)]) rfl ⟨Nat.le_of_ble_eq_true rfl, Nat.le_of_ble_eq_true rfl, Nat.le_of_ble_eq_true rfl, Nat.le_of_ble_eq_true rfl⟩
theorem rX12_remove_70 {x1 : Int} {x2 : Int} {x3 : Int} {x4 : Int} {x5 : Int} {x6 : Int} {x7 : Int} {x8 : Int} {h : vH} (p1 : (-2147483648) ≤ x7 + 1) (p2 : x7 + 1 < 2147483648) : vrun mX12_remove 70 [(1, 3), (0, x1), (0, x2), (0, x3), (1, x4), (1, x5), (0, x6), (0, x7), (1, x8)] [] h = vrun mX12_remove 48 [(1, 3), (0, x1), (0, x2), (0, x3), (1, x4), (1, x5), (0, x6), (0, x7 + 1), (1, x8)] [] h := by
  refine (rg_iinc (pc := 70) (dd bX12_remove dX12_remove_70) rfl (Nat.le_of_ble_eq_true rfl) p1 p2 rfl).trans ?_
  refine (rn_goto (t := 48) (pc := 73) (dd bX12_remove dX12_remove_73) rfl).trans ?_
  rfl
theorem bX12_breakLine : vmB mX12_breakLine = cX12_breakLine := rfl
theorem rX12_breakLine_0 {x1 : Int} {x2 : Int} {h : vH} (s1 : shPL h) : vrun mX12_breakLine 0 [(1, 3), (0, x1), (0, x2), (9, 0), (9, 0), (9, 0), (9, 0)] [] h = vret vrun mX12_breakLine 5 [(1, 3), (0, x1), (0, x2), (9, 0), (9, 0), (9, 0), (9, 0)] [(0, 0), (0, x2), (1, 3)] (vcl mX12_lineOf [(1, 3), (0, x1)] h) := by
  refine (rn_aload_n (pc := 0) (dd bX12_breakLine dX12_breakLine_0) rfl).trans ?_
  refine (rn_iload_n (pc := 1) (dd bX12_breakLine dX12_breakLine_1) rfl).trans ?_
  refine (rn_iconst (pc := 2) (dd bX12_breakLine dX12_breakLine_2) (by decide)).trans ?_
  refine (rn_aload_n (pc := 3) (dd bX12_breakLine dX12_breakLine_3) rfl).trans ?_
  refine (rn_iload_n (pc := 4) (dd bX12_breakLine dX12_breakLine_4) rfl).trans ?_
  exact rg_virtual (pc := 5) (dd bX12_breakLine dX12_breakLine_5) rfl rfl (by decide) (kc := 33) rfl s1.1 (as := [(1, 3), (0, x1)]) rfl ⟨Nat.le_of_ble_eq_true rfl, Nat.le_of_ble_eq_true rfl, Nat.le_of_ble_eq_true rfl, Nat.le_of_ble_eq_true rfl⟩
theorem rX12_breakLine_8 {x1 : Int} {x2 : Int} {y0 : Int} {y1 : Int} {y2 : Int} {h : vH} (s1 : shLine h y0) (s2 : shPL h) : vrun mX12_breakLine 8 [(1, 3), (0, x1), (0, x2), (9, 0), (9, 0), (9, 0), (9, 0)] [(1, y0), (0, y1), (0, y2), (1, 3)] h = vret vrun mX12_breakLine 11 [(1, 3), (0, x1), (0, x2), (9, 0), (9, 0), (9, 0), (9, 0)] [] (vcl mX12_checkRange [(1, 3), (0, y2), (0, y1), (0, h 601 y0 0)] h) := by
  refine (rg_gf (pc := 8) (dd bX12_breakLine dX12_breakLine_8) (ci := 5) (j := 1) rfl rfl (key := 601) rfl (kc := 25) rfl s1.1 rfl).trans ?_
  exact rg_virtual (pc := 11) (dd bX12_breakLine dX12_breakLine_11) rfl rfl (by decide) (kc := 33) rfl s2.1 (as := [(1, 3), (0, y2), (0, y1), (0, h 601 y0 0)]) rfl ⟨Nat.le_of_ble_eq_true rfl, Nat.le_of_ble_eq_true rfl, Nat.le_of_ble_eq_true rfl, Nat.le_of_ble_eq_true rfl⟩
theorem rX12_breakLine_14 {x1 : Int} {x2 : Int} {h : vH} (s1 : shPL h) (s2 : shText h) : vrun mX12_breakLine 14 [(1, 3), (0, x1), (0, x2), (9, 0), (9, 0), (9, 0), (9, 0)] [] h = vret vrun mX12_breakLine 32 [(1, 3), (0, x1), (0, x2), (9, 0), (9, 0), (9, 0), (9, 0)] [] (vcl mX12_checkState [(1, 3), (0, (if ¬ (60 ≤ h 1201 4 0) then 1 else 0))] h) := by
  refine (rn_aload_n (pc := 14) (dd bX12_breakLine dX12_breakLine_14) rfl).trans ?_
  refine (rn_aload_n (pc := 15) (dd bX12_breakLine dX12_breakLine_15) rfl).trans ?_
  refine (rg_gf (pc := 16) (dd bX12_breakLine dX12_breakLine_16) (ci := 13) (j := 0) rfl rfl (key := 1400) rfl (kc := 33) rfl s1.1 s1.2.1).trans ?_
  refine (rg_gf (pc := 19) (dd bX12_breakLine dX12_breakLine_19) (ci := 11) (j := 1) rfl rfl (key := 1201) rfl (kc := 31) rfl s2.1 rfl).trans ?_
  refine (rn_bipush (pc := 22) (dd bX12_breakLine dX12_breakLine_22) (by decide)).trans ?_
  have e1 : vrun mX12_breakLine 24 [(1, 3), (0, x1), (0, x2), (9, 0), (9, 0), (9, 0), (9, 0)] [(0, 60), (0, h 1201 4 0), (1, 3)] h = vrun mX12_breakLine 32 [(1, 3), (0, x1), (0, x2), (9, 0), (9, 0), (9, 0), (9, 0)] [(0, (if ¬ (60 ≤ h 1201 4 0) then 1 else 0)), (1, 3)] h := by
    refine (rn_icmp_ge (t := 31) (pc := 24) (dd bX12_breakLine dX12_breakLine_24) rfl).trans ?_
    by_cases c1 : 60 ≤ h 1201 4 0
    · refine (if_pos c1).trans ?_
      refine (rn_iconst (pc := 31) (dd bX12_breakLine dX12_breakLine_31) (by decide)).trans ?_
      refine Eq.trans (b := vrun mX12_breakLine 32 [(1, 3), (0, x1), (0, x2), (9, 0), (9, 0), (9, 0), (9, 0)] [(0, 0), (1, 3)] h) rfl ?_
      simp only [c1, true_or, false_or, or_true, or_false, true_and, false_and, and_true, and_false, not_true_eq_false, not_false_eq_true, ne_eq, if_true, if_false, ↓reduceIte]
    · refine (if_neg c1).trans ?_
      refine (rn_iconst (pc := 27) (dd bX12_breakLine dX12_breakLine_27) (by decide)).trans ?_
      refine (rn_goto (t := 32) (pc := 28) (dd bX12_breakLine dX12_breakLine_28) rfl).trans ?_
      refine Eq.trans (b := vrun mX12_breakLine 32 [(1, 3), (0, x1), (0, x2), (9, 0), (9, 0), (9, 0), (9, 0)] [(0, 1), (1, 3)] h) rfl ?_
      simp only [c1, true_or, false_or, or_true, or_false, true_and, false_and, and_true, and_false, not_true_eq_false, not_false_eq_true, ne_eq, if_true, if_false, ↓reduceIte]
  refine e1.trans ?_
  exact rg_virtual (pc := 32) (dd bX12_breakLine dX12_breakLine_32) rfl rfl (by decide) (kc := 33) rfl s1.1 (as := [(1, 3), (0, (if ¬ (60 ≤ h 1201 4 0) then 1 else 0))]) rfl ⟨Nat.le_of_ble_eq_true rfl, Nat.le_of_ble_eq_true rfl, Nat.le_of_ble_eq_true rfl, Nat.le_of_ble_eq_true rfl⟩
theorem rX12_breakLine_35 {x1 : Int} {x2 : Int} {h : vH} (s1 : shPL h) (s2 : shText h) : vrun mX12_breakLine 35 [(1, 3), (0, x1), (0, x2), (9, 0), (9, 0), (9, 0), (9, 0)] [] h = vret vrun mX12_breakLine 41 [(1, 3), (0, x1), (0, x2), (9, 0), (9, 0), (9, 0), (9, 0)] [] (vcl mX10_breakAt [(1, 4), (0, x1), (0, x2)] h) := by
  refine (rn_aload_n (pc := 35) (dd bX12_breakLine dX12_breakLine_35) rfl).trans ?_
  refine (rg_gf (pc := 36) (dd bX12_breakLine dX12_breakLine_36) (ci := 13) (j := 0) rfl rfl (key := 1400) rfl (kc := 33) rfl s1.1 s1.2.1).trans ?_
  refine (rn_iload_n (pc := 39) (dd bX12_breakLine dX12_breakLine_39) rfl).trans ?_
  refine (rn_iload_n (pc := 40) (dd bX12_breakLine dX12_breakLine_40) rfl).trans ?_
  exact rg_virtual (pc := 41) (dd bX12_breakLine dX12_breakLine_41) rfl rfl (by decide) (kc := 31) rfl s2.1 (as := [(1, 4), (0, x1), (0, x2)]) rfl ⟨Nat.le_of_ble_eq_true rfl, Nat.le_of_ble_eq_true rfl, Nat.le_of_ble_eq_true rfl, Nat.le_of_ble_eq_true rfl⟩
theorem rX12_breakLine_44 {x1 : Int} {x2 : Int} {h : vH} (s1 : shPL h) : vrun mX12_breakLine 44 [(1, 3), (0, x1), (0, x2), (9, 0), (9, 0), (9, 0), (9, 0)] [] h = vrun mX12_breakLine 56 [(1, 3), (0, x1), (0, x2), (1, 126), (0, 4), (0, 0), (9, 0)] [] h := by
  refine (rn_aload_n (pc := 44) (dd bX12_breakLine dX12_breakLine_44) rfl).trans ?_
  refine (rg_gf (pc := 45) (dd bX12_breakLine dX12_breakLine_45) (ci := 13) (j := 1) rfl rfl (key := 1401) rfl (kc := 33) rfl s1.1 s1.2.2.2.1).trans ?_
  refine (rn_astore_n (pc := 48) (dd bX12_breakLine dX12_breakLine_48) (Nat.le_of_ble_eq_true rfl) rfl).trans ?_
  refine (rn_aload_n (pc := 49) (dd bX12_breakLine dX12_breakLine_49) rfl).trans ?_
  refine (rg_alen (pc := 50) (dd bX12_breakLine dX12_breakLine_50) (k := 5) s1.2.2.2.2.1 (by decide) s1.2.2.2.2.2.1).trans ?_
  refine (rn_istore (pc := 51) (dd bX12_breakLine dX12_breakLine_51) (Nat.le_of_ble_eq_true rfl) rfl).trans ?_
  refine (rn_iconst (pc := 53) (dd bX12_breakLine dX12_breakLine_53) (by decide)).trans ?_
  refine (rn_istore (pc := 54) (dd bX12_breakLine dX12_breakLine_54) (Nat.le_of_ble_eq_true rfl) rfl).trans ?_
  rfl
theorem rX12_breakLine_56 {x1 : Int} {x2 : Int} {x3 : Int} {x4 : Int} {x5 : Int} {v6 : vv} {h : vH} (s1 : shPL h) (s2 : shText h) (p3 : ¬ (x4 ≤ x5) → h 0 x3 0 = 5) (p4 : ¬ (x4 ≤ x5) → 0 ≤ x5) (p5 : ¬ (x4 ≤ x5) → x5 < h 1 x3 0) (s6 : ¬ (x4 ≤ x5) → shPane h (h 2 x3 x5)) : vrun mX12_breakLine 56 [(1, 3), (0, x1), (0, x2), (1, x3), (0, x4), (0, x5), v6] [] h = if x4 ≤ x5 then some (.inl (some (0, h 1201 4 0)), h) else vret vrun mX12_breakLine 73 [(1, 3), (0, x1), (0, x2), (1, x3), (0, x4), (0, x5), (1, h 2 x3 x5)] [] (vcl mX5_lineBroke [(1, h 2 x3 x5), (0, x1), (0, x2)] h) := by
  refine (rn_iload (pc := 56) (dd bX12_breakLine dX12_breakLine_56) rfl).trans ?_
  refine (rn_iload (pc := 58) (dd bX12_breakLine dX12_breakLine_58) rfl).trans ?_
  refine (rn_icmp_ge (t := 82) (pc := 60) (dd bX12_breakLine dX12_breakLine_60) rfl).trans (itec (fun c1 => ?_) (fun c1 => ?_))
  · refine (rn_aload_n (pc := 82) (dd bX12_breakLine dX12_breakLine_82) rfl).trans ?_
    refine (rg_gf (pc := 83) (dd bX12_breakLine dX12_breakLine_83) (ci := 13) (j := 0) rfl rfl (key := 1400) rfl (kc := 33) rfl s1.1 s1.2.1).trans ?_
    refine (rg_gf (pc := 86) (dd bX12_breakLine dX12_breakLine_86) (ci := 11) (j := 1) rfl rfl (key := 1201) rfl (kc := 31) rfl s2.1 rfl).trans ?_
    exact rn_ireturn (pc := 89) (dd bX12_breakLine dX12_breakLine_89) (Or.inl rfl)
  · refine (rn_aload_n (pc := 63) (dd bX12_breakLine dX12_breakLine_63) rfl).trans ?_
    refine (rn_iload (pc := 64) (dd bX12_breakLine dX12_breakLine_64) rfl).trans ?_
    refine (rg_aaload (pc := 66) (dd bX12_breakLine dX12_breakLine_66) (p3 c1) (by decide) rfl (p4 c1) (p5 c1) rfl).trans ?_
    refine (rn_astore (pc := 67) (dd bX12_breakLine dX12_breakLine_67) (Nat.le_of_ble_eq_true rfl) rfl).trans ?_
    refine (rn_aload (pc := 69) (dd bX12_breakLine dX12_breakLine_69) rfl).trans ?_
    refine (rn_iload_n (pc := 71) (dd bX12_breakLine dX12_breakLine_71) rfl).trans ?_
    refine (rn_iload_n (pc := 72) (dd bX12_breakLine dX12_breakLine_72) rfl).trans ?_
    exact rg_virtual (pc := 73) (dd bX12_breakLine dX12_breakLine_73) rfl rfl (by decide) (kc := 26) rfl (s6 c1).1 (as := [(1, h 2 x3 x5), (0, x1), (0, x2)]) rfl ⟨Nat.le_of_ble_eq_true rfl, Nat.le_of_ble_eq_true rfl, Nat.le_of_ble_eq_true rfl, Nat.le_of_ble_eq_true rfl⟩
theorem rX12_breakLine_76 {x1 : Int} {x2 : Int} {x3 : Int} {x4 : Int} {x5 : Int} {x6 : Int} {h : vH} (p1 : (-2147483648) ≤ x5 + 1) (p2 : x5 + 1 < 2147483648) : vrun mX12_breakLine 76 [(1, 3), (0, x1), (0, x2), (1, x3), (0, x4), (0, x5), (1, x6)] [] h = vrun mX12_breakLine 56 [(1, 3), (0, x1), (0, x2), (1, x3), (0, x4), (0, x5 + 1), (1, x6)] [] h := by
  refine (rg_iinc (pc := 76) (dd bX12_breakLine dX12_breakLine_76) rfl (Nat.le_of_ble_eq_true rfl) p1 p2 rfl).trans ?_
  refine (rn_goto (t := 56) (pc := 79) (dd bX12_breakLine dX12_breakLine_79) rfl).trans ?_
  rfl
theorem bX12_join : vmB mX12_join = cX12_join := rfl
theorem rX12_join_0 {x1 : Int} {h : vH} (s1 : shPL h) : vrun mX12_join 0 [(1, 3), (0, x1), (9, 0), (9, 0), (9, 0), (9, 0), (9, 0), (9, 0)] [] h = vret vrun mX12_join 2 [(1, 3), (0, x1), (9, 0), (9, 0), (9, 0), (9, 0), (9, 0), (9, 0)] [] (vcl mX12_lineOf [(1, 3), (0, x1)] h) := by
  refine (rn_aload_n (pc := 0) (dd bX12_join dX12_join_0) rfl).trans ?_
  refine (rn_iload_n (pc := 1) (dd bX12_join dX12_join_1) rfl).trans ?_
  exact rg_virtual (pc := 2) (dd bX12_join dX12_join_2) rfl rfl (by decide) (kc := 33) rfl s1.1 (as := [(1, 3), (0, x1)]) rfl ⟨Nat.le_of_ble_eq_true rfl, Nat.le_of_ble_eq_true rfl, Nat.le_of_ble_eq_true rfl, Nat.le_of_ble_eq_true rfl⟩
theorem rX12_join_5 {x1 : Int} {y0 : Int} {h : vH} (s1 : shLine h y0) (p2 : (-2147483648) ≤ x1 + 1) (p3 : x1 + 1 < 2147483648) (s4 : shPL h) : vrun mX12_join 5 [(1, 3), (0, x1), (9, 0), (9, 0), (9, 0), (9, 0), (9, 0), (9, 0)] [(1, y0)] h = vret vrun mX12_join 14 [(1, 3), (0, x1), (0, h 601 y0 0), (9, 0), (9, 0), (9, 0), (9, 0), (9, 0)] [(0, h 601 y0 0)] (vcl mX12_lineOf [(1, 3), (0, x1 + 1)] h) := by
  refine (rg_gf (pc := 5) (dd bX12_join dX12_join_5) (ci := 5) (j := 1) rfl rfl (key := 601) rfl (kc := 25) rfl s1.1 rfl).trans ?_
  refine (rn_istore_n (pc := 8) (dd bX12_join dX12_join_8) (Nat.le_of_ble_eq_true rfl) rfl).trans ?_
  refine (rn_iload_n (pc := 9) (dd bX12_join dX12_join_9) rfl).trans ?_
  refine (rn_aload_n (pc := 10) (dd bX12_join dX12_join_10) rfl).trans ?_
  refine (rn_iload_n (pc := 11) (dd bX12_join dX12_join_11) rfl).trans ?_
  refine (rn_iconst (pc := 12) (dd bX12_join dX12_join_12) (by decide)).trans ?_
  refine (rg_iadd (pc := 13) (dd bX12_join dX12_join_13) p2 p3).trans ?_
  exact rg_virtual (pc := 14) (dd bX12_join dX12_join_14) rfl rfl (by decide) (kc := 33) rfl s4.1 (as := [(1, 3), (0, x1 + 1)]) rfl ⟨Nat.le_of_ble_eq_true rfl, Nat.le_of_ble_eq_true rfl, Nat.le_of_ble_eq_true rfl, Nat.le_of_ble_eq_true rfl⟩
theorem rX12_join_17 {x1 : Int} {x2 : Int} {y0 : Int} {y1 : Int} {h : vH} (s1 : shLine h y0) (p2 : (-2147483648) ≤ y1 + h 601 y0 0) (p3 : y1 + h 601 y0 0 < 2147483648) (s4 : shPL h) : vrun mX12_join 17 [(1, 3), (0, x1), (0, x2), (9, 0), (9, 0), (9, 0), (9, 0), (9, 0)] [(1, y0), (0, y1)] h = vret vrun mX12_join 34 [(1, 3), (0, x1), (0, x2), (0, y1 + h 601 y0 0), (9, 0), (9, 0), (9, 0), (9, 0)] [] (vcl mX12_checkState [(1, 3), (0, (if ¬ (80 < y1 + h 601 y0 0) then 1 else 0))] h) := by
  refine (rg_gf (pc := 17) (dd bX12_join dX12_join_17) (ci := 5) (j := 1) rfl rfl (key := 601) rfl (kc := 25) rfl s1.1 rfl).trans ?_
  refine (rg_iadd (pc := 20) (dd bX12_join dX12_join_20) p2 p3).trans ?_
  refine (rn_istore_n (pc := 21) (dd bX12_join dX12_join_21) (Nat.le_of_ble_eq_true rfl) rfl).trans ?_
  refine (rn_aload_n (pc := 22) (dd bX12_join dX12_join_22) rfl).trans ?_
  refine (rn_iload_n (pc := 23) (dd bX12_join dX12_join_23) rfl).trans ?_
  refine (rn_bipush (pc := 24) (dd bX12_join dX12_join_24) (by decide)).trans ?_
  have e1 : vrun mX12_join 26 [(1, 3), (0, x1), (0, x2), (0, y1 + h 601 y0 0), (9, 0), (9, 0), (9, 0), (9, 0)] [(0, 80), (0, y1 + h 601 y0 0), (1, 3)] h = vrun mX12_join 34 [(1, 3), (0, x1), (0, x2), (0, y1 + h 601 y0 0), (9, 0), (9, 0), (9, 0), (9, 0)] [(0, (if ¬ (80 < y1 + h 601 y0 0) then 1 else 0)), (1, 3)] h := by
    refine (rn_icmp_gt (t := 33) (pc := 26) (dd bX12_join dX12_join_26) rfl).trans ?_
    by_cases c1 : 80 < y1 + h 601 y0 0
    · refine (if_pos c1).trans ?_
      refine (rn_iconst (pc := 33) (dd bX12_join dX12_join_33) (by decide)).trans ?_
      refine Eq.trans (b := vrun mX12_join 34 [(1, 3), (0, x1), (0, x2), (0, y1 + h 601 y0 0), (9, 0), (9, 0), (9, 0), (9, 0)] [(0, 0), (1, 3)] h) rfl ?_
      simp only [c1, true_or, false_or, or_true, or_false, true_and, false_and, and_true, and_false, not_true_eq_false, not_false_eq_true, ne_eq, if_true, if_false, ↓reduceIte]
    · refine (if_neg c1).trans ?_
      refine (rn_iconst (pc := 29) (dd bX12_join dX12_join_29) (by decide)).trans ?_
      refine (rn_goto (t := 34) (pc := 30) (dd bX12_join dX12_join_30) rfl).trans ?_
      refine Eq.trans (b := vrun mX12_join 34 [(1, 3), (0, x1), (0, x2), (0, y1 + h 601 y0 0), (9, 0), (9, 0), (9, 0), (9, 0)] [(0, 1), (1, 3)] h) rfl ?_
      simp only [c1, true_or, false_or, or_true, or_false, true_and, false_and, and_true, and_false, not_true_eq_false, not_false_eq_true, ne_eq, if_true, if_false, ↓reduceIte]
  refine e1.trans ?_
  exact rg_virtual (pc := 34) (dd bX12_join dX12_join_34) rfl rfl (by decide) (kc := 33) rfl s4.1 (as := [(1, 3), (0, (if ¬ (80 < y1 + h 601 y0 0) then 1 else 0))]) rfl ⟨Nat.le_of_ble_eq_true rfl, Nat.le_of_ble_eq_true rfl, Nat.le_of_ble_eq_true rfl, Nat.le_of_ble_eq_true rfl⟩
theorem rX12_join_37 {x1 : Int} {x2 : Int} {x3 : Int} {h : vH} (s1 : shPL h) (s2 : shText h) : vrun mX12_join 37 [(1, 3), (0, x1), (0, x2), (0, x3), (9, 0), (9, 0), (9, 0), (9, 0)] [] h = vret vrun mX12_join 42 [(1, 3), (0, x1), (0, x2), (0, x3), (9, 0), (9, 0), (9, 0), (9, 0)] [] (vcl mX10_joinBehind [(1, 4), (0, x1)] h) := by
  refine (rn_aload_n (pc := 37) (dd bX12_join dX12_join_37) rfl).trans ?_
  refine (rg_gf (pc := 38) (dd bX12_join dX12_join_38) (ci := 13) (j := 0) rfl rfl (key := 1400) rfl (kc := 33) rfl s1.1 s1.2.1).trans ?_
  refine (rn_iload_n (pc := 41) (dd bX12_join dX12_join_41) rfl).trans ?_
  exact rg_virtual (pc := 42) (dd bX12_join dX12_join_42) rfl rfl (by decide) (kc := 31) rfl s2.1 (as := [(1, 4), (0, x1)]) rfl ⟨Nat.le_of_ble_eq_true rfl, Nat.le_of_ble_eq_true rfl, Nat.le_of_ble_eq_true rfl, Nat.le_of_ble_eq_true rfl⟩
theorem rX12_join_45 {x1 : Int} {x2 : Int} {x3 : Int} {h : vH} (s1 : shPL h) : vrun mX12_join 45 [(1, 3), (0, x1), (0, x2), (0, x3), (9, 0), (9, 0), (9, 0), (9, 0)] [] h = vrun mX12_join 59 [(1, 3), (0, x1), (0, x2), (0, x3), (1, 126), (0, 4), (0, 0), (9, 0)] [] h := by
  refine (rn_aload_n (pc := 45) (dd bX12_join dX12_join_45) rfl).trans ?_
  refine (rg_gf (pc := 46) (dd bX12_join dX12_join_46) (ci := 13) (j := 1) rfl rfl (key := 1401) rfl (kc := 33) rfl s1.1 s1.2.2.2.1).trans ?_
  refine (rn_astore (pc := 49) (dd bX12_join dX12_join_49) (Nat.le_of_ble_eq_true rfl) rfl).trans ?_
  refine (rn_aload (pc := 51) (dd bX12_join dX12_join_51) rfl).trans ?_
  refine (rg_alen (pc := 53) (dd bX12_join dX12_join_53) (k := 5) s1.2.2.2.2.1 (by decide) s1.2.2.2.2.2.1).trans ?_
  refine (rn_istore (pc := 54) (dd bX12_join dX12_join_54) (Nat.le_of_ble_eq_true rfl) rfl).trans ?_
  refine (rn_iconst (pc := 56) (dd bX12_join dX12_join_56) (by decide)).trans ?_
  refine (rn_istore (pc := 57) (dd bX12_join dX12_join_57) (Nat.le_of_ble_eq_true rfl) rfl).trans ?_
  rfl
theorem rX12_join_59 {x1 : Int} {x2 : Int} {x3 : Int} {x4 : Int} {x5 : Int} {x6 : Int} {v7 : vv} {h : vH} (p1 : ¬ (x5 ≤ x6) → h 0 x4 0 = 5) (p2 : ¬ (x5 ≤ x6) → 0 ≤ x6) (p3 : ¬ (x5 ≤ x6) → x6 < h 1 x4 0) (s4 : ¬ (x5 ≤ x6) → shPane h (h 2 x4 x6)) : vrun mX12_join 59 [(1, 3), (0, x1), (0, x2), (0, x3), (1, x4), (0, x5), (0, x6), v7] [] h = if x5 ≤ x6 then some (.inl (some (0, x3)), h) else vret vrun mX12_join 77 [(1, 3), (0, x1), (0, x2), (0, x3), (1, x4), (0, x5), (0, x6), (1, h 2 x4 x6)] [] (vcl mX5_linesJoined [(1, h 2 x4 x6), (0, x1), (0, x2)] h) := by
  refine (rn_iload (pc := 59) (dd bX12_join dX12_join_59) rfl).trans ?_
  refine (rn_iload (pc := 61) (dd bX12_join dX12_join_61) rfl).trans ?_
  refine (rn_icmp_ge (t := 86) (pc := 63) (dd bX12_join dX12_join_63) rfl).trans (itec (fun c1 => ?_) (fun c1 => ?_))
  · refine (rn_iload_n (pc := 86) (dd bX12_join dX12_join_86) rfl).trans ?_
    exact rn_ireturn (pc := 87) (dd bX12_join dX12_join_87) (Or.inl rfl)
  · refine (rn_aload (pc := 66) (dd bX12_join dX12_join_66) rfl).trans ?_
    refine (rn_iload (pc := 68) (dd bX12_join dX12_join_68) rfl).trans ?_
    refine (rg_aaload (pc := 70) (dd bX12_join dX12_join_70) (p1 c1) (by decide) rfl (p2 c1) (p3 c1) rfl).trans ?_
    refine (rn_astore (pc := 71) (dd bX12_join dX12_join_71) (Nat.le_of_ble_eq_true rfl) rfl).trans ?_
    refine (rn_aload (pc := 73) (dd bX12_join dX12_join_73) rfl).trans ?_
    refine (rn_iload_n (pc := 75) (dd bX12_join dX12_join_75) rfl).trans ?_
    refine (rn_iload_n (pc := 76) (dd bX12_join dX12_join_76) rfl).trans ?_
    exact rg_virtual (pc := 77) (dd bX12_join dX12_join_77) rfl rfl (by decide) (kc := 26) rfl (s4 c1).1 (as := [(1, h 2 x4 x6), (0, x1), (0, x2)]) rfl ⟨Nat.le_of_ble_eq_true rfl, Nat.le_of_ble_eq_true rfl, Nat.le_of_ble_eq_true rfl, Nat.le_of_ble_eq_true rfl⟩
theorem rX12_join_80 {x1 : Int} {x2 : Int} {x3 : Int} {x4 : Int} {x5 : Int} {x6 : Int} {x7 : Int} {h : vH} (p1 : (-2147483648) ≤ x6 + 1) (p2 : x6 + 1 < 2147483648) : vrun mX12_join 80 [(1, 3), (0, x1), (0, x2), (0, x3), (1, x4), (0, x5), (0, x6), (1, x7)] [] h = vrun mX12_join 59 [(1, 3), (0, x1), (0, x2), (0, x3), (1, x4), (0, x5), (0, x6 + 1), (1, x7)] [] h := by
  refine (rg_iinc (pc := 80) (dd bX12_join dX12_join_80) rfl (Nat.le_of_ble_eq_true rfl) p1 p2 rfl).trans ?_
  refine (rn_goto (t := 59) (pc := 83) (dd bX12_join dX12_join_83) rfl).trans ?_
  rfl
theorem bX12_paneOf : vmB mX12_paneOf = cX12_paneOf := rfl
theorem rX12_paneOf_0 {x1 : Int} {h : vH} (s1 : shPL h) : vrun mX12_paneOf 0 [(1, 3), (0, x1)] [] h = if x1 < 0 then some (.inr "java/lang/IndexOutOfBoundsException", vexc h) else if x1 < 4 then some (.inl (some (1, h 2 126 x1)), h) else some (.inr "java/lang/IndexOutOfBoundsException", vexc h) := by
  refine (rn_iload_n (pc := 0) (dd bX12_paneOf dX12_paneOf_0) rfl).trans ?_
  refine (rn_if_lt (t := 9) (pc := 1) (dd bX12_paneOf dX12_paneOf_1) rfl).trans (itec (fun c1 => ?_) (fun c1 => ?_))
  · exact rn_throw (pc := 9) (dd bX12_paneOf dX12_paneOf_9) rfl (vthrows_m bX12_paneOf (vthrows_w dX12_paneOf_9 dX12_paneOf_12 dX12_paneOf_13 dX12_paneOf_16 dX12_paneOf_19)) ⟨rfl, rfl, rfl, Nat.le_of_ble_eq_true rfl, Nat.le_of_ble_eq_true rfl⟩
  · refine (rn_iload_n (pc := 4) (dd bX12_paneOf dX12_paneOf_4) rfl).trans ?_
    refine (rn_iconst (pc := 5) (dd bX12_paneOf dX12_paneOf_5) (by decide)).trans ?_
    refine (rn_icmp_lt (t := 20) (pc := 6) (dd bX12_paneOf dX12_paneOf_6) rfl).trans (itec (fun c2 => ?_) (fun c2 => ?_))
    · refine (rn_aload_n (pc := 20) (dd bX12_paneOf dX12_paneOf_20) rfl).trans ?_
      refine (rg_gf (pc := 21) (dd bX12_paneOf dX12_paneOf_21) (ci := 13) (j := 1) rfl rfl (key := 1401) rfl (kc := 33) rfl s1.1 s1.2.2.2.1).trans ?_
      refine (rn_iload_n (pc := 24) (dd bX12_paneOf dX12_paneOf_24) rfl).trans ?_
      refine (rg_aaload (pc := 25) (dd bX12_paneOf dX12_paneOf_25) s1.2.2.2.2.1 (by decide) s1.2.2.2.2.2.1 (Int.not_lt.mp c1) c2 rfl).trans ?_
      exact rn_areturn (pc := 26) (dd bX12_paneOf dX12_paneOf_26) rfl
    · exact rn_throw (pc := 9) (dd bX12_paneOf dX12_paneOf_9) rfl (vthrows_m bX12_paneOf (vthrows_w dX12_paneOf_9 dX12_paneOf_12 dX12_paneOf_13 dX12_paneOf_16 dX12_paneOf_19)) ⟨rfl, rfl, rfl, Nat.le_of_ble_eq_true rfl, Nat.le_of_ble_eq_true rfl⟩
theorem bX12_shape : vmB mX12_shape = cX12_shape := rfl
theorem rX12_shape_0 {x1 : Int} {x2 : Int} {x3 : Int} {x4 : Int} {h : vH} (s1 : shPL h) : vrun mX12_shape 0 [(1, 3), (0, x1), (0, x2), (0, x3), (0, x4), (9, 0)] [] h = vret vrun mX12_shape 2 [(1, 3), (0, x1), (0, x2), (0, x3), (0, x4), (9, 0)] [] (vcl mX12_paneOf [(1, 3), (0, x1)] h) := by
  refine (rn_aload_n (pc := 0) (dd bX12_shape dX12_shape_0) rfl).trans ?_
  refine (rn_iload_n (pc := 1) (dd bX12_shape dX12_shape_1) rfl).trans ?_
  exact rg_virtual (pc := 2) (dd bX12_shape dX12_shape_2) rfl rfl (by decide) (kc := 33) rfl s1.1 (as := [(1, 3), (0, x1)]) rfl ⟨Nat.le_of_ble_eq_true rfl, Nat.le_of_ble_eq_true rfl, Nat.le_of_ble_eq_true rfl, Nat.le_of_ble_eq_true rfl⟩
theorem rX12_shape_5 {x1 : Int} {x2 : Int} {x3 : Int} {x4 : Int} {y0 : Int} {h : vH} (s1 : shPL h) : vrun mX12_shape 5 [(1, 3), (0, x1), (0, x2), (0, x3), (0, x4), (9, 0)] [(1, y0)] h = vret vrun mX12_shape 13 [(1, 3), (0, x1), (0, x2), (0, x3), (0, x4), (1, y0)] [] (vcl mX12_checkRange [(1, 3), (0, x2), (0, 10), (0, 40)] h) := by
  refine (rn_astore (pc := 5) (dd bX12_shape dX12_shape_5) (Nat.le_of_ble_eq_true rfl) rfl).trans ?_
  refine (rn_aload_n (pc := 7) (dd bX12_shape dX12_shape_7) rfl).trans ?_
  refine (rn_iload_n (pc := 8) (dd bX12_shape dX12_shape_8) rfl).trans ?_
  refine (rn_bipush (pc := 9) (dd bX12_shape dX12_shape_9) (by decide)).trans ?_
  refine (rn_bipush (pc := 11) (dd bX12_shape dX12_shape_11) (by decide)).trans ?_
  exact rg_virtual (pc := 13) (dd bX12_shape dX12_shape_13) rfl rfl (by decide) (kc := 33) rfl s1.1 (as := [(1, 3), (0, x2), (0, 10), (0, 40)]) rfl ⟨Nat.le_of_ble_eq_true rfl, Nat.le_of_ble_eq_true rfl, Nat.le_of_ble_eq_true rfl, Nat.le_of_ble_eq_true rfl⟩
theorem rX12_shape_16 {x1 : Int} {x2 : Int} {x3 : Int} {x4 : Int} {x5 : Int} {h : vH} (s1 : shPL h) : vrun mX12_shape 16 [(1, 3), (0, x1), (0, x2), (0, x3), (0, x4), (1, x5)] [] h = vret vrun mX12_shape 20 [(1, 3), (0, x1), (0, x2), (0, x3), (0, x4), (1, x5)] [] (vcl mX12_checkRange [(1, 3), (0, x3), (0, 0), (0, 4)] h) := by
  refine (rn_aload_n (pc := 16) (dd bX12_shape dX12_shape_16) rfl).trans ?_
  refine (rn_iload_n (pc := 17) (dd bX12_shape dX12_shape_17) rfl).trans ?_
  refine (rn_iconst (pc := 18) (dd bX12_shape dX12_shape_18) (by decide)).trans ?_
  refine (rn_iconst (pc := 19) (dd bX12_shape dX12_shape_19) (by decide)).trans ?_
  exact rg_virtual (pc := 20) (dd bX12_shape dX12_shape_20) rfl rfl (by decide) (kc := 33) rfl s1.1 (as := [(1, 3), (0, x3), (0, 0), (0, 4)]) rfl ⟨Nat.le_of_ble_eq_true rfl, Nat.le_of_ble_eq_true rfl, Nat.le_of_ble_eq_true rfl, Nat.le_of_ble_eq_true rfl⟩
theorem rX12_shape_23 {x1 : Int} {x2 : Int} {x3 : Int} {x4 : Int} {x5 : Int} {h : vH} (s1 : shPL h) : vrun mX12_shape 23 [(1, 3), (0, x1), (0, x2), (0, x3), (0, x4), (1, x5)] [] h = vret vrun mX12_shape 28 [(1, 3), (0, x1), (0, x2), (0, x3), (0, x4), (1, x5)] [] (vcl mX12_checkRange [(1, 3), (0, x4), (0, 0), (0, 3)] h) := by
  refine (rn_aload_n (pc := 23) (dd bX12_shape dX12_shape_23) rfl).trans ?_
  refine (rn_iload (pc := 24) (dd bX12_shape dX12_shape_24) rfl).trans ?_
  refine (rn_iconst (pc := 26) (dd bX12_shape dX12_shape_26) (by decide)).trans ?_
  refine (rn_iconst (pc := 27) (dd bX12_shape dX12_shape_27) (by decide)).trans ?_
  exact rg_virtual (pc := 28) (dd bX12_shape dX12_shape_28) rfl rfl (by decide) (kc := 33) rfl s1.1 (as := [(1, 3), (0, x4), (0, 0), (0, 3)]) rfl ⟨Nat.le_of_ble_eq_true rfl, Nat.le_of_ble_eq_true rfl, Nat.le_of_ble_eq_true rfl, Nat.le_of_ble_eq_true rfl⟩
theorem rX12_shape_31 {x1 : Int} {x2 : Int} {x3 : Int} {x4 : Int} {x5 : Int} {h : vH} (s1 : shPane h x5) : vrun mX12_shape 31 [(1, 3), (0, x1), (0, x2), (0, x3), (0, x4), (1, x5)] [] h = vret vrun mX12_shape 37 [(1, 3), (0, x1), (0, x2), (0, x3), (0, x4), (1, x5)] [] (vcl mX5_reshape [(1, x5), (0, x2), (0, x3), (0, x4)] h) := by
  refine (rn_aload (pc := 31) (dd bX12_shape dX12_shape_31) rfl).trans ?_
  refine (rn_iload_n (pc := 33) (dd bX12_shape dX12_shape_33) rfl).trans ?_
  refine (rn_iload_n (pc := 34) (dd bX12_shape dX12_shape_34) rfl).trans ?_
  refine (rn_iload (pc := 35) (dd bX12_shape dX12_shape_35) rfl).trans ?_
  exact rg_virtual (pc := 37) (dd bX12_shape dX12_shape_37) rfl rfl (by decide) (kc := 26) rfl s1.1 (as := [(1, x5), (0, x2), (0, x3), (0, x4)]) rfl ⟨Nat.le_of_ble_eq_true rfl, Nat.le_of_ble_eq_true rfl, Nat.le_of_ble_eq_true rfl, Nat.le_of_ble_eq_true rfl⟩
theorem rX12_shape_40 {x1 : Int} {x2 : Int} {x3 : Int} {x4 : Int} {x5 : Int} {h : vH} : vrun mX12_shape 40 [(1, 3), (0, x1), (0, x2), (0, x3), (0, x4), (1, x5)] [] h = some (.inl none, h) := by
  exact rn_return (pc := 40) (dd bX12_shape dX12_shape_40) rfl
theorem bX12_hide : vmB mX12_hide = cX12_hide := rfl
theorem rX12_hide_0 {x1 : Int} {x2 : Int} {x3 : Int} {x4 : Int} {h : vH} (s1 : shPL h) : vrun mX12_hide 0 [(1, 3), (0, x1), (0, x2), (0, x3), (0, x4), (9, 0), (9, 0)] [] h = vret vrun mX12_hide 2 [(1, 3), (0, x1), (0, x2), (0, x3), (0, x4), (9, 0), (9, 0)] [] (vcl mX12_paneOf [(1, 3), (0, x1)] h) := by
  refine (rn_aload_n (pc := 0) (dd bX12_hide dX12_hide_0) rfl).trans ?_
  refine (rn_iload_n (pc := 1) (dd bX12_hide dX12_hide_1) rfl).trans ?_
  exact rg_virtual (pc := 2) (dd bX12_hide dX12_hide_2) rfl rfl (by decide) (kc := 33) rfl s1.1 (as := [(1, 3), (0, x1)]) rfl ⟨Nat.le_of_ble_eq_true rfl, Nat.le_of_ble_eq_true rfl, Nat.le_of_ble_eq_true rfl, Nat.le_of_ble_eq_true rfl⟩
theorem rX12_hide_5 {x1 : Int} {x2 : Int} {x3 : Int} {x4 : Int} {y0 : Int} {h : vH} (s1 : shPL h) : vrun mX12_hide 5 [(1, 3), (0, x1), (0, x2), (0, x3), (0, x4), (9, 0), (9, 0)] [(1, y0)] h = vret vrun mX12_hide 13 [(1, 3), (0, x1), (0, x2), (0, x3), (0, x4), (1, y0), (9, 0)] [(0, 1), (0, x4), (1, 3)] (vcl mX12_lineOf [(1, 3), (0, x2)] h) := by
  refine (rn_astore (pc := 5) (dd bX12_hide dX12_hide_5) (Nat.le_of_ble_eq_true rfl) rfl).trans ?_
  refine (rn_aload_n (pc := 7) (dd bX12_hide dX12_hide_7) rfl).trans ?_
  refine (rn_iload (pc := 8) (dd bX12_hide dX12_hide_8) rfl).trans ?_
  refine (rn_iconst (pc := 10) (dd bX12_hide dX12_hide_10) (by decide)).trans ?_
  refine (rn_aload_n (pc := 11) (dd bX12_hide dX12_hide_11) rfl).trans ?_
  refine (rn_iload_n (pc := 12) (dd bX12_hide dX12_hide_12) rfl).trans ?_
  exact rg_virtual (pc := 13) (dd bX12_hide dX12_hide_13) rfl rfl (by decide) (kc := 33) rfl s1.1 (as := [(1, 3), (0, x2)]) rfl ⟨Nat.le_of_ble_eq_true rfl, Nat.le_of_ble_eq_true rfl, Nat.le_of_ble_eq_true rfl, Nat.le_of_ble_eq_true rfl⟩
theorem rX12_hide_16 {x1 : Int} {x2 : Int} {x3 : Int} {x4 : Int} {x5 : Int} {y0 : Int} {y1 : Int} {y2 : Int} {h : vH} (s1 : shLine h y0) (s2 : shPL h) : vrun mX12_hide 16 [(1, 3), (0, x1), (0, x2), (0, x3), (0, x4), (1, x5), (9, 0)] [(1, y0), (0, y1), (0, y2), (1, 3)] h = vret vrun mX12_hide 19 [(1, 3), (0, x1), (0, x2), (0, x3), (0, x4), (1, x5), (9, 0)] [] (vcl mX12_checkRange [(1, 3), (0, y2), (0, y1), (0, h 601 y0 0)] h) := by
  refine (rg_gf (pc := 16) (dd bX12_hide dX12_hide_16) (ci := 5) (j := 1) rfl rfl (key := 601) rfl (kc := 25) rfl s1.1 rfl).trans ?_
  exact rg_virtual (pc := 19) (dd bX12_hide dX12_hide_19) rfl rfl (by decide) (kc := 33) rfl s2.1 (as := [(1, 3), (0, y2), (0, y1), (0, h 601 y0 0)]) rfl ⟨Nat.le_of_ble_eq_true rfl, Nat.le_of_ble_eq_true rfl, Nat.le_of_ble_eq_true rfl, Nat.le_of_ble_eq_true rfl⟩
theorem rX12_hide_22 {x1 : Int} {x2 : Int} {x3 : Int} {x4 : Int} {x5 : Int} {h : vH} (p1 : (-2147483648) ≤ x4 - 1) (p2 : x4 - 1 < 2147483648) (s3 : shPL h) : vrun mX12_hide 22 [(1, 3), (0, x1), (0, x2), (0, x3), (0, x4), (1, x5), (9, 0)] [] h = vret vrun mX12_hide 29 [(1, 3), (0, x1), (0, x2), (0, x3), (0, x4), (1, x5), (9, 0)] [] (vcl mX12_checkRange [(1, 3), (0, x3), (0, 0), (0, x4 - 1)] h) := by
  refine (rn_aload_n (pc := 22) (dd bX12_hide dX12_hide_22) rfl).trans ?_
  refine (rn_iload_n (pc := 23) (dd bX12_hide dX12_hide_23) rfl).trans ?_
  refine (rn_iconst (pc := 24) (dd bX12_hide dX12_hide_24) (by decide)).trans ?_
  refine (rn_iload (pc := 25) (dd bX12_hide dX12_hide_25) rfl).trans ?_
  refine (rn_iconst (pc := 27) (dd bX12_hide dX12_hide_27) (by decide)).trans ?_
  refine (rg_isub (pc := 28) (dd bX12_hide dX12_hide_28) p1 p2).trans ?_
  exact rg_virtual (pc := 29) (dd bX12_hide dX12_hide_29) rfl rfl (by decide) (kc := 33) rfl s3.1 (as := [(1, 3), (0, x3), (0, 0), (0, x4 - 1)]) rfl ⟨Nat.le_of_ble_eq_true rfl, Nat.le_of_ble_eq_true rfl, Nat.le_of_ble_eq_true rfl, Nat.le_of_ble_eq_true rfl⟩
theorem rX12_hide_32 {x1 : Int} {x2 : Int} {x3 : Int} {x4 : Int} {x5 : Int} {h : vH} (s1 : shPane h x5) (s2 : shList h (x5 + 1 + 1)) (s3 : shPL h) : vrun mX12_hide 32 [(1, 3), (0, x1), (0, x2), (0, x3), (0, x4), (1, x5), (9, 0)] [] h = vret vrun mX12_hide 58 [(1, 3), (0, x1), (0, x2), (0, x3), (0, x4), (1, x5), (1, x5 + 1 + 1)] [] (vcl mX12_checkState [(1, 3), (0, (if ¬ (6 ≤ h 102 (x5 + 1 + 1) 0) then 1 else 0))] h) := by
  refine (rn_aload (pc := 32) (dd bX12_hide dX12_hide_32) rfl).trans ?_
  refine (rg_gf (pc := 34) (dd bX12_hide dX12_hide_34) (ci := 6) (j := 1) rfl rfl (key := 701) rfl (kc := 26) rfl s1.1 s1.2.2.1).trans ?_
  refine (rg_gf (pc := 37) (dd bX12_hide dX12_hide_37) (ci := 3) (j := 0) rfl rfl (key := 400) rfl (kc := 23) rfl s1.2.2.2.1.1 s1.2.2.2.1.2.1).trans ?_
  refine (rn_astore (pc := 40) (dd bX12_hide dX12_hide_40) (Nat.le_of_ble_eq_true rfl) rfl).trans ?_
  refine (rn_aload_n (pc := 42) (dd bX12_hide dX12_hide_42) rfl).trans ?_
  refine (rn_aload (pc := 43) (dd bX12_hide dX12_hide_43) rfl).trans ?_
  refine (rg_virtual (pc := 45) (dd bX12_hide dX12_hide_45) rfl rfl (by decide) (kc := 20) rfl s2 (as := [(1, x5 + 1 + 1)]) rfl ⟨Nat.le_of_ble_eq_true rfl, Nat.le_of_ble_eq_true rfl, Nat.le_of_ble_eq_true rfl, Nat.le_of_ble_eq_true rfl⟩).trans ?_
  refine (vret_v (spJx4a65c_size_8abf5 s2)).trans ?_
  refine (rn_bipush (pc := 48) (dd bX12_hide dX12_hide_48) (by decide)).trans ?_
  have e1 : vrun mX12_hide 50 [(1, 3), (0, x1), (0, x2), (0, x3), (0, x4), (1, x5), (1, x5 + 1 + 1)] [(0, 6), (0, h 102 (x5 + 1 + 1) 0), (1, 3)] h = vrun mX12_hide 58 [(1, 3), (0, x1), (0, x2), (0, x3), (0, x4), (1, x5), (1, x5 + 1 + 1)] [(0, (if ¬ (6 ≤ h 102 (x5 + 1 + 1) 0) then 1 else 0)), (1, 3)] h := by
    refine (rn_icmp_ge (t := 57) (pc := 50) (dd bX12_hide dX12_hide_50) rfl).trans ?_
    by_cases c1 : 6 ≤ h 102 (x5 + 1 + 1) 0
    · refine (if_pos c1).trans ?_
      refine (rn_iconst (pc := 57) (dd bX12_hide dX12_hide_57) (by decide)).trans ?_
      refine Eq.trans (b := vrun mX12_hide 58 [(1, 3), (0, x1), (0, x2), (0, x3), (0, x4), (1, x5), (1, x5 + 1 + 1)] [(0, 0), (1, 3)] h) rfl ?_
      simp only [c1, true_or, false_or, or_true, or_false, true_and, false_and, and_true, and_false, not_true_eq_false, not_false_eq_true, ne_eq, if_true, if_false, ↓reduceIte]
    · refine (if_neg c1).trans ?_
      refine (rn_iconst (pc := 53) (dd bX12_hide dX12_hide_53) (by decide)).trans ?_
      refine (rn_goto (t := 58) (pc := 54) (dd bX12_hide dX12_hide_54) rfl).trans ?_
      refine Eq.trans (b := vrun mX12_hide 58 [(1, 3), (0, x1), (0, x2), (0, x3), (0, x4), (1, x5), (1, x5 + 1 + 1)] [(0, 1), (1, 3)] h) rfl ?_
      simp only [c1, true_or, false_or, or_true, or_false, true_and, false_and, and_true, and_false, not_true_eq_false, not_false_eq_true, ne_eq, if_true, if_false, ↓reduceIte]
  refine e1.trans ?_
  exact rg_virtual (pc := 58) (dd bX12_hide dX12_hide_58) rfl rfl (by decide) (kc := 33) rfl s3.1 (as := [(1, 3), (0, (if ¬ (6 ≤ h 102 (x5 + 1 + 1) 0) then 1 else 0))]) rfl ⟨Nat.le_of_ble_eq_true rfl, Nat.le_of_ble_eq_true rfl, Nat.le_of_ble_eq_true rfl, Nat.le_of_ble_eq_true rfl⟩
theorem rX12_hide_61 {x1 : Int} {x2 : Int} {x3 : Int} {x4 : Int} {x5 : Int} {x6 : Int} {h : vH} (p1 : ¬ (h 3 0 0 = 0)) : vrun mX12_hide 61 [(1, 3), (0, x1), (0, x2), (0, x3), (0, x4), (1, x5), (1, x6)] [] h = vret vrun mX12_hide 71 [(1, 3), (0, x1), (0, x2), (0, x3), (0, x4), (1, x5), (1, x6)] [(1, h 3 0 0), (1, x6)] (vcl mX8_init [(1, h 3 0 0), (0, x2), (0, x3), (0, x4)] (vnew h 29 0 2)) := by
  refine (rn_aload (pc := 61) (dd bX12_hide dX12_hide_61) rfl).trans ?_
  refine (rg_new (pc := 63) (dd bX12_hide dX12_hide_63) rfl rfl (kc := 29) rfl (nn := 2) rfl).trans ?_
  refine (rn_dup (pc := 66) (dd bX12_hide dX12_hide_66) (by decide)).trans ?_
  refine (rn_iload_n (pc := 67) (dd bX12_hide dX12_hide_67) rfl).trans ?_
  refine (rn_iload_n (pc := 68) (dd bX12_hide dX12_hide_68) rfl).trans ?_
  refine (rn_iload (pc := 69) (dd bX12_hide dX12_hide_69) rfl).trans ?_
  exact rn_special (pc := 71) (dd bX12_hide dX12_hide_71) rfl rfl p1 (by decide) rfl ⟨Nat.le_of_ble_eq_true rfl, Nat.le_of_ble_eq_true rfl, Nat.le_of_ble_eq_true rfl, Nat.le_of_ble_eq_true rfl⟩
theorem rX12_hide_74 {x1 : Int} {x2 : Int} {x3 : Int} {x4 : Int} {x5 : Int} {x6 : Int} {y0 : Int} {y1 : Int} {h : vH} (s1 : shList h y1) : vrun mX12_hide 74 [(1, 3), (0, x1), (0, x2), (0, x3), (0, x4), (1, x5), (1, x6)] [(1, y0), (1, y1)] h = vret vrun mX12_hide 74 [(1, 3), (0, x1), (0, x2), (0, x3), (0, x4), (1, x5), (1, x6)] [] (vcl mJx4a65c_add_9ea2d [(1, y1), (1, y0)] h) := by
  exact rg_virtual (pc := 74) (dd bX12_hide dX12_hide_74) rfl rfl (by decide) (kc := 20) rfl s1 (as := [(1, y1), (1, y0)]) rfl ⟨Nat.le_of_ble_eq_true rfl, Nat.le_of_ble_eq_true rfl, Nat.le_of_ble_eq_true rfl, Nat.le_of_ble_eq_true rfl⟩
theorem rX12_hide_77 {x1 : Int} {x2 : Int} {x3 : Int} {x4 : Int} {x5 : Int} {x6 : Int} {y0 : Int} {h : vH} (s1 : shPane h x5) : vrun mX12_hide 77 [(1, 3), (0, x1), (0, x2), (0, x3), (0, x4), (1, x5), (1, x6)] [(0, y0)] h = vret vrun mX12_hide 81 [(1, 3), (0, x1), (0, x2), (0, x3), (0, x4), (1, x5), (1, x6)] [] (vcl mX5_forgetLine [(1, x5), (0, x2)] h) := by
  refine (rn_pop (pc := 77) (dd bX12_hide dX12_hide_77) (by decide)).trans ?_
  refine (rn_aload (pc := 78) (dd bX12_hide dX12_hide_78) rfl).trans ?_
  refine (rn_iload_n (pc := 80) (dd bX12_hide dX12_hide_80) rfl).trans ?_
  exact rg_virtual (pc := 81) (dd bX12_hide dX12_hide_81) rfl rfl (by decide) (kc := 26) rfl s1.1 (as := [(1, x5), (0, x2)]) rfl ⟨Nat.le_of_ble_eq_true rfl, Nat.le_of_ble_eq_true rfl, Nat.le_of_ble_eq_true rfl, Nat.le_of_ble_eq_true rfl⟩
theorem rX12_hide_84 {x1 : Int} {x2 : Int} {x3 : Int} {x4 : Int} {x5 : Int} {x6 : Int} {h : vH} (s1 : shList h x6) : vrun mX12_hide 84 [(1, 3), (0, x1), (0, x2), (0, x3), (0, x4), (1, x5), (1, x6)] [] h = some (.inl (some (0, h 102 x6 0)), h) := by
  refine (rn_aload (pc := 84) (dd bX12_hide dX12_hide_84) rfl).trans ?_
  refine (rg_virtual (pc := 86) (dd bX12_hide dX12_hide_86) rfl rfl (by decide) (kc := 20) rfl s1 (as := [(1, x6)]) rfl ⟨Nat.le_of_ble_eq_true rfl, Nat.le_of_ble_eq_true rfl, Nat.le_of_ble_eq_true rfl, Nat.le_of_ble_eq_true rfl⟩).trans ?_
  refine (vret_v (spJx4a65c_size_8abf5 s1)).trans ?_
  exact rn_ireturn (pc := 89) (dd bX12_hide dX12_hide_89) (Or.inl rfl)
theorem bX12_addVirtual : vmB mX12_addVirtual = cX12_addVirtual := rfl
theorem rX12_addVirtual_0 {x1 : Int} {x2 : Int} {x3 : Int} {x4 : Int} {h : vH} (s1 : shPL h) : vrun mX12_addVirtual 0 [(1, 3), (0, x1), (0, x2), (0, x3), (2, x4), (8, 0), (9, 0), (9, 0)] [] h = vret vrun mX12_addVirtual 2 [(1, 3), (0, x1), (0, x2), (0, x3), (2, x4), (8, 0), (9, 0), (9, 0)] [] (vcl mX12_paneOf [(1, 3), (0, x1)] h) := by
  refine (rn_aload_n (pc := 0) (dd bX12_addVirtual dX12_addVirtual_0) rfl).trans ?_
  refine (rn_iload_n (pc := 1) (dd bX12_addVirtual dX12_addVirtual_1) rfl).trans ?_
  exact rg_virtual (pc := 2) (dd bX12_addVirtual dX12_addVirtual_2) rfl rfl (by decide) (kc := 33) rfl s1.1 (as := [(1, 3), (0, x1)]) rfl ⟨Nat.le_of_ble_eq_true rfl, Nat.le_of_ble_eq_true rfl, Nat.le_of_ble_eq_true rfl, Nat.le_of_ble_eq_true rfl⟩
theorem rX12_addVirtual_5 {x1 : Int} {x2 : Int} {x3 : Int} {x4 : Int} {y0 : Int} {h : vH} (s1 : shPL h) : vrun mX12_addVirtual 5 [(1, 3), (0, x1), (0, x2), (0, x3), (2, x4), (8, 0), (9, 0), (9, 0)] [(1, y0)] h = vret vrun mX12_addVirtual 12 [(1, 3), (0, x1), (0, x2), (0, x3), (2, x4), (8, 0), (1, y0), (9, 0)] [(0, 0), (0, x3), (1, 3)] (vcl mX12_lineOf [(1, 3), (0, x2)] h) := by
  refine (rn_astore (pc := 5) (dd bX12_addVirtual dX12_addVirtual_5) (Nat.le_of_ble_eq_true rfl) rfl).trans ?_
  refine (rn_aload_n (pc := 7) (dd bX12_addVirtual dX12_addVirtual_7) rfl).trans ?_
  refine (rn_iload_n (pc := 8) (dd bX12_addVirtual dX12_addVirtual_8) rfl).trans ?_
  refine (rn_iconst (pc := 9) (dd bX12_addVirtual dX12_addVirtual_9) (by decide)).trans ?_
  refine (rn_aload_n (pc := 10) (dd bX12_addVirtual dX12_addVirtual_10) rfl).trans ?_
  refine (rn_iload_n (pc := 11) (dd bX12_addVirtual dX12_addVirtual_11) rfl).trans ?_
  exact rg_virtual (pc := 12) (dd bX12_addVirtual dX12_addVirtual_12) rfl rfl (by decide) (kc := 33) rfl s1.1 (as := [(1, 3), (0, x2)]) rfl ⟨Nat.le_of_ble_eq_true rfl, Nat.le_of_ble_eq_true rfl, Nat.le_of_ble_eq_true rfl, Nat.le_of_ble_eq_true rfl⟩
theorem rX12_addVirtual_15 {x1 : Int} {x2 : Int} {x3 : Int} {x4 : Int} {x6 : Int} {y0 : Int} {y1 : Int} {y2 : Int} {h : vH} (s1 : shLine h y0) (s2 : shPL h) : vrun mX12_addVirtual 15 [(1, 3), (0, x1), (0, x2), (0, x3), (2, x4), (8, 0), (1, x6), (9, 0)] [(1, y0), (0, y1), (0, y2), (1, 3)] h = vret vrun mX12_addVirtual 18 [(1, 3), (0, x1), (0, x2), (0, x3), (2, x4), (8, 0), (1, x6), (9, 0)] [] (vcl mX12_checkRange [(1, 3), (0, y2), (0, y1), (0, h 601 y0 0)] h) := by
  refine (rg_gf (pc := 15) (dd bX12_addVirtual dX12_addVirtual_15) (ci := 5) (j := 1) rfl rfl (key := 601) rfl (kc := 25) rfl s1.1 rfl).trans ?_
  exact rg_virtual (pc := 18) (dd bX12_addVirtual dX12_addVirtual_18) rfl rfl (by decide) (kc := 33) rfl s2.1 (as := [(1, 3), (0, y2), (0, y1), (0, h 601 y0 0)]) rfl ⟨Nat.le_of_ble_eq_true rfl, Nat.le_of_ble_eq_true rfl, Nat.le_of_ble_eq_true rfl, Nat.le_of_ble_eq_true rfl⟩
theorem rX12_addVirtual_21 {x1 : Int} {x2 : Int} {x3 : Int} {x4 : Int} {x6 : Int} {h : vH} : vrun mX12_addVirtual 21 [(1, 3), (0, x1), (0, x2), (0, x3), (2, x4), (8, 0), (1, x6), (9, 0)] [] h = vret vrun mX12_addVirtual 23 [(1, 3), (0, x1), (0, x2), (0, x3), (2, x4), (8, 0), (1, x6), (9, 0)] [] (vcl mX11_isText [(2, x4)] h) := by
  refine (rn_lload (pc := 21) (dd bX12_addVirtual dX12_addVirtual_21) rfl).trans ?_
  exact rg_static (pc := 23) (dd bX12_addVirtual dX12_addVirtual_23) rfl (by decide) (Nat.le_of_ble_eq_true rfl) (as := [(2, x4)]) rfl rfl ⟨Nat.le_of_ble_eq_true rfl, Nat.le_of_ble_eq_true rfl, Nat.le_of_ble_eq_true rfl, Nat.le_of_ble_eq_true rfl⟩
theorem rX12_addVirtual_26 {x1 : Int} {x2 : Int} {x3 : Int} {x4 : Int} {x6 : Int} {y0 : Int} {h : vH} (s1 : shPane h x6) (s2 : ¬ (y0 = 0) → shList h (x6 + 1 + 2)) (s3 : shPL h) : vrun mX12_addVirtual 26 [(1, 3), (0, x1), (0, x2), (0, x3), (2, x4), (8, 0), (1, x6), (9, 0)] [(0, y0)] h = if y0 = 0 then some (.inr "java/lang/IllegalArgumentException", vexc h) else vret vrun mX12_addVirtual 65 [(1, 3), (0, x1), (0, x2), (0, x3), (2, x4), (8, 0), (1, x6), (1, x6 + 1 + 2)] [] (vcl mX12_checkState [(1, 3), (0, (if ¬ (6 ≤ h 102 (x6 + 1 + 2) 0) then 1 else 0))] h) := by
  refine (rg_if_ne (t := 39) (pc := 26) (dd bX12_addVirtual dX12_addVirtual_26) rfl).trans (itec (fun c1 => ?_) (fun c1 => ?_))
  · exact rn_throw (pc := 29) (dd bX12_addVirtual dX12_addVirtual_29) rfl (vthrows_m bX12_addVirtual (vthrows_s dX12_addVirtual_29 dX12_addVirtual_32 dX12_addVirtual_33 dX12_addVirtual_35 dX12_addVirtual_38)) ⟨rfl, rfl, rfl, Nat.le_of_ble_eq_true rfl, Nat.le_of_ble_eq_true rfl⟩
  · refine (rn_aload (pc := 39) (dd bX12_addVirtual dX12_addVirtual_39) rfl).trans ?_
    refine (rg_gf (pc := 41) (dd bX12_addVirtual dX12_addVirtual_41) (ci := 6) (j := 1) rfl rfl (key := 701) rfl (kc := 26) rfl s1.1 s1.2.2.1).trans ?_
    refine (rg_gf (pc := 44) (dd bX12_addVirtual dX12_addVirtual_44) (ci := 3) (j := 1) rfl rfl (key := 401) rfl (kc := 23) rfl s1.2.2.2.1.1 s1.2.2.2.1.2.2.1).trans ?_
    refine (rn_astore (pc := 47) (dd bX12_addVirtual dX12_addVirtual_47) (Nat.le_of_ble_eq_true rfl) rfl).trans ?_
    refine (rn_aload_n (pc := 49) (dd bX12_addVirtual dX12_addVirtual_49) rfl).trans ?_
    refine (rn_aload (pc := 50) (dd bX12_addVirtual dX12_addVirtual_50) rfl).trans ?_
    refine (rg_virtual (pc := 52) (dd bX12_addVirtual dX12_addVirtual_52) rfl rfl (by decide) (kc := 20) rfl (s2 c1) (as := [(1, x6 + 1 + 2)]) rfl ⟨Nat.le_of_ble_eq_true rfl, Nat.le_of_ble_eq_true rfl, Nat.le_of_ble_eq_true rfl, Nat.le_of_ble_eq_true rfl⟩).trans ?_
    refine (vret_v (spJx4a65c_size_8abf5 (s2 c1))).trans ?_
    refine (rn_bipush (pc := 55) (dd bX12_addVirtual dX12_addVirtual_55) (by decide)).trans ?_
    have e1 : vrun mX12_addVirtual 57 [(1, 3), (0, x1), (0, x2), (0, x3), (2, x4), (8, 0), (1, x6), (1, x6 + 1 + 2)] [(0, 6), (0, h 102 (x6 + 1 + 2) 0), (1, 3)] h = vrun mX12_addVirtual 65 [(1, 3), (0, x1), (0, x2), (0, x3), (2, x4), (8, 0), (1, x6), (1, x6 + 1 + 2)] [(0, (if ¬ (6 ≤ h 102 (x6 + 1 + 2) 0) then 1 else 0)), (1, 3)] h := by
      refine (rn_icmp_ge (t := 64) (pc := 57) (dd bX12_addVirtual dX12_addVirtual_57) rfl).trans ?_
      by_cases c2 : 6 ≤ h 102 (x6 + 1 + 2) 0
      · refine (if_pos c2).trans ?_
        refine (rn_iconst (pc := 64) (dd bX12_addVirtual dX12_addVirtual_64) (by decide)).trans ?_
        refine Eq.trans (b := vrun mX12_addVirtual 65 [(1, 3), (0, x1), (0, x2), (0, x3), (2, x4), (8, 0), (1, x6), (1, x6 + 1 + 2)] [(0, 0), (1, 3)] h) rfl ?_
        simp only [c2, true_or, false_or, or_true, or_false, true_and, false_and, and_true, and_false, not_true_eq_false, not_false_eq_true, ne_eq, if_true, if_false, ↓reduceIte]
      · refine (if_neg c2).trans ?_
        refine (rn_iconst (pc := 60) (dd bX12_addVirtual dX12_addVirtual_60) (by decide)).trans ?_
        refine (rn_goto (t := 65) (pc := 61) (dd bX12_addVirtual dX12_addVirtual_61) rfl).trans ?_
        refine Eq.trans (b := vrun mX12_addVirtual 65 [(1, 3), (0, x1), (0, x2), (0, x3), (2, x4), (8, 0), (1, x6), (1, x6 + 1 + 2)] [(0, 1), (1, 3)] h) rfl ?_
        simp only [c2, true_or, false_or, or_true, or_false, true_and, false_and, and_true, and_false, not_true_eq_false, not_false_eq_true, ne_eq, if_true, if_false, ↓reduceIte]
    refine e1.trans ?_
    exact rg_virtual (pc := 65) (dd bX12_addVirtual dX12_addVirtual_65) rfl rfl (by decide) (kc := 33) rfl s3.1 (as := [(1, 3), (0, (if ¬ (6 ≤ h 102 (x6 + 1 + 2) 0) then 1 else 0))]) rfl ⟨Nat.le_of_ble_eq_true rfl, Nat.le_of_ble_eq_true rfl, Nat.le_of_ble_eq_true rfl, Nat.le_of_ble_eq_true rfl⟩
theorem rX12_addVirtual_68 {x1 : Int} {x2 : Int} {x3 : Int} {x4 : Int} {x6 : Int} {x7 : Int} {h : vH} (p1 : ¬ (h 3 0 0 = 0)) : vrun mX12_addVirtual 68 [(1, 3), (0, x1), (0, x2), (0, x3), (2, x4), (8, 0), (1, x6), (1, x7)] [] h = vret vrun mX12_addVirtual 78 [(1, 3), (0, x1), (0, x2), (0, x3), (2, x4), (8, 0), (1, x6), (1, x7)] [(1, h 3 0 0), (1, x7)] (vcl mX11_init [(1, h 3 0 0), (0, x2), (0, x3), (2, x4)] (vnew h 32 0 2)) := by
  refine (rn_aload (pc := 68) (dd bX12_addVirtual dX12_addVirtual_68) rfl).trans ?_
  refine (rg_new (pc := 70) (dd bX12_addVirtual dX12_addVirtual_70) rfl rfl (kc := 32) rfl (nn := 2) rfl).trans ?_
  refine (rn_dup (pc := 73) (dd bX12_addVirtual dX12_addVirtual_73) (by decide)).trans ?_
  refine (rn_iload_n (pc := 74) (dd bX12_addVirtual dX12_addVirtual_74) rfl).trans ?_
  refine (rn_iload_n (pc := 75) (dd bX12_addVirtual dX12_addVirtual_75) rfl).trans ?_
  refine (rn_lload (pc := 76) (dd bX12_addVirtual dX12_addVirtual_76) rfl).trans ?_
  exact rn_special (pc := 78) (dd bX12_addVirtual dX12_addVirtual_78) rfl rfl p1 (by decide) rfl ⟨Nat.le_of_ble_eq_true rfl, Nat.le_of_ble_eq_true rfl, Nat.le_of_ble_eq_true rfl, Nat.le_of_ble_eq_true rfl⟩
theorem rX12_addVirtual_81 {x1 : Int} {x2 : Int} {x3 : Int} {x4 : Int} {x6 : Int} {x7 : Int} {y0 : Int} {y1 : Int} {h : vH} (s1 : shList h y1) : vrun mX12_addVirtual 81 [(1, 3), (0, x1), (0, x2), (0, x3), (2, x4), (8, 0), (1, x6), (1, x7)] [(1, y0), (1, y1)] h = vret vrun mX12_addVirtual 81 [(1, 3), (0, x1), (0, x2), (0, x3), (2, x4), (8, 0), (1, x6), (1, x7)] [] (vcl mJx4a65c_add_9ea2d [(1, y1), (1, y0)] h) := by
  exact rg_virtual (pc := 81) (dd bX12_addVirtual dX12_addVirtual_81) rfl rfl (by decide) (kc := 20) rfl s1 (as := [(1, y1), (1, y0)]) rfl ⟨Nat.le_of_ble_eq_true rfl, Nat.le_of_ble_eq_true rfl, Nat.le_of_ble_eq_true rfl, Nat.le_of_ble_eq_true rfl⟩
theorem rX12_addVirtual_84 {x1 : Int} {x2 : Int} {x3 : Int} {x4 : Int} {x6 : Int} {x7 : Int} {y0 : Int} {h : vH} (s1 : shPane h x6) : vrun mX12_addVirtual 84 [(1, 3), (0, x1), (0, x2), (0, x3), (2, x4), (8, 0), (1, x6), (1, x7)] [(0, y0)] h = vret vrun mX12_addVirtual 88 [(1, 3), (0, x1), (0, x2), (0, x3), (2, x4), (8, 0), (1, x6), (1, x7)] [] (vcl mX5_forgetLine [(1, x6), (0, x2)] h) := by
  refine (rn_pop (pc := 84) (dd bX12_addVirtual dX12_addVirtual_84) (by decide)).trans ?_
  refine (rn_aload (pc := 85) (dd bX12_addVirtual dX12_addVirtual_85) rfl).trans ?_
  refine (rn_iload_n (pc := 87) (dd bX12_addVirtual dX12_addVirtual_87) rfl).trans ?_
  exact rg_virtual (pc := 88) (dd bX12_addVirtual dX12_addVirtual_88) rfl rfl (by decide) (kc := 26) rfl s1.1 (as := [(1, x6), (0, x2)]) rfl ⟨Nat.le_of_ble_eq_true rfl, Nat.le_of_ble_eq_true rfl, Nat.le_of_ble_eq_true rfl, Nat.le_of_ble_eq_true rfl⟩
theorem rX12_addVirtual_91 {x1 : Int} {x2 : Int} {x3 : Int} {x4 : Int} {x6 : Int} {x7 : Int} {h : vH} (s1 : shList h x7) : vrun mX12_addVirtual 91 [(1, 3), (0, x1), (0, x2), (0, x3), (2, x4), (8, 0), (1, x6), (1, x7)] [] h = some (.inl (some (0, h 102 x7 0)), h) := by
  refine (rn_aload (pc := 91) (dd bX12_addVirtual dX12_addVirtual_91) rfl).trans ?_
  refine (rg_virtual (pc := 93) (dd bX12_addVirtual dX12_addVirtual_93) rfl rfl (by decide) (kc := 20) rfl s1 (as := [(1, x7)]) rfl ⟨Nat.le_of_ble_eq_true rfl, Nat.le_of_ble_eq_true rfl, Nat.le_of_ble_eq_true rfl, Nat.le_of_ble_eq_true rfl⟩).trans ?_
  refine (vret_v (spJx4a65c_size_8abf5 s1)).trans ?_
  exact rn_ireturn (pc := 96) (dd bX12_addVirtual dX12_addVirtual_96) (Or.inl rfl)
theorem bX12_addFold : vmB mX12_addFold = cX12_addFold := rfl
theorem rX12_addFold_0 {x1 : Int} {x2 : Int} {x3 : Int} {h : vH} (s1 : shPL h) : vrun mX12_addFold 0 [(1, 3), (0, x1), (0, x2), (0, x3), (9, 0), (9, 0)] [] h = vret vrun mX12_addFold 2 [(1, 3), (0, x1), (0, x2), (0, x3), (9, 0), (9, 0)] [] (vcl mX12_paneOf [(1, 3), (0, x1)] h) := by
  refine (rn_aload_n (pc := 0) (dd bX12_addFold dX12_addFold_0) rfl).trans ?_
  refine (rn_iload_n (pc := 1) (dd bX12_addFold dX12_addFold_1) rfl).trans ?_
  exact rg_virtual (pc := 2) (dd bX12_addFold dX12_addFold_2) rfl rfl (by decide) (kc := 33) rfl s1.1 (as := [(1, 3), (0, x1)]) rfl ⟨Nat.le_of_ble_eq_true rfl, Nat.le_of_ble_eq_true rfl, Nat.le_of_ble_eq_true rfl, Nat.le_of_ble_eq_true rfl⟩
theorem rX12_addFold_5 {x1 : Int} {x2 : Int} {x3 : Int} {y0 : Int} {h : vH} (s1 : shPL h) : vrun mX12_addFold 5 [(1, 3), (0, x1), (0, x2), (0, x3), (9, 0), (9, 0)] [(1, y0)] h = vret vrun mX12_addFold 9 [(1, 3), (0, x1), (0, x2), (0, x3), (1, y0), (9, 0)] [] (vcl mX12_checkLine [(1, 3), (0, x2)] h) := by
  refine (rn_astore (pc := 5) (dd bX12_addFold dX12_addFold_5) (Nat.le_of_ble_eq_true rfl) rfl).trans ?_
  refine (rn_aload_n (pc := 7) (dd bX12_addFold dX12_addFold_7) rfl).trans ?_
  refine (rn_iload_n (pc := 8) (dd bX12_addFold dX12_addFold_8) rfl).trans ?_
  exact rg_virtual (pc := 9) (dd bX12_addFold dX12_addFold_9) rfl rfl (by decide) (kc := 33) rfl s1.1 (as := [(1, 3), (0, x2)]) rfl ⟨Nat.le_of_ble_eq_true rfl, Nat.le_of_ble_eq_true rfl, Nat.le_of_ble_eq_true rfl, Nat.le_of_ble_eq_true rfl⟩
theorem rX12_addFold_12 {x1 : Int} {x2 : Int} {x3 : Int} {x4 : Int} {h : vH} (s1 : shPL h) : vrun mX12_addFold 12 [(1, 3), (0, x1), (0, x2), (0, x3), (1, x4), (9, 0)] [] h = vret vrun mX12_addFold 14 [(1, 3), (0, x1), (0, x2), (0, x3), (1, x4), (9, 0)] [] (vcl mX12_checkLine [(1, 3), (0, x3)] h) := by
  refine (rn_aload_n (pc := 12) (dd bX12_addFold dX12_addFold_12) rfl).trans ?_
  refine (rn_iload_n (pc := 13) (dd bX12_addFold dX12_addFold_13) rfl).trans ?_
  exact rg_virtual (pc := 14) (dd bX12_addFold dX12_addFold_14) rfl rfl (by decide) (kc := 33) rfl s1.1 (as := [(1, 3), (0, x3)]) rfl ⟨Nat.le_of_ble_eq_true rfl, Nat.le_of_ble_eq_true rfl, Nat.le_of_ble_eq_true rfl, Nat.le_of_ble_eq_true rfl⟩
theorem rX12_addFold_17 {x1 : Int} {x2 : Int} {x3 : Int} {x4 : Int} {h : vH} (s1 : shPane h x4) (s2 : x2 < x3 → shList h (x4 + 1 + 3)) (s3 : shPL h) : vrun mX12_addFold 17 [(1, 3), (0, x1), (0, x2), (0, x3), (1, x4), (9, 0)] [] h = if x2 < x3 then vret vrun mX12_addFold 58 [(1, 3), (0, x1), (0, x2), (0, x3), (1, x4), (1, x4 + 1 + 3)] [] (vcl mX12_checkState [(1, 3), (0, (if ¬ (6 ≤ h 102 (x4 + 1 + 3) 0) then 1 else 0))] h) else some (.inr "java/lang/IllegalArgumentException", vexc h) := by
  refine (rn_iload_n (pc := 17) (dd bX12_addFold dX12_addFold_17) rfl).trans ?_
  refine (rn_iload_n (pc := 18) (dd bX12_addFold dX12_addFold_18) rfl).trans ?_
  refine (rn_icmp_gt (t := 32) (pc := 19) (dd bX12_addFold dX12_addFold_19) rfl).trans (itec (fun c1 => ?_) (fun c1 => ?_))
  · refine (rn_aload (pc := 32) (dd bX12_addFold dX12_addFold_32) rfl).trans ?_
    refine (rg_gf (pc := 34) (dd bX12_addFold dX12_addFold_34) (ci := 6) (j := 1) rfl rfl (key := 701) rfl (kc := 26) rfl s1.1 s1.2.2.1).trans ?_
    refine (rg_gf (pc := 37) (dd bX12_addFold dX12_addFold_37) (ci := 3) (j := 2) rfl rfl (key := 402) rfl (kc := 23) rfl s1.2.2.2.1.1 s1.2.2.2.1.2.2.2).trans ?_
    refine (rn_astore (pc := 40) (dd bX12_addFold dX12_addFold_40) (Nat.le_of_ble_eq_true rfl) rfl).trans ?_
    refine (rn_aload_n (pc := 42) (dd bX12_addFold dX12_addFold_42) rfl).trans ?_
    refine (rn_aload (pc := 43) (dd bX12_addFold dX12_addFold_43) rfl).trans ?_
    refine (rg_virtual (pc := 45) (dd bX12_addFold dX12_addFold_45) rfl rfl (by decide) (kc := 20) rfl (s2 c1) (as := [(1, x4 + 1 + 3)]) rfl ⟨Nat.le_of_ble_eq_true rfl, Nat.le_of_ble_eq_true rfl, Nat.le_of_ble_eq_true rfl, Nat.le_of_ble_eq_true rfl⟩).trans ?_
    refine (vret_v (spJx4a65c_size_8abf5 (s2 c1))).trans ?_
    refine (rn_bipush (pc := 48) (dd bX12_addFold dX12_addFold_48) (by decide)).trans ?_
    have e1 : vrun mX12_addFold 50 [(1, 3), (0, x1), (0, x2), (0, x3), (1, x4), (1, x4 + 1 + 3)] [(0, 6), (0, h 102 (x4 + 1 + 3) 0), (1, 3)] h = vrun mX12_addFold 58 [(1, 3), (0, x1), (0, x2), (0, x3), (1, x4), (1, x4 + 1 + 3)] [(0, (if ¬ (6 ≤ h 102 (x4 + 1 + 3) 0) then 1 else 0)), (1, 3)] h := by
      refine (rn_icmp_ge (t := 57) (pc := 50) (dd bX12_addFold dX12_addFold_50) rfl).trans ?_
      by_cases c2 : 6 ≤ h 102 (x4 + 1 + 3) 0
      · refine (if_pos c2).trans ?_
        refine (rn_iconst (pc := 57) (dd bX12_addFold dX12_addFold_57) (by decide)).trans ?_
        refine Eq.trans (b := vrun mX12_addFold 58 [(1, 3), (0, x1), (0, x2), (0, x3), (1, x4), (1, x4 + 1 + 3)] [(0, 0), (1, 3)] h) rfl ?_
        simp only [c2, true_or, false_or, or_true, or_false, true_and, false_and, and_true, and_false, not_true_eq_false, not_false_eq_true, ne_eq, if_true, if_false, ↓reduceIte]
      · refine (if_neg c2).trans ?_
        refine (rn_iconst (pc := 53) (dd bX12_addFold dX12_addFold_53) (by decide)).trans ?_
        refine (rn_goto (t := 58) (pc := 54) (dd bX12_addFold dX12_addFold_54) rfl).trans ?_
        refine Eq.trans (b := vrun mX12_addFold 58 [(1, 3), (0, x1), (0, x2), (0, x3), (1, x4), (1, x4 + 1 + 3)] [(0, 1), (1, 3)] h) rfl ?_
        simp only [c2, true_or, false_or, or_true, or_false, true_and, false_and, and_true, and_false, not_true_eq_false, not_false_eq_true, ne_eq, if_true, if_false, ↓reduceIte]
    refine e1.trans ?_
    exact rg_virtual (pc := 58) (dd bX12_addFold dX12_addFold_58) rfl rfl (by decide) (kc := 33) rfl s3.1 (as := [(1, 3), (0, (if ¬ (6 ≤ h 102 (x4 + 1 + 3) 0) then 1 else 0))]) rfl ⟨Nat.le_of_ble_eq_true rfl, Nat.le_of_ble_eq_true rfl, Nat.le_of_ble_eq_true rfl, Nat.le_of_ble_eq_true rfl⟩
  · exact rn_throw (pc := 22) (dd bX12_addFold dX12_addFold_22) rfl (vthrows_m bX12_addFold (vthrows_s dX12_addFold_22 dX12_addFold_25 dX12_addFold_26 dX12_addFold_28 dX12_addFold_31)) ⟨rfl, rfl, rfl, Nat.le_of_ble_eq_true rfl, Nat.le_of_ble_eq_true rfl⟩
theorem rX12_addFold_61 {x1 : Int} {x2 : Int} {x3 : Int} {x4 : Int} {x5 : Int} {h : vH} (p1 : ¬ (h 3 0 0 = 0)) : vrun mX12_addFold 61 [(1, 3), (0, x1), (0, x2), (0, x3), (1, x4), (1, x5)] [] h = vret vrun mX12_addFold 69 [(1, 3), (0, x1), (0, x2), (0, x3), (1, x4), (1, x5)] [(1, h 3 0 0), (1, x5)] (vcl mX1_init [(1, h 3 0 0), (0, x2), (0, x3)] (vnew h 22 0 3)) := by
  refine (rn_aload (pc := 61) (dd bX12_addFold dX12_addFold_61) rfl).trans ?_
  refine (rg_new (pc := 63) (dd bX12_addFold dX12_addFold_63) rfl rfl (kc := 22) rfl (nn := 3) rfl).trans ?_
  refine (rn_dup (pc := 66) (dd bX12_addFold dX12_addFold_66) (by decide)).trans ?_
  refine (rn_iload_n (pc := 67) (dd bX12_addFold dX12_addFold_67) rfl).trans ?_
  refine (rn_iload_n (pc := 68) (dd bX12_addFold dX12_addFold_68) rfl).trans ?_
  exact rn_special (pc := 69) (dd bX12_addFold dX12_addFold_69) rfl rfl p1 (by decide) rfl ⟨Nat.le_of_ble_eq_true rfl, Nat.le_of_ble_eq_true rfl, Nat.le_of_ble_eq_true rfl, Nat.le_of_ble_eq_true rfl⟩
theorem rX12_addFold_72 {x1 : Int} {x2 : Int} {x3 : Int} {x4 : Int} {x5 : Int} {y0 : Int} {y1 : Int} {h : vH} (s1 : shList h y1) : vrun mX12_addFold 72 [(1, 3), (0, x1), (0, x2), (0, x3), (1, x4), (1, x5)] [(1, y0), (1, y1)] h = vret vrun mX12_addFold 72 [(1, 3), (0, x1), (0, x2), (0, x3), (1, x4), (1, x5)] [] (vcl mJx4a65c_add_9ea2d [(1, y1), (1, y0)] h) := by
  exact rg_virtual (pc := 72) (dd bX12_addFold dX12_addFold_72) rfl rfl (by decide) (kc := 20) rfl s1 (as := [(1, y1), (1, y0)]) rfl ⟨Nat.le_of_ble_eq_true rfl, Nat.le_of_ble_eq_true rfl, Nat.le_of_ble_eq_true rfl, Nat.le_of_ble_eq_true rfl⟩
theorem rX12_addFold_75 {x1 : Int} {x2 : Int} {x3 : Int} {x4 : Int} {x5 : Int} {y0 : Int} {h : vH} (s1 : shList h x5) : vrun mX12_addFold 75 [(1, 3), (0, x1), (0, x2), (0, x3), (1, x4), (1, x5)] [(0, y0)] h = some (.inl (some (0, h 102 x5 0)), h) := by
  refine (rn_pop (pc := 75) (dd bX12_addFold dX12_addFold_75) (by decide)).trans ?_
  refine (rn_aload (pc := 76) (dd bX12_addFold dX12_addFold_76) rfl).trans ?_
  refine (rg_virtual (pc := 78) (dd bX12_addFold dX12_addFold_78) rfl rfl (by decide) (kc := 20) rfl s1 (as := [(1, x5)]) rfl ⟨Nat.le_of_ble_eq_true rfl, Nat.le_of_ble_eq_true rfl, Nat.le_of_ble_eq_true rfl, Nat.le_of_ble_eq_true rfl⟩).trans ?_
  refine (vret_v (spJx4a65c_size_8abf5 s1)).trans ?_
  exact rn_ireturn (pc := 81) (dd bX12_addFold dX12_addFold_81) (Or.inl rfl)
theorem bX12_setClosed : vmB mX12_setClosed = cX12_setClosed := rfl
theorem rX12_setClosed_0 {x1 : Int} {x2 : Int} {x3 : Int} {h : vH} (s1 : shPL h) : vrun mX12_setClosed 0 [(1, 3), (0, x1), (0, x2), (0, x3), (9, 0), (9, 0), (9, 0), (9, 0)] [] h = vret vrun mX12_setClosed 2 [(1, 3), (0, x1), (0, x2), (0, x3), (9, 0), (9, 0), (9, 0), (9, 0)] [] (vcl mX12_paneOf [(1, 3), (0, x1)] h) := by
  refine (rn_aload_n (pc := 0) (dd bX12_setClosed dX12_setClosed_0) rfl).trans ?_
  refine (rn_iload_n (pc := 1) (dd bX12_setClosed dX12_setClosed_1) rfl).trans ?_
  exact rg_virtual (pc := 2) (dd bX12_setClosed dX12_setClosed_2) rfl rfl (by decide) (kc := 33) rfl s1.1 (as := [(1, 3), (0, x1)]) rfl ⟨Nat.le_of_ble_eq_true rfl, Nat.le_of_ble_eq_true rfl, Nat.le_of_ble_eq_true rfl, Nat.le_of_ble_eq_true rfl⟩
theorem rX12_setClosed_5 {x1 : Int} {x2 : Int} {x3 : Int} {y0 : Int} {h : vH} (s1 : shPane h y0) (s2 : ¬ (x2 < 0) → shList h (y0 + 1 + 3)) (p3 : ¬ (x2 < 0) → x2 < h 102 (y0 + 1 + 3) 0 → ¬ (x2 < 0)) (p4 : ¬ (x2 < 0) → x2 < h 102 (y0 + 1 + 3) 0 → h 0 (h 101 (y0 + 1 + 3) 0) 0 = 6) (p5 : ¬ (x2 < 0) → x2 < h 102 (y0 + 1 + 3) 0 → x2 < h 1 (h 101 (y0 + 1 + 3) 0) 0) (s6 : ¬ (x2 < 0) → x2 < h 102 (y0 + 1 + 3) 0 → shFold h (h 2 (h 101 (y0 + 1 + 3) 0) x2)) (p7 : ¬ (x2 < 0) → x2 < h 102 (y0 + 1 + 3) 0 → x3 = 0 ∨ x3 = 1) : vrun mX12_setClosed 5 [(1, 3), (0, x1), (0, x2), (0, x3), (9, 0), (9, 0), (9, 0), (9, 0)] [(1, y0)] h = if x2 < 0 then some (.inr "java/lang/IllegalArgumentException", vexc h) else if x2 < h 102 (y0 + 1 + 3) 0 then vret vrun mX12_setClosed 67 [(1, 3), (0, x1), (0, x2), (0, x3), (1, y0), (1, y0 + 1 + 3), (1, h 2 (h 101 (y0 + 1 + 3) 0) x2), (0, h 302 (h 2 (h 101 (y0 + 1 + 3) 0) x2) 0)] [] (vcl mX5_forgetFrom [(1, y0), (0, 0)] (vup h 302 (h 2 (h 101 (y0 + 1 + 3) 0) x2) 0 x3)) else some (.inr "java/lang/IllegalArgumentException", vexc h) := by
  refine (rn_astore (pc := 5) (dd bX12_setClosed dX12_setClosed_5) (Nat.le_of_ble_eq_true rfl) rfl).trans ?_
  refine (rn_aload (pc := 7) (dd bX12_setClosed dX12_setClosed_7) rfl).trans ?_
  refine (rg_gf (pc := 9) (dd bX12_setClosed dX12_setClosed_9) (ci := 6) (j := 1) rfl rfl (key := 701) rfl (kc := 26) rfl s1.1 s1.2.2.1).trans ?_
  refine (rg_gf (pc := 12) (dd bX12_setClosed dX12_setClosed_12) (ci := 3) (j := 2) rfl rfl (key := 402) rfl (kc := 23) rfl s1.2.2.2.1.1 s1.2.2.2.1.2.2.2).trans ?_
  refine (rn_astore (pc := 15) (dd bX12_setClosed dX12_setClosed_15) (Nat.le_of_ble_eq_true rfl) rfl).trans ?_
  refine (rn_iload_n (pc := 17) (dd bX12_setClosed dX12_setClosed_17) rfl).trans ?_
  refine (rn_if_lt (t := 30) (pc := 18) (dd bX12_setClosed dX12_setClosed_18) rfl).trans (itec (fun c1 => ?_) (fun c1 => ?_))
  · exact rn_throw (pc := 30) (dd bX12_setClosed dX12_setClosed_30) rfl (vthrows_m bX12_setClosed (vthrows_s dX12_setClosed_30 dX12_setClosed_33 dX12_setClosed_34 dX12_setClosed_36 dX12_setClosed_39)) ⟨rfl, rfl, rfl, Nat.le_of_ble_eq_true rfl, Nat.le_of_ble_eq_true rfl⟩
  · refine (rn_iload_n (pc := 21) (dd bX12_setClosed dX12_setClosed_21) rfl).trans ?_
    refine (rn_aload (pc := 22) (dd bX12_setClosed dX12_setClosed_22) rfl).trans ?_
    refine (rg_virtual (pc := 24) (dd bX12_setClosed dX12_setClosed_24) rfl rfl (by decide) (kc := 20) rfl (s2 c1) (as := [(1, y0 + 1 + 3)]) rfl ⟨Nat.le_of_ble_eq_true rfl, Nat.le_of_ble_eq_true rfl, Nat.le_of_ble_eq_true rfl, Nat.le_of_ble_eq_true rfl⟩).trans ?_
    refine (vret_v (spJx4a65c_size_8abf5 (s2 c1))).trans ?_
    refine (rn_icmp_lt (t := 40) (pc := 27) (dd bX12_setClosed dX12_setClosed_27) rfl).trans (itec (fun c2 => ?_) (fun c2 => ?_))
    · refine (rn_aload (pc := 40) (dd bX12_setClosed dX12_setClosed_40) rfl).trans ?_
      refine (rn_iload_n (pc := 42) (dd bX12_setClosed dX12_setClosed_42) rfl).trans ?_
      refine (rg_virtual (pc := 43) (dd bX12_setClosed dX12_setClosed_43) rfl rfl (by decide) (kc := 20) rfl (s2 c1) (as := [(1, y0 + 1 + 3), (0, x2)]) rfl ⟨Nat.le_of_ble_eq_true rfl, Nat.le_of_ble_eq_true rfl, Nat.le_of_ble_eq_true rfl, Nat.le_of_ble_eq_true rfl⟩).trans ?_
      refine (vret_v (spJx4a65c_get_915e3 (s2 c1) (p3 c1 c2) c2 (p4 c1 c2) (Int.not_lt.mp c1) (p5 c1 c2))).trans ?_
      refine (rg_cast (pc := 46) (dd bX12_setClosed dX12_setClosed_46) (ci := 2) rfl (kc := 22) rfl (s6 c1 c2)).trans ?_
      refine (rn_astore (pc := 49) (dd bX12_setClosed dX12_setClosed_49) (Nat.le_of_ble_eq_true rfl) rfl).trans ?_
      refine (rn_aload (pc := 51) (dd bX12_setClosed dX12_setClosed_51) rfl).trans ?_
      refine (rg_gf (pc := 53) (dd bX12_setClosed dX12_setClosed_53) (ci := 2) (j := 2) rfl rfl (key := 302) rfl (kc := 22) rfl (s6 c1 c2) rfl).trans ?_
      refine (rn_istore (pc := 56) (dd bX12_setClosed dX12_setClosed_56) (Nat.le_of_ble_eq_true rfl) rfl).trans ?_
      refine (rn_aload (pc := 58) (dd bX12_setClosed dX12_setClosed_58) rfl).trans ?_
      refine (rn_iload_n (pc := 60) (dd bX12_setClosed dX12_setClosed_60) rfl).trans ?_
      refine (rg_pf (pc := 61) (dd bX12_setClosed dX12_setClosed_61) (ci := 2) (j := 2) rfl (key := 302) rfl (kc := 22) rfl (s6 c1 c2) rfl (fun _ => (p7 c1 c2)) (by decide)).trans ?_
      refine (rn_aload (pc := 64) (dd bX12_setClosed dX12_setClosed_64) rfl).trans ?_
      refine (rn_iconst (pc := 66) (dd bX12_setClosed dX12_setClosed_66) (by decide)).trans ?_
      exact rg_virtual (pc := 67) (dd bX12_setClosed dX12_setClosed_67) rfl rfl (by decide) (kc := 26) rfl ((vup_k (by decide)).trans s1.1) (as := [(1, y0), (0, 0)]) rfl ⟨Nat.le_of_ble_eq_true rfl, Nat.le_of_ble_eq_true rfl, Nat.le_of_ble_eq_true rfl, Nat.le_of_ble_eq_true rfl⟩
    · exact rn_throw (pc := 30) (dd bX12_setClosed dX12_setClosed_30) rfl (vthrows_m bX12_setClosed (vthrows_s dX12_setClosed_30 dX12_setClosed_33 dX12_setClosed_34 dX12_setClosed_36 dX12_setClosed_39)) ⟨rfl, rfl, rfl, Nat.le_of_ble_eq_true rfl, Nat.le_of_ble_eq_true rfl⟩
theorem rX12_setClosed_70 {x1 : Int} {x2 : Int} {x3 : Int} {x4 : Int} {x5 : Int} {x6 : Int} {x7 : Int} {h : vH} (p1 : x7 = 0 ∨ x7 = 1) : vrun mX12_setClosed 70 [(1, 3), (0, x1), (0, x2), (0, x3), (1, x4), (1, x5), (1, x6), (0, x7)] [] h = some (.inl (some (0, x7)), h) := by
  refine (rn_iload (pc := 70) (dd bX12_setClosed dX12_setClosed_70) rfl).trans ?_
  exact rn_ireturn (pc := 72) (dd bX12_setClosed dX12_setClosed_72) (Or.inr ⟨rfl, p1⟩)
theorem bX12_laidPane : vmB mX12_laidPane = cX12_laidPane := rfl
theorem rX12_laidPane_0 {x1 : Int} {h : vH} (s1 : shPL h) : vrun mX12_laidPane 0 [(1, 3), (0, x1), (9, 0)] [] h = vret vrun mX12_laidPane 2 [(1, 3), (0, x1), (9, 0)] [] (vcl mX12_paneOf [(1, 3), (0, x1)] h) := by
  refine (rn_aload_n (pc := 0) (dd bX12_laidPane dX12_laidPane_0) rfl).trans ?_
  refine (rn_iload_n (pc := 1) (dd bX12_laidPane dX12_laidPane_1) rfl).trans ?_
  exact rg_virtual (pc := 2) (dd bX12_laidPane dX12_laidPane_2) rfl rfl (by decide) (kc := 33) rfl s1.1 (as := [(1, 3), (0, x1)]) rfl ⟨Nat.le_of_ble_eq_true rfl, Nat.le_of_ble_eq_true rfl, Nat.le_of_ble_eq_true rfl, Nat.le_of_ble_eq_true rfl⟩
theorem rX12_laidPane_5 {x1 : Int} {y0 : Int} {h : vH} (s1 : shPane h y0) : vrun mX12_laidPane 5 [(1, 3), (0, x1), (9, 0)] [(1, y0)] h = vret vrun mX12_laidPane 7 [(1, 3), (0, x1), (1, y0)] [] (vcl mX5_refresh [(1, y0)] h) := by
  refine (rn_astore_n (pc := 5) (dd bX12_laidPane dX12_laidPane_5) (Nat.le_of_ble_eq_true rfl) rfl).trans ?_
  refine (rn_aload_n (pc := 6) (dd bX12_laidPane dX12_laidPane_6) rfl).trans ?_
  exact rg_virtual (pc := 7) (dd bX12_laidPane dX12_laidPane_7) rfl rfl (by decide) (kc := 26) rfl s1.1 (as := [(1, y0)]) rfl ⟨Nat.le_of_ble_eq_true rfl, Nat.le_of_ble_eq_true rfl, Nat.le_of_ble_eq_true rfl, Nat.le_of_ble_eq_true rfl⟩
theorem rX12_laidPane_10 {x1 : Int} {x2 : Int} {h : vH} : vrun mX12_laidPane 10 [(1, 3), (0, x1), (1, x2)] [] h = some (.inl (some (1, x2)), h) := by
  refine (rn_aload_n (pc := 10) (dd bX12_laidPane dX12_laidPane_10) rfl).trans ?_
  exact rn_areturn (pc := 11) (dd bX12_laidPane dX12_laidPane_11) rfl
theorem bX12_rows : vmB mX12_rows = cX12_rows := rfl
theorem rX12_rows_0 {x1 : Int} {h : vH} (s1 : shPL h) : vrun mX12_rows 0 [(1, 3), (0, x1)] [] h = vret vrun mX12_rows 2 [(1, 3), (0, x1)] [] (vcl mX12_laidPane [(1, 3), (0, x1)] h) := by
  refine (rn_aload_n (pc := 0) (dd bX12_rows dX12_rows_0) rfl).trans ?_
  refine (rn_iload_n (pc := 1) (dd bX12_rows dX12_rows_1) rfl).trans ?_
  exact rg_virtual (pc := 2) (dd bX12_rows dX12_rows_2) rfl rfl (by decide) (kc := 33) rfl s1.1 (as := [(1, 3), (0, x1)]) rfl ⟨Nat.le_of_ble_eq_true rfl, Nat.le_of_ble_eq_true rfl, Nat.le_of_ble_eq_true rfl, Nat.le_of_ble_eq_true rfl⟩
theorem rX12_rows_5 {x1 : Int} {y0 : Int} {h : vH} (s1 : shPane h y0) : vrun mX12_rows 5 [(1, 3), (0, x1)] [(1, y0)] h = some (.inl (some (0, h 713 y0 0)), h) := by
  refine (rg_gf (pc := 5) (dd bX12_rows dX12_rows_5) (ci := 6) (j := 13) rfl rfl (key := 713) rfl (kc := 26) rfl s1.1 rfl).trans ?_
  exact rn_ireturn (pc := 8) (dd bX12_rows dX12_rows_8) (Or.inl rfl)
theorem bX12_rowsOf : vmB mX12_rowsOf = cX12_rowsOf := rfl
theorem rX12_rowsOf_0 {x1 : Int} {x2 : Int} {h : vH} (s1 : shPL h) : vrun mX12_rowsOf 0 [(1, 3), (0, x1), (0, x2), (9, 0)] [] h = vret vrun mX12_rowsOf 2 [(1, 3), (0, x1), (0, x2), (9, 0)] [] (vcl mX12_laidPane [(1, 3), (0, x1)] h) := by
  refine (rn_aload_n (pc := 0) (dd bX12_rowsOf dX12_rowsOf_0) rfl).trans ?_
  refine (rn_iload_n (pc := 1) (dd bX12_rowsOf dX12_rowsOf_1) rfl).trans ?_
  exact rg_virtual (pc := 2) (dd bX12_rowsOf dX12_rowsOf_2) rfl rfl (by decide) (kc := 33) rfl s1.1 (as := [(1, 3), (0, x1)]) rfl ⟨Nat.le_of_ble_eq_true rfl, Nat.le_of_ble_eq_true rfl, Nat.le_of_ble_eq_true rfl, Nat.le_of_ble_eq_true rfl⟩
theorem rX12_rowsOf_5 {x1 : Int} {x2 : Int} {y0 : Int} {h : vH} (s1 : shPL h) : vrun mX12_rowsOf 5 [(1, 3), (0, x1), (0, x2), (9, 0)] [(1, y0)] h = vret vrun mX12_rowsOf 8 [(1, 3), (0, x1), (0, x2), (1, y0)] [] (vcl mX12_checkLine [(1, 3), (0, x2)] h) := by
  refine (rn_astore_n (pc := 5) (dd bX12_rowsOf dX12_rowsOf_5) (Nat.le_of_ble_eq_true rfl) rfl).trans ?_
  refine (rn_aload_n (pc := 6) (dd bX12_rowsOf dX12_rowsOf_6) rfl).trans ?_
  refine (rn_iload_n (pc := 7) (dd bX12_rowsOf dX12_rowsOf_7) rfl).trans ?_
  exact rg_virtual (pc := 8) (dd bX12_rowsOf dX12_rowsOf_8) rfl rfl (by decide) (kc := 33) rfl s1.1 (as := [(1, 3), (0, x2)]) rfl ⟨Nat.le_of_ble_eq_true rfl, Nat.le_of_ble_eq_true rfl, Nat.le_of_ble_eq_true rfl, Nat.le_of_ble_eq_true rfl⟩
theorem rX12_rowsOf_11 {x1 : Int} {x2 : Int} {x3 : Int} {h : vH} (s1 : shPane h x3) : vrun mX12_rowsOf 11 [(1, 3), (0, x1), (0, x2), (1, x3)] [] h = some (.inl (some (0, fX5_rowCount h x3 x2)), h) := by
  refine (rn_aload_n (pc := 11) (dd bX12_rowsOf dX12_rowsOf_11) rfl).trans ?_
  refine (rn_iload_n (pc := 12) (dd bX12_rowsOf dX12_rowsOf_12) rfl).trans ?_
  refine (rg_virtual (pc := 13) (dd bX12_rowsOf dX12_rowsOf_13) rfl rfl (by decide) (kc := 26) rfl s1.1 (as := [(1, x3), (0, x2)]) rfl ⟨Nat.le_of_ble_eq_true rfl, Nat.le_of_ble_eq_true rfl, Nat.le_of_ble_eq_true rfl, Nat.le_of_ble_eq_true rfl⟩).trans ?_
  refine (vret_v (spX5_rowCount s1)).trans ?_
  exact rn_ireturn (pc := 16) (dd bX12_rowsOf dX12_rowsOf_16) (Or.inl rfl)
theorem bX12_checkRow : vmB mX12_checkRow = cX12_checkRow := rfl
theorem rX12_checkRow_0 {x1 : Int} {x2 : Int} {h : vH} (s1 : shPane h x1) : vrun mX12_checkRow 0 [(1, 3), (1, x1), (0, x2)] [] h = if x2 < 0 then some (.inr "java/lang/IndexOutOfBoundsException", vexc h) else if x2 < h 713 x1 0 then some (.inl none, h) else some (.inr "java/lang/IndexOutOfBoundsException", vexc h) := by
  refine (rn_iload_n (pc := 0) (dd bX12_checkRow dX12_checkRow_0) rfl).trans ?_
  refine (rn_if_lt (t := 12) (pc := 1) (dd bX12_checkRow dX12_checkRow_1) rfl).trans (itec (fun c1 => ?_) (fun c1 => ?_))
  · exact rn_throw (pc := 12) (dd bX12_checkRow dX12_checkRow_12) rfl (vthrows_m bX12_checkRow (vthrows_w dX12_checkRow_12 dX12_checkRow_15 dX12_checkRow_16 dX12_checkRow_19 dX12_checkRow_22)) ⟨rfl, rfl, rfl, Nat.le_of_ble_eq_true rfl, Nat.le_of_ble_eq_true rfl⟩
  · refine (rn_iload_n (pc := 4) (dd bX12_checkRow dX12_checkRow_4) rfl).trans ?_
    refine (rn_aload_n (pc := 5) (dd bX12_checkRow dX12_checkRow_5) rfl).trans ?_
    refine (rg_gf (pc := 6) (dd bX12_checkRow dX12_checkRow_6) (ci := 6) (j := 13) rfl rfl (key := 713) rfl (kc := 26) rfl s1.1 rfl).trans ?_
    refine (rn_icmp_lt (t := 23) (pc := 9) (dd bX12_checkRow dX12_checkRow_9) rfl).trans (itec (fun c2 => ?_) (fun c2 => ?_))
    · exact rn_return (pc := 23) (dd bX12_checkRow dX12_checkRow_23) rfl
    · exact rn_throw (pc := 12) (dd bX12_checkRow dX12_checkRow_12) rfl (vthrows_m bX12_checkRow (vthrows_w dX12_checkRow_12 dX12_checkRow_15 dX12_checkRow_16 dX12_checkRow_19 dX12_checkRow_22)) ⟨rfl, rfl, rfl, Nat.le_of_ble_eq_true rfl, Nat.le_of_ble_eq_true rfl⟩
theorem bX12_rowAt : vmB mX12_rowAt = cX12_rowAt := rfl
theorem rX12_rowAt_0 {x1 : Int} {x2 : Int} {x3 : Int} {x4 : Int} {h : vH} (s1 : shPL h) : vrun mX12_rowAt 0 [(1, 3), (0, x1), (0, x2), (0, x3), (0, x4), (9, 0)] [] h = vret vrun mX12_rowAt 2 [(1, 3), (0, x1), (0, x2), (0, x3), (0, x4), (9, 0)] [] (vcl mX12_laidPane [(1, 3), (0, x1)] h) := by
  refine (rn_aload_n (pc := 0) (dd bX12_rowAt dX12_rowAt_0) rfl).trans ?_
  refine (rn_iload_n (pc := 1) (dd bX12_rowAt dX12_rowAt_1) rfl).trans ?_
  exact rg_virtual (pc := 2) (dd bX12_rowAt dX12_rowAt_2) rfl rfl (by decide) (kc := 33) rfl s1.1 (as := [(1, 3), (0, x1)]) rfl ⟨Nat.le_of_ble_eq_true rfl, Nat.le_of_ble_eq_true rfl, Nat.le_of_ble_eq_true rfl, Nat.le_of_ble_eq_true rfl⟩
theorem rX12_rowAt_5 {x1 : Int} {x2 : Int} {x3 : Int} {x4 : Int} {y0 : Int} {h : vH} (s1 : shPL h) : vrun mX12_rowAt 5 [(1, 3), (0, x1), (0, x2), (0, x3), (0, x4), (9, 0)] [(1, y0)] h = vret vrun mX12_rowAt 12 [(1, 3), (0, x1), (0, x2), (0, x3), (0, x4), (1, y0)] [(0, 0), (0, x3), (1, 3)] (vcl mX12_lineOf [(1, 3), (0, x2)] h) := by
  refine (rn_astore (pc := 5) (dd bX12_rowAt dX12_rowAt_5) (Nat.le_of_ble_eq_true rfl) rfl).trans ?_
  refine (rn_aload_n (pc := 7) (dd bX12_rowAt dX12_rowAt_7) rfl).trans ?_
  refine (rn_iload_n (pc := 8) (dd bX12_rowAt dX12_rowAt_8) rfl).trans ?_
  refine (rn_iconst (pc := 9) (dd bX12_rowAt dX12_rowAt_9) (by decide)).trans ?_
  refine (rn_aload_n (pc := 10) (dd bX12_rowAt dX12_rowAt_10) rfl).trans ?_
  refine (rn_iload_n (pc := 11) (dd bX12_rowAt dX12_rowAt_11) rfl).trans ?_
  exact rg_virtual (pc := 12) (dd bX12_rowAt dX12_rowAt_12) rfl rfl (by decide) (kc := 33) rfl s1.1 (as := [(1, 3), (0, x2)]) rfl ⟨Nat.le_of_ble_eq_true rfl, Nat.le_of_ble_eq_true rfl, Nat.le_of_ble_eq_true rfl, Nat.le_of_ble_eq_true rfl⟩
theorem rX12_rowAt_15 {x1 : Int} {x2 : Int} {x3 : Int} {x4 : Int} {x5 : Int} {y0 : Int} {y1 : Int} {y2 : Int} {h : vH} (s1 : shLine h y0) (s2 : shPL h) : vrun mX12_rowAt 15 [(1, 3), (0, x1), (0, x2), (0, x3), (0, x4), (1, x5)] [(1, y0), (0, y1), (0, y2), (1, 3)] h = vret vrun mX12_rowAt 18 [(1, 3), (0, x1), (0, x2), (0, x3), (0, x4), (1, x5)] [] (vcl mX12_checkRange [(1, 3), (0, y2), (0, y1), (0, h 601 y0 0)] h) := by
  refine (rg_gf (pc := 15) (dd bX12_rowAt dX12_rowAt_15) (ci := 5) (j := 1) rfl rfl (key := 601) rfl (kc := 25) rfl s1.1 rfl).trans ?_
  exact rg_virtual (pc := 18) (dd bX12_rowAt dX12_rowAt_18) rfl rfl (by decide) (kc := 33) rfl s2.1 (as := [(1, 3), (0, y2), (0, y1), (0, h 601 y0 0)]) rfl ⟨Nat.le_of_ble_eq_true rfl, Nat.le_of_ble_eq_true rfl, Nat.le_of_ble_eq_true rfl, Nat.le_of_ble_eq_true rfl⟩
theorem rX12_rowAt_21 {x1 : Int} {x2 : Int} {x3 : Int} {x4 : Int} {x5 : Int} {h : vH} (s1 : shPL h) : vrun mX12_rowAt 21 [(1, 3), (0, x1), (0, x2), (0, x3), (0, x4), (1, x5)] [] h = vret vrun mX12_rowAt 26 [(1, 3), (0, x1), (0, x2), (0, x3), (0, x4), (1, x5)] [] (vcl mX12_checkRange [(1, 3), (0, x4), (0, 0), (0, 1)] h) := by
  refine (rn_aload_n (pc := 21) (dd bX12_rowAt dX12_rowAt_21) rfl).trans ?_
  refine (rn_iload (pc := 22) (dd bX12_rowAt dX12_rowAt_22) rfl).trans ?_
  refine (rn_iconst (pc := 24) (dd bX12_rowAt dX12_rowAt_24) (by decide)).trans ?_
  refine (rn_iconst (pc := 25) (dd bX12_rowAt dX12_rowAt_25) (by decide)).trans ?_
  exact rg_virtual (pc := 26) (dd bX12_rowAt dX12_rowAt_26) rfl rfl (by decide) (kc := 33) rfl s1.1 (as := [(1, 3), (0, x4), (0, 0), (0, 1)]) rfl ⟨Nat.le_of_ble_eq_true rfl, Nat.le_of_ble_eq_true rfl, Nat.le_of_ble_eq_true rfl, Nat.le_of_ble_eq_true rfl⟩
theorem rX12_rowAt_29 {x1 : Int} {x2 : Int} {x3 : Int} {x4 : Int} {x5 : Int} {h : vH} (s1 : shPane h x5) : vrun mX12_rowAt 29 [(1, 3), (0, x1), (0, x2), (0, x3), (0, x4), (1, x5)] [] h = if fX5_rowCount h x5 x2 = 0 then some (.inl (some (0, (-1))), h) else vret vrun mX12_rowAt 48 [(1, 3), (0, x1), (0, x2), (0, x3), (0, x4), (1, x5)] [] (vcl mX5_rowDown [(1, x5), (0, x2), (0, x3), (0, x4)] h) := by
  refine (rn_aload (pc := 29) (dd bX12_rowAt dX12_rowAt_29) rfl).trans ?_
  refine (rn_iload_n (pc := 31) (dd bX12_rowAt dX12_rowAt_31) rfl).trans ?_
  refine (rg_virtual (pc := 32) (dd bX12_rowAt dX12_rowAt_32) rfl rfl (by decide) (kc := 26) rfl s1.1 (as := [(1, x5), (0, x2)]) rfl ⟨Nat.le_of_ble_eq_true rfl, Nat.le_of_ble_eq_true rfl, Nat.le_of_ble_eq_true rfl, Nat.le_of_ble_eq_true rfl⟩).trans ?_
  refine (vret_v (spX5_rowCount s1)).trans ?_
  refine (rg_if_ne (t := 42) (pc := 35) (dd bX12_rowAt dX12_rowAt_35) rfl).trans (itec (fun c1 => ?_) (fun c1 => ?_))
  · refine (rn_iconst (pc := 38) (dd bX12_rowAt dX12_rowAt_38) (by decide)).trans ?_
    refine (rn_goto (t := 51) (pc := 39) (dd bX12_rowAt dX12_rowAt_39) rfl).trans ?_
    exact rn_ireturn (pc := 51) (dd bX12_rowAt dX12_rowAt_51) (Or.inl rfl)
  · refine (rn_aload (pc := 42) (dd bX12_rowAt dX12_rowAt_42) rfl).trans ?_
    refine (rn_iload_n (pc := 44) (dd bX12_rowAt dX12_rowAt_44) rfl).trans ?_
    refine (rn_iload_n (pc := 45) (dd bX12_rowAt dX12_rowAt_45) rfl).trans ?_
    refine (rn_iload (pc := 46) (dd bX12_rowAt dX12_rowAt_46) rfl).trans ?_
    exact rg_virtual (pc := 48) (dd bX12_rowAt dX12_rowAt_48) rfl rfl (by decide) (kc := 26) rfl s1.1 (as := [(1, x5), (0, x2), (0, x3), (0, x4)]) rfl ⟨Nat.le_of_ble_eq_true rfl, Nat.le_of_ble_eq_true rfl, Nat.le_of_ble_eq_true rfl, Nat.le_of_ble_eq_true rfl⟩
theorem rX12_rowAt_51 {x1 : Int} {x2 : Int} {x3 : Int} {x4 : Int} {x5 : Int} {y0 : Int} {h : vH} : vrun mX12_rowAt 51 [(1, 3), (0, x1), (0, x2), (0, x3), (0, x4), (1, x5)] [(0, y0)] h = some (.inl (some (0, y0)), h) := by
  exact rn_ireturn (pc := 51) (dd bX12_rowAt dX12_rowAt_51) (Or.inl rfl)
theorem bX12_lineAt : vmB mX12_lineAt = cX12_lineAt := rfl
theorem rX12_lineAt_0 {x1 : Int} {x2 : Int} {h : vH} (s1 : shPL h) : vrun mX12_lineAt 0 [(1, 3), (0, x1), (0, x2), (9, 0)] [] h = vret vrun mX12_lineAt 2 [(1, 3), (0, x1), (0, x2), (9, 0)] [] (vcl mX12_laidPane [(1, 3), (0, x1)] h) := by
  refine (rn_aload_n (pc := 0) (dd bX12_lineAt dX12_lineAt_0) rfl).trans ?_
  refine (rn_iload_n (pc := 1) (dd bX12_lineAt dX12_lineAt_1) rfl).trans ?_
  exact rg_virtual (pc := 2) (dd bX12_lineAt dX12_lineAt_2) rfl rfl (by decide) (kc := 33) rfl s1.1 (as := [(1, 3), (0, x1)]) rfl ⟨Nat.le_of_ble_eq_true rfl, Nat.le_of_ble_eq_true rfl, Nat.le_of_ble_eq_true rfl, Nat.le_of_ble_eq_true rfl⟩
theorem rX12_lineAt_5 {x1 : Int} {x2 : Int} {y0 : Int} {h : vH} (s1 : shPL h) : vrun mX12_lineAt 5 [(1, 3), (0, x1), (0, x2), (9, 0)] [(1, y0)] h = vret vrun mX12_lineAt 9 [(1, 3), (0, x1), (0, x2), (1, y0)] [] (vcl mX12_checkRow [(1, 3), (1, y0), (0, x2)] h) := by
  refine (rn_astore_n (pc := 5) (dd bX12_lineAt dX12_lineAt_5) (Nat.le_of_ble_eq_true rfl) rfl).trans ?_
  refine (rn_aload_n (pc := 6) (dd bX12_lineAt dX12_lineAt_6) rfl).trans ?_
  refine (rn_aload_n (pc := 7) (dd bX12_lineAt dX12_lineAt_7) rfl).trans ?_
  refine (rn_iload_n (pc := 8) (dd bX12_lineAt dX12_lineAt_8) rfl).trans ?_
  exact rg_virtual (pc := 9) (dd bX12_lineAt dX12_lineAt_9) rfl rfl (by decide) (kc := 33) rfl s1.1 (as := [(1, 3), (1, y0), (0, x2)]) rfl ⟨Nat.le_of_ble_eq_true rfl, Nat.le_of_ble_eq_true rfl, Nat.le_of_ble_eq_true rfl, Nat.le_of_ble_eq_true rfl⟩
theorem rX12_lineAt_12 {x1 : Int} {x2 : Int} {x3 : Int} {h : vH} (s1 : shPane h x3) : vrun mX12_lineAt 12 [(1, 3), (0, x1), (0, x2), (1, x3)] [] h = vret vrun mX12_lineAt 14 [(1, 3), (0, x1), (0, x2), (1, x3)] [] (vcl mX5_lineOfRow [(1, x3), (0, x2)] h) := by
  refine (rn_aload_n (pc := 12) (dd bX12_lineAt dX12_lineAt_12) rfl).trans ?_
  refine (rn_iload_n (pc := 13) (dd bX12_lineAt dX12_lineAt_13) rfl).trans ?_
  exact rg_virtual (pc := 14) (dd bX12_lineAt dX12_lineAt_14) rfl rfl (by decide) (kc := 26) rfl s1.1 (as := [(1, x3), (0, x2)]) rfl ⟨Nat.le_of_ble_eq_true rfl, Nat.le_of_ble_eq_true rfl, Nat.le_of_ble_eq_true rfl, Nat.le_of_ble_eq_true rfl⟩
theorem rX12_lineAt_17 {x1 : Int} {x2 : Int} {x3 : Int} {y0 : Int} {h : vH} : vrun mX12_lineAt 17 [(1, 3), (0, x1), (0, x2), (1, x3)] [(0, y0)] h = some (.inl (some (0, y0)), h) := by
  exact rn_ireturn (pc := 17) (dd bX12_lineAt dX12_lineAt_17) (Or.inl rfl)
theorem bX12_checkPane : vmB mX12_checkPane = cX12_checkPane := rfl
theorem rX12_checkPane_0 {x1 : Int} {h : vH} : vrun mX12_checkPane 0 [(1, 3), (0, x1)] [] h = if x1 < 0 then some (.inr "java/lang/IndexOutOfBoundsException", vexc h) else if x1 < 4 then some (.inl none, h) else some (.inr "java/lang/IndexOutOfBoundsException", vexc h) := by
  refine (rn_iload_n (pc := 0) (dd bX12_checkPane dX12_checkPane_0) rfl).trans ?_
  refine (rn_if_lt (t := 9) (pc := 1) (dd bX12_checkPane dX12_checkPane_1) rfl).trans (itec (fun c1 => ?_) (fun c1 => ?_))
  · exact rn_throw (pc := 9) (dd bX12_checkPane dX12_checkPane_9) rfl (vthrows_m bX12_checkPane (vthrows_w dX12_checkPane_9 dX12_checkPane_12 dX12_checkPane_13 dX12_checkPane_16 dX12_checkPane_19)) ⟨rfl, rfl, rfl, Nat.le_of_ble_eq_true rfl, Nat.le_of_ble_eq_true rfl⟩
  · refine (rn_iload_n (pc := 4) (dd bX12_checkPane dX12_checkPane_4) rfl).trans ?_
    refine (rn_iconst (pc := 5) (dd bX12_checkPane dX12_checkPane_5) (by decide)).trans ?_
    refine (rn_icmp_lt (t := 20) (pc := 6) (dd bX12_checkPane dX12_checkPane_6) rfl).trans (itec (fun c2 => ?_) (fun c2 => ?_))
    · exact rn_return (pc := 20) (dd bX12_checkPane dX12_checkPane_20) rfl
    · exact rn_throw (pc := 9) (dd bX12_checkPane dX12_checkPane_9) rfl (vthrows_m bX12_checkPane (vthrows_w dX12_checkPane_9 dX12_checkPane_12 dX12_checkPane_13 dX12_checkPane_16 dX12_checkPane_19)) ⟨rfl, rfl, rfl, Nat.le_of_ble_eq_true rfl, Nat.le_of_ble_eq_true rfl⟩
theorem bX12_open : vmB mX12_open = cX12_open := rfl
theorem rX12_open_0 {x1 : Int} {h : vH} (s1 : shPL h) : vrun mX12_open 0 [(1, 3), (0, x1)] [] h = vret vrun mX12_open 2 [(1, 3), (0, x1)] [] (vcl mX12_checkPane [(1, 3), (0, x1)] h) := by
  refine (rn_aload_n (pc := 0) (dd bX12_open dX12_open_0) rfl).trans ?_
  refine (rn_iload_n (pc := 1) (dd bX12_open dX12_open_1) rfl).trans ?_
  exact rg_virtual (pc := 2) (dd bX12_open dX12_open_2) rfl rfl (by decide) (kc := 33) rfl s1.1 (as := [(1, 3), (0, x1)]) rfl ⟨Nat.le_of_ble_eq_true rfl, Nat.le_of_ble_eq_true rfl, Nat.le_of_ble_eq_true rfl, Nat.le_of_ble_eq_true rfl⟩
theorem rX12_open_5 {x1 : Int} {h : vH} (s1 : shPL h) (s2 : shStack h) (p3 : ¬ (x1 < 0) ∧ ¬ (4 ≤ x1) → 0 ≤ x1) (p4 : ¬ (x1 < 0) ∧ ¬ (4 ≤ x1) → x1 < 4) : vrun mX12_open 5 [(1, 3), (0, x1)] [] h = if fX9_isOpen h x1 = 0 then vret vrun mX12_open 22 [(1, 3), (0, x1)] [(1, 3)] (vcl mX9_hasRoomFor [(1, 127), (0, x1)] h) else vret vrun mX12_open 33 [(1, 3), (0, x1)] [] (vcl mX12_checkState [(1, 3), (0, 0)] h) := by
  refine (rn_aload_n (pc := 5) (dd bX12_open dX12_open_5) rfl).trans ?_
  refine (rn_aload_n (pc := 6) (dd bX12_open dX12_open_6) rfl).trans ?_
  refine (rg_gf (pc := 7) (dd bX12_open dX12_open_7) (ci := 13) (j := 2) rfl rfl (key := 1402) rfl (kc := 33) rfl s1.1 s1.2.2.2.2.2.2.1).trans ?_
  refine (rn_iload_n (pc := 10) (dd bX12_open dX12_open_10) rfl).trans ?_
  refine (rg_virtual (pc := 11) (dd bX12_open dX12_open_11) rfl rfl (by decide) (kc := 30) rfl s2.1 (as := [(1, 127), (0, x1)]) rfl ⟨Nat.le_of_ble_eq_true rfl, Nat.le_of_ble_eq_true rfl, Nat.le_of_ble_eq_true rfl, Nat.le_of_ble_eq_true rfl⟩).trans ?_
  refine (vret_v (spX9_isOpen s2 p3 p4)).trans ?_
  refine (rg_if_ne (t := 32) (pc := 14) (dd bX12_open dX12_open_14) rfl).trans (itec (fun c1 => ?_) (fun c1 => ?_))
  · refine (rn_aload_n (pc := 17) (dd bX12_open dX12_open_17) rfl).trans ?_
    refine (rg_gf (pc := 18) (dd bX12_open dX12_open_18) (ci := 13) (j := 2) rfl rfl (key := 1402) rfl (kc := 33) rfl s1.1 s1.2.2.2.2.2.2.1).trans ?_
    refine (rn_iload_n (pc := 21) (dd bX12_open dX12_open_21) rfl).trans ?_
    exact rg_virtual (pc := 22) (dd bX12_open dX12_open_22) rfl rfl (by decide) (kc := 30) rfl s2.1 (as := [(1, 127), (0, x1)]) rfl ⟨Nat.le_of_ble_eq_true rfl, Nat.le_of_ble_eq_true rfl, Nat.le_of_ble_eq_true rfl, Nat.le_of_ble_eq_true rfl⟩
  · refine (rn_iconst (pc := 32) (dd bX12_open dX12_open_32) (by decide)).trans ?_
    exact rg_virtual (pc := 33) (dd bX12_open dX12_open_33) rfl rfl (by decide) (kc := 33) rfl s1.1 (as := [(1, 3), (0, 0)]) rfl ⟨Nat.le_of_ble_eq_true rfl, Nat.le_of_ble_eq_true rfl, Nat.le_of_ble_eq_true rfl, Nat.le_of_ble_eq_true rfl⟩
theorem rX12_open_25 {x1 : Int} {y0 : Int} {h : vH} (s1 : shPL h) : vrun mX12_open 25 [(1, 3), (0, x1)] [(0, y0), (1, 3)] h = vret vrun mX12_open 33 [(1, 3), (0, x1)] [] (vcl mX12_checkState [(1, 3), (0, (if ¬ (y0 = 0) then 1 else 0))] h) := by
  have e1 : vrun mX12_open 25 [(1, 3), (0, x1)] [(0, y0), (1, 3)] h = vrun mX12_open 33 [(1, 3), (0, x1)] [(0, (if ¬ (y0 = 0) then 1 else 0)), (1, 3)] h := by
    refine (rn_if_eq (t := 32) (pc := 25) (dd bX12_open dX12_open_25) rfl).trans ?_
    by_cases c1 : y0 = 0
    · refine (if_pos c1).trans ?_
      refine (rn_iconst (pc := 32) (dd bX12_open dX12_open_32) (by decide)).trans ?_
      refine Eq.trans (b := vrun mX12_open 33 [(1, 3), (0, x1)] [(0, 0), (1, 3)] h) rfl ?_
      simp only [c1, true_or, false_or, or_true, or_false, true_and, false_and, and_true, and_false, not_true_eq_false, not_false_eq_true, ne_eq, if_true, if_false, ↓reduceIte]
    · refine (if_neg c1).trans ?_
      refine (rn_iconst (pc := 28) (dd bX12_open dX12_open_28) (by decide)).trans ?_
      refine (rn_goto (t := 33) (pc := 29) (dd bX12_open dX12_open_29) rfl).trans ?_
      refine Eq.trans (b := vrun mX12_open 33 [(1, 3), (0, x1)] [(0, 1), (1, 3)] h) rfl ?_
      simp only [c1, true_or, false_or, or_true, or_false, true_and, false_and, and_true, and_false, not_true_eq_false, not_false_eq_true, ne_eq, if_true, if_false, ↓reduceIte]
  refine e1.trans ?_
  exact rg_virtual (pc := 33) (dd bX12_open dX12_open_33) rfl rfl (by decide) (kc := 33) rfl s1.1 (as := [(1, 3), (0, (if ¬ (y0 = 0) then 1 else 0))]) rfl ⟨Nat.le_of_ble_eq_true rfl, Nat.le_of_ble_eq_true rfl, Nat.le_of_ble_eq_true rfl, Nat.le_of_ble_eq_true rfl⟩
theorem rX12_open_36 {x1 : Int} {h : vH} (s1 : shPL h) (s2 : shStack h) : vrun mX12_open 36 [(1, 3), (0, x1)] [] h = vret vrun mX12_open 42 [(1, 3), (0, x1)] [] (vcl mX9_setOpen [(1, 127), (0, x1), (0, 1)] h) := by
  refine (rn_aload_n (pc := 36) (dd bX12_open dX12_open_36) rfl).trans ?_
  refine (rg_gf (pc := 37) (dd bX12_open dX12_open_37) (ci := 13) (j := 2) rfl rfl (key := 1402) rfl (kc := 33) rfl s1.1 s1.2.2.2.2.2.2.1).trans ?_
  refine (rn_iload_n (pc := 40) (dd bX12_open dX12_open_40) rfl).trans ?_
  refine (rn_iconst (pc := 41) (dd bX12_open dX12_open_41) (by decide)).trans ?_
  exact rg_virtual (pc := 42) (dd bX12_open dX12_open_42) rfl rfl (by decide) (kc := 30) rfl s2.1 (as := [(1, 127), (0, x1), (0, 1)]) rfl ⟨Nat.le_of_ble_eq_true rfl, Nat.le_of_ble_eq_true rfl, Nat.le_of_ble_eq_true rfl, Nat.le_of_ble_eq_true rfl⟩
theorem rX12_open_45 {x1 : Int} {h : vH} (s1 : shPL h) (s2 : shStack h) (p3 : ¬ (x1 < 0) ∧ ¬ (4 ≤ x1) → 0 ≤ x1) (p4 : ¬ (x1 < 0) ∧ ¬ (4 ≤ x1) → x1 < 4) : vrun mX12_open 45 [(1, 3), (0, x1)] [] h = some (.inl (some (0, fX9_heightOf h x1)), h) := by
  refine (rn_aload_n (pc := 45) (dd bX12_open dX12_open_45) rfl).trans ?_
  refine (rg_gf (pc := 46) (dd bX12_open dX12_open_46) (ci := 13) (j := 2) rfl rfl (key := 1402) rfl (kc := 33) rfl s1.1 s1.2.2.2.2.2.2.1).trans ?_
  refine (rn_iload_n (pc := 49) (dd bX12_open dX12_open_49) rfl).trans ?_
  refine (rg_virtual (pc := 50) (dd bX12_open dX12_open_50) rfl rfl (by decide) (kc := 30) rfl s2.1 (as := [(1, 127), (0, x1)]) rfl ⟨Nat.le_of_ble_eq_true rfl, Nat.le_of_ble_eq_true rfl, Nat.le_of_ble_eq_true rfl, Nat.le_of_ble_eq_true rfl⟩).trans ?_
  refine (vret_v (spX9_heightOf s2 p3 p4)).trans ?_
  exact rn_ireturn (pc := 53) (dd bX12_open dX12_open_53) (Or.inl rfl)
theorem bX12_close : vmB mX12_close = cX12_close := rfl
theorem rX12_close_0 {x1 : Int} {h : vH} (s1 : shPL h) : vrun mX12_close 0 [(1, 3), (0, x1)] [] h = vret vrun mX12_close 2 [(1, 3), (0, x1)] [] (vcl mX12_checkPane [(1, 3), (0, x1)] h) := by
  refine (rn_aload_n (pc := 0) (dd bX12_close dX12_close_0) rfl).trans ?_
  refine (rn_iload_n (pc := 1) (dd bX12_close dX12_close_1) rfl).trans ?_
  exact rg_virtual (pc := 2) (dd bX12_close dX12_close_2) rfl rfl (by decide) (kc := 33) rfl s1.1 (as := [(1, 3), (0, x1)]) rfl ⟨Nat.le_of_ble_eq_true rfl, Nat.le_of_ble_eq_true rfl, Nat.le_of_ble_eq_true rfl, Nat.le_of_ble_eq_true rfl⟩
theorem rX12_close_5 {x1 : Int} {h : vH} (s1 : shPL h) (s2 : shStack h) (p3 : ¬ (x1 < 0) ∧ ¬ (4 ≤ x1) → 0 ≤ x1) (p4 : ¬ (x1 < 0) ∧ ¬ (4 ≤ x1) → x1 < 4) : vrun mX12_close 5 [(1, 3), (0, x1)] [] h = if fX9_isOpen h x1 = 0 then vret vrun mX12_close 33 [(1, 3), (0, x1)] [] (vcl mX12_checkState [(1, 3), (0, 0)] h) else vret vrun mX12_close 21 [(1, 3), (0, x1)] [(1, 3)] (vcl mX9_openOnes [(1, 127)] h) := by
  refine (rn_aload_n (pc := 5) (dd bX12_close dX12_close_5) rfl).trans ?_
  refine (rn_aload_n (pc := 6) (dd bX12_close dX12_close_6) rfl).trans ?_
  refine (rg_gf (pc := 7) (dd bX12_close dX12_close_7) (ci := 13) (j := 2) rfl rfl (key := 1402) rfl (kc := 33) rfl s1.1 s1.2.2.2.2.2.2.1).trans ?_
  refine (rn_iload_n (pc := 10) (dd bX12_close dX12_close_10) rfl).trans ?_
  refine (rg_virtual (pc := 11) (dd bX12_close dX12_close_11) rfl rfl (by decide) (kc := 30) rfl s2.1 (as := [(1, 127), (0, x1)]) rfl ⟨Nat.le_of_ble_eq_true rfl, Nat.le_of_ble_eq_true rfl, Nat.le_of_ble_eq_true rfl, Nat.le_of_ble_eq_true rfl⟩).trans ?_
  refine (vret_v (spX9_isOpen s2 p3 p4)).trans ?_
  refine (rn_if_eq (t := 32) (pc := 14) (dd bX12_close dX12_close_14) rfl).trans (itec (fun c1 => ?_) (fun c1 => ?_))
  · refine (rn_iconst (pc := 32) (dd bX12_close dX12_close_32) (by decide)).trans ?_
    exact rg_virtual (pc := 33) (dd bX12_close dX12_close_33) rfl rfl (by decide) (kc := 33) rfl s1.1 (as := [(1, 3), (0, 0)]) rfl ⟨Nat.le_of_ble_eq_true rfl, Nat.le_of_ble_eq_true rfl, Nat.le_of_ble_eq_true rfl, Nat.le_of_ble_eq_true rfl⟩
  · refine (rn_aload_n (pc := 17) (dd bX12_close dX12_close_17) rfl).trans ?_
    refine (rg_gf (pc := 18) (dd bX12_close dX12_close_18) (ci := 13) (j := 2) rfl rfl (key := 1402) rfl (kc := 33) rfl s1.1 s1.2.2.2.2.2.2.1).trans ?_
    exact rg_virtual (pc := 21) (dd bX12_close dX12_close_21) rfl rfl (by decide) (kc := 30) rfl s2.1 (as := [(1, 127)]) rfl ⟨Nat.le_of_ble_eq_true rfl, Nat.le_of_ble_eq_true rfl, Nat.le_of_ble_eq_true rfl, Nat.le_of_ble_eq_true rfl⟩
theorem rX12_close_36 {x1 : Int} {h : vH} (s1 : shPL h) (s2 : shStack h) : vrun mX12_close 36 [(1, 3), (0, x1)] [] h = vret vrun mX12_close 42 [(1, 3), (0, x1)] [] (vcl mX9_setOpen [(1, 127), (0, x1), (0, 0)] h) := by
  refine (rn_aload_n (pc := 36) (dd bX12_close dX12_close_36) rfl).trans ?_
  refine (rg_gf (pc := 37) (dd bX12_close dX12_close_37) (ci := 13) (j := 2) rfl rfl (key := 1402) rfl (kc := 33) rfl s1.1 s1.2.2.2.2.2.2.1).trans ?_
  refine (rn_iload_n (pc := 40) (dd bX12_close dX12_close_40) rfl).trans ?_
  refine (rn_iconst (pc := 41) (dd bX12_close dX12_close_41) (by decide)).trans ?_
  exact rg_virtual (pc := 42) (dd bX12_close dX12_close_42) rfl rfl (by decide) (kc := 30) rfl s2.1 (as := [(1, 127), (0, x1), (0, 0)]) rfl ⟨Nat.le_of_ble_eq_true rfl, Nat.le_of_ble_eq_true rfl, Nat.le_of_ble_eq_true rfl, Nat.le_of_ble_eq_true rfl⟩
theorem rX12_close_24 {x1 : Int} {y0 : Int} {h : vH} (s1 : shPL h) : vrun mX12_close 24 [(1, 3), (0, x1)] [(0, y0), (1, 3)] h = vret vrun mX12_close 33 [(1, 3), (0, x1)] [] (vcl mX12_checkState [(1, 3), (0, (if ¬ (y0 ≤ 1) then 1 else 0))] h) := by
  refine (rn_iconst (pc := 24) (dd bX12_close dX12_close_24) (by decide)).trans ?_
  have e1 : vrun mX12_close 25 [(1, 3), (0, x1)] [(0, 1), (0, y0), (1, 3)] h = vrun mX12_close 33 [(1, 3), (0, x1)] [(0, (if ¬ (y0 ≤ 1) then 1 else 0)), (1, 3)] h := by
    refine (rn_icmp_le (t := 32) (pc := 25) (dd bX12_close dX12_close_25) rfl).trans ?_
    by_cases c1 : y0 ≤ 1
    · refine (if_pos c1).trans ?_
      refine (rn_iconst (pc := 32) (dd bX12_close dX12_close_32) (by decide)).trans ?_
      refine Eq.trans (b := vrun mX12_close 33 [(1, 3), (0, x1)] [(0, 0), (1, 3)] h) rfl ?_
      simp only [c1, true_or, false_or, or_true, or_false, true_and, false_and, and_true, and_false, not_true_eq_false, not_false_eq_true, ne_eq, if_true, if_false, ↓reduceIte]
    · refine (if_neg c1).trans ?_
      refine (rn_iconst (pc := 28) (dd bX12_close dX12_close_28) (by decide)).trans ?_
      refine (rn_goto (t := 33) (pc := 29) (dd bX12_close dX12_close_29) rfl).trans ?_
      refine Eq.trans (b := vrun mX12_close 33 [(1, 3), (0, x1)] [(0, 1), (1, 3)] h) rfl ?_
      simp only [c1, true_or, false_or, or_true, or_false, true_and, false_and, and_true, and_false, not_true_eq_false, not_false_eq_true, ne_eq, if_true, if_false, ↓reduceIte]
  refine e1.trans ?_
  exact rg_virtual (pc := 33) (dd bX12_close dX12_close_33) rfl rfl (by decide) (kc := 33) rfl s1.1 (as := [(1, 3), (0, (if ¬ (y0 ≤ 1) then 1 else 0))]) rfl ⟨Nat.le_of_ble_eq_true rfl, Nat.le_of_ble_eq_true rfl, Nat.le_of_ble_eq_true rfl, Nat.le_of_ble_eq_true rfl⟩
theorem rX12_close_45 {x1 : Int} {h : vH} (s1 : shPL h) (s2 : shStack h) : vrun mX12_close 45 [(1, 3), (0, x1)] [] h = vret vrun mX12_close 49 [(1, 3), (0, x1)] [] (vcl mX9_openOnes [(1, 127)] h) := by
  refine (rn_aload_n (pc := 45) (dd bX12_close dX12_close_45) rfl).trans ?_
  refine (rg_gf (pc := 46) (dd bX12_close dX12_close_46) (ci := 13) (j := 2) rfl rfl (key := 1402) rfl (kc := 33) rfl s1.1 s1.2.2.2.2.2.2.1).trans ?_
  exact rg_virtual (pc := 49) (dd bX12_close dX12_close_49) rfl rfl (by decide) (kc := 30) rfl s2.1 (as := [(1, 127)]) rfl ⟨Nat.le_of_ble_eq_true rfl, Nat.le_of_ble_eq_true rfl, Nat.le_of_ble_eq_true rfl, Nat.le_of_ble_eq_true rfl⟩
theorem rX12_close_52 {x1 : Int} {y0 : Int} {h : vH} : vrun mX12_close 52 [(1, 3), (0, x1)] [(0, y0)] h = some (.inl (some (0, y0)), h) := by
  exact rn_ireturn (pc := 52) (dd bX12_close dX12_close_52) (Or.inl rfl)
theorem bX12_share : vmB mX12_share = cX12_share := rfl
theorem rX12_share_0 {x1 : Int} {x2 : Int} {x3 : Int} {x4 : Int} {h : vH} (s1 : shPL h) : vrun mX12_share 0 [(1, 3), (0, x1), (0, x2), (0, x3), (0, x4)] [] h = vret vrun mX12_share 2 [(1, 3), (0, x1), (0, x2), (0, x3), (0, x4)] [] (vcl mX12_checkPane [(1, 3), (0, x1)] h) := by
  refine (rn_aload_n (pc := 0) (dd bX12_share dX12_share_0) rfl).trans ?_
  refine (rn_iload_n (pc := 1) (dd bX12_share dX12_share_1) rfl).trans ?_
  exact rg_virtual (pc := 2) (dd bX12_share dX12_share_2) rfl rfl (by decide) (kc := 33) rfl s1.1 (as := [(1, 3), (0, x1)]) rfl ⟨Nat.le_of_ble_eq_true rfl, Nat.le_of_ble_eq_true rfl, Nat.le_of_ble_eq_true rfl, Nat.le_of_ble_eq_true rfl⟩
theorem rX12_share_5 {x1 : Int} {x2 : Int} {x3 : Int} {x4 : Int} {h : vH} (s1 : shPL h) : vrun mX12_share 5 [(1, 3), (0, x1), (0, x2), (0, x3), (0, x4)] [] h = vret vrun mX12_share 10 [(1, 3), (0, x1), (0, x2), (0, x3), (0, x4)] [] (vcl mX12_checkRange [(1, 3), (0, x2), (0, 1), (0, 9)] h) := by
  refine (rn_aload_n (pc := 5) (dd bX12_share dX12_share_5) rfl).trans ?_
  refine (rn_iload_n (pc := 6) (dd bX12_share dX12_share_6) rfl).trans ?_
  refine (rn_iconst (pc := 7) (dd bX12_share dX12_share_7) (by decide)).trans ?_
  refine (rn_bipush (pc := 8) (dd bX12_share dX12_share_8) (by decide)).trans ?_
  exact rg_virtual (pc := 10) (dd bX12_share dX12_share_10) rfl rfl (by decide) (kc := 33) rfl s1.1 (as := [(1, 3), (0, x2), (0, 1), (0, 9)]) rfl ⟨Nat.le_of_ble_eq_true rfl, Nat.le_of_ble_eq_true rfl, Nat.le_of_ble_eq_true rfl, Nat.le_of_ble_eq_true rfl⟩
theorem rX12_share_13 {x1 : Int} {x2 : Int} {x3 : Int} {x4 : Int} {h : vH} (s1 : shPL h) : vrun mX12_share 13 [(1, 3), (0, x1), (0, x2), (0, x3), (0, x4)] [] h = vret vrun mX12_share 18 [(1, 3), (0, x1), (0, x2), (0, x3), (0, x4)] [] (vcl mX12_checkRange [(1, 3), (0, x3), (0, 1), (0, 8)] h) := by
  refine (rn_aload_n (pc := 13) (dd bX12_share dX12_share_13) rfl).trans ?_
  refine (rn_iload_n (pc := 14) (dd bX12_share dX12_share_14) rfl).trans ?_
  refine (rn_iconst (pc := 15) (dd bX12_share dX12_share_15) (by decide)).trans ?_
  refine (rn_bipush (pc := 16) (dd bX12_share dX12_share_16) (by decide)).trans ?_
  exact rg_virtual (pc := 18) (dd bX12_share dX12_share_18) rfl rfl (by decide) (kc := 33) rfl s1.1 (as := [(1, 3), (0, x3), (0, 1), (0, 8)]) rfl ⟨Nat.le_of_ble_eq_true rfl, Nat.le_of_ble_eq_true rfl, Nat.le_of_ble_eq_true rfl, Nat.le_of_ble_eq_true rfl⟩
theorem rX12_share_21 {x1 : Int} {x2 : Int} {x3 : Int} {x4 : Int} {h : vH} (s1 : shPL h) (s2 : shStack h) (p3 : x4 = (-1) → ¬ (x1 < 0) ∧ ¬ (4 ≤ x1) → 0 ≤ x1) (p4 : x4 = (-1) → ¬ (x1 < 0) ∧ ¬ (4 ≤ x1) → x1 < 4) : vrun mX12_share 21 [(1, 3), (0, x1), (0, x2), (0, x3), (0, x4)] [] h = if x4 = (-1) then if fX9_isOpen h x1 = 0 then vret vrun mX12_share 76 [(1, 3), (0, x1), (0, x2), (0, x3), (0, x4)] [] (vcl mX12_checkState [(1, 3), (0, 1)] h) else vret vrun mX12_share 65 [(1, 3), (0, x1), (0, x2), (0, x3), (0, x4)] [(1, 3)] (vcl mX9_hasRoomFor_ [(1, 127), (0, x1), (0, (if x4 = (-1) then x3 else x4))] h) else vret vrun mX12_share 33 [(1, 3), (0, x1), (0, x2), (0, x3), (0, x4)] [] (vcl mX12_checkRange [(1, 3), (0, x4), (0, 1), (0, 16)] h) := by
  refine (rn_iload (pc := 21) (dd bX12_share dX12_share_21) rfl).trans ?_
  refine (rn_iconst (pc := 23) (dd bX12_share dX12_share_23) (by decide)).trans ?_
  refine (rn_icmp_eq (t := 36) (pc := 24) (dd bX12_share dX12_share_24) rfl).trans (itec (fun c1 => ?_) (fun c1 => ?_))
  · refine (rn_aload_n (pc := 36) (dd bX12_share dX12_share_36) rfl).trans ?_
    refine (rn_aload_n (pc := 37) (dd bX12_share dX12_share_37) rfl).trans ?_
    refine (rg_gf (pc := 38) (dd bX12_share dX12_share_38) (ci := 13) (j := 2) rfl rfl (key := 1402) rfl (kc := 33) rfl s1.1 s1.2.2.2.2.2.2.1).trans ?_
    refine (rn_iload_n (pc := 41) (dd bX12_share dX12_share_41) rfl).trans ?_
    refine (rg_virtual (pc := 42) (dd bX12_share dX12_share_42) rfl rfl (by decide) (kc := 30) rfl s2.1 (as := [(1, 127), (0, x1)]) rfl ⟨Nat.le_of_ble_eq_true rfl, Nat.le_of_ble_eq_true rfl, Nat.le_of_ble_eq_true rfl, Nat.le_of_ble_eq_true rfl⟩).trans ?_
    refine (vret_v (spX9_isOpen s2 (p3 c1) (p4 c1))).trans ?_
    refine (rn_if_eq (t := 71) (pc := 45) (dd bX12_share dX12_share_45) rfl).trans (itec (fun c2 => ?_) (fun c2 => ?_))
    · refine (rn_iconst (pc := 71) (dd bX12_share dX12_share_71) (by decide)).trans ?_
      refine (rn_goto (t := 76) (pc := 72) (dd bX12_share dX12_share_72) rfl).trans ?_
      exact rg_virtual (pc := 76) (dd bX12_share dX12_share_76) rfl rfl (by decide) (kc := 33) rfl s1.1 (as := [(1, 3), (0, 1)]) rfl ⟨Nat.le_of_ble_eq_true rfl, Nat.le_of_ble_eq_true rfl, Nat.le_of_ble_eq_true rfl, Nat.le_of_ble_eq_true rfl⟩
    · refine (rn_aload_n (pc := 48) (dd bX12_share dX12_share_48) rfl).trans ?_
      refine (rg_gf (pc := 49) (dd bX12_share dX12_share_49) (ci := 13) (j := 2) rfl rfl (key := 1402) rfl (kc := 33) rfl s1.1 s1.2.2.2.2.2.2.1).trans ?_
      refine (rn_iload_n (pc := 52) (dd bX12_share dX12_share_52) rfl).trans ?_
      refine (rn_iload (pc := 53) (dd bX12_share dX12_share_53) rfl).trans ?_
      refine (rn_iconst (pc := 55) (dd bX12_share dX12_share_55) (by decide)).trans ?_
      have e1 : vrun mX12_share 56 [(1, 3), (0, x1), (0, x2), (0, x3), (0, x4)] [(0, (-1)), (0, x4), (0, x1), (1, 127), (1, 3)] h = vrun mX12_share 65 [(1, 3), (0, x1), (0, x2), (0, x3), (0, x4)] [(0, (if x4 = (-1) then x3 else x4)), (0, x1), (1, 127), (1, 3)] h := by
        refine (rg_icmp_ne (t := 63) (pc := 56) (dd bX12_share dX12_share_56) rfl).trans ?_
        by_cases c3 : x4 = (-1)
        · refine (if_pos c3).trans ?_
          refine (rn_iload_n (pc := 59) (dd bX12_share dX12_share_59) rfl).trans ?_
          refine (rn_goto (t := 65) (pc := 60) (dd bX12_share dX12_share_60) rfl).trans ?_
          refine Eq.trans (b := vrun mX12_share 65 [(1, 3), (0, x1), (0, x2), (0, x3), (0, x4)] [(0, x3), (0, x1), (1, 127), (1, 3)] h) rfl ?_
          simp only [if_pos c3]
        · refine (if_neg c3).trans ?_
          refine (rn_iload (pc := 63) (dd bX12_share dX12_share_63) rfl).trans ?_
          refine Eq.trans (b := vrun mX12_share 65 [(1, 3), (0, x1), (0, x2), (0, x3), (0, x4)] [(0, x4), (0, x1), (1, 127), (1, 3)] h) rfl ?_
          simp only [if_neg c3]
      refine e1.trans ?_
      exact rg_virtual (pc := 65) (dd bX12_share dX12_share_65) rfl rfl (by decide) (kc := 30) rfl s2.1 (as := [(1, 127), (0, x1), (0, (if x4 = (-1) then x3 else x4))]) rfl ⟨Nat.le_of_ble_eq_true rfl, Nat.le_of_ble_eq_true rfl, Nat.le_of_ble_eq_true rfl, Nat.le_of_ble_eq_true rfl⟩
  · refine (rn_aload_n (pc := 27) (dd bX12_share dX12_share_27) rfl).trans ?_
    refine (rn_iload (pc := 28) (dd bX12_share dX12_share_28) rfl).trans ?_
    refine (rn_iconst (pc := 30) (dd bX12_share dX12_share_30) (by decide)).trans ?_
    refine (rn_bipush (pc := 31) (dd bX12_share dX12_share_31) (by decide)).trans ?_
    exact rg_virtual (pc := 33) (dd bX12_share dX12_share_33) rfl rfl (by decide) (kc := 33) rfl s1.1 (as := [(1, 3), (0, x4), (0, 1), (0, 16)]) rfl ⟨Nat.le_of_ble_eq_true rfl, Nat.le_of_ble_eq_true rfl, Nat.le_of_ble_eq_true rfl, Nat.le_of_ble_eq_true rfl⟩
theorem rX12_share_79 {x1 : Int} {x2 : Int} {x3 : Int} {x4 : Int} {h : vH} (s1 : shPL h) (s2 : shStack h) : vrun mX12_share 79 [(1, 3), (0, x1), (0, x2), (0, x3), (0, x4)] [] h = vret vrun mX12_share 88 [(1, 3), (0, x1), (0, x2), (0, x3), (0, x4)] [] (vcl mX9_setShare [(1, 127), (0, x1), (0, x2), (0, x3), (0, x4)] h) := by
  refine (rn_aload_n (pc := 79) (dd bX12_share dX12_share_79) rfl).trans ?_
  refine (rg_gf (pc := 80) (dd bX12_share dX12_share_80) (ci := 13) (j := 2) rfl rfl (key := 1402) rfl (kc := 33) rfl s1.1 s1.2.2.2.2.2.2.1).trans ?_
  refine (rn_iload_n (pc := 83) (dd bX12_share dX12_share_83) rfl).trans ?_
  refine (rn_iload_n (pc := 84) (dd bX12_share dX12_share_84) rfl).trans ?_
  refine (rn_iload_n (pc := 85) (dd bX12_share dX12_share_85) rfl).trans ?_
  refine (rn_iload (pc := 86) (dd bX12_share dX12_share_86) rfl).trans ?_
  exact rg_virtual (pc := 88) (dd bX12_share dX12_share_88) rfl rfl (by decide) (kc := 30) rfl s2.1 (as := [(1, 127), (0, x1), (0, x2), (0, x3), (0, x4)]) rfl ⟨Nat.le_of_ble_eq_true rfl, Nat.le_of_ble_eq_true rfl, Nat.le_of_ble_eq_true rfl, Nat.le_of_ble_eq_true rfl⟩
theorem rX12_share_68 {x1 : Int} {x2 : Int} {x3 : Int} {x4 : Int} {y0 : Int} {h : vH} (s1 : shPL h) : vrun mX12_share 68 [(1, 3), (0, x1), (0, x2), (0, x3), (0, x4)] [(0, y0), (1, 3)] h = vret vrun mX12_share 76 [(1, 3), (0, x1), (0, x2), (0, x3), (0, x4)] [] (vcl mX12_checkState [(1, 3), (0, (if ¬ (y0 = 0) then 1 else 0))] h) := by
  have e1 : vrun mX12_share 68 [(1, 3), (0, x1), (0, x2), (0, x3), (0, x4)] [(0, y0), (1, 3)] h = vrun mX12_share 76 [(1, 3), (0, x1), (0, x2), (0, x3), (0, x4)] [(0, (if ¬ (y0 = 0) then 1 else 0)), (1, 3)] h := by
    refine (rn_if_eq (t := 75) (pc := 68) (dd bX12_share dX12_share_68) rfl).trans ?_
    by_cases c1 : y0 = 0
    · refine (if_pos c1).trans ?_
      refine (rn_iconst (pc := 75) (dd bX12_share dX12_share_75) (by decide)).trans ?_
      refine Eq.trans (b := vrun mX12_share 76 [(1, 3), (0, x1), (0, x2), (0, x3), (0, x4)] [(0, 0), (1, 3)] h) rfl ?_
      simp only [c1, true_or, false_or, or_true, or_false, true_and, false_and, and_true, and_false, not_true_eq_false, not_false_eq_true, ne_eq, if_true, if_false, ↓reduceIte]
    · refine (if_neg c1).trans ?_
      refine (rn_iconst (pc := 71) (dd bX12_share dX12_share_71) (by decide)).trans ?_
      refine (rn_goto (t := 76) (pc := 72) (dd bX12_share dX12_share_72) rfl).trans ?_
      refine Eq.trans (b := vrun mX12_share 76 [(1, 3), (0, x1), (0, x2), (0, x3), (0, x4)] [(0, 1), (1, 3)] h) rfl ?_
      simp only [c1, true_or, false_or, or_true, or_false, true_and, false_and, and_true, and_false, not_true_eq_false, not_false_eq_true, ne_eq, if_true, if_false, ↓reduceIte]
  refine e1.trans ?_
  exact rg_virtual (pc := 76) (dd bX12_share dX12_share_76) rfl rfl (by decide) (kc := 33) rfl s1.1 (as := [(1, 3), (0, (if ¬ (y0 = 0) then 1 else 0))]) rfl ⟨Nat.le_of_ble_eq_true rfl, Nat.le_of_ble_eq_true rfl, Nat.le_of_ble_eq_true rfl, Nat.le_of_ble_eq_true rfl⟩
theorem rX12_share_36 {x1 : Int} {x2 : Int} {x3 : Int} {x4 : Int} {h : vH} (s1 : shPL h) (s2 : shStack h) (p3 : ¬ (x1 < 0) ∧ ¬ (4 ≤ x1) → 0 ≤ x1) (p4 : ¬ (x1 < 0) ∧ ¬ (4 ≤ x1) → x1 < 4) : vrun mX12_share 36 [(1, 3), (0, x1), (0, x2), (0, x3), (0, x4)] [] h = if fX9_isOpen h x1 = 0 then vret vrun mX12_share 76 [(1, 3), (0, x1), (0, x2), (0, x3), (0, x4)] [] (vcl mX12_checkState [(1, 3), (0, 1)] h) else vret vrun mX12_share 65 [(1, 3), (0, x1), (0, x2), (0, x3), (0, x4)] [(1, 3)] (vcl mX9_hasRoomFor_ [(1, 127), (0, x1), (0, (if x4 = (-1) then x3 else x4))] h) := by
  refine (rn_aload_n (pc := 36) (dd bX12_share dX12_share_36) rfl).trans ?_
  refine (rn_aload_n (pc := 37) (dd bX12_share dX12_share_37) rfl).trans ?_
  refine (rg_gf (pc := 38) (dd bX12_share dX12_share_38) (ci := 13) (j := 2) rfl rfl (key := 1402) rfl (kc := 33) rfl s1.1 s1.2.2.2.2.2.2.1).trans ?_
  refine (rn_iload_n (pc := 41) (dd bX12_share dX12_share_41) rfl).trans ?_
  refine (rg_virtual (pc := 42) (dd bX12_share dX12_share_42) rfl rfl (by decide) (kc := 30) rfl s2.1 (as := [(1, 127), (0, x1)]) rfl ⟨Nat.le_of_ble_eq_true rfl, Nat.le_of_ble_eq_true rfl, Nat.le_of_ble_eq_true rfl, Nat.le_of_ble_eq_true rfl⟩).trans ?_
  refine (vret_v (spX9_isOpen s2 p3 p4)).trans ?_
  refine (rn_if_eq (t := 71) (pc := 45) (dd bX12_share dX12_share_45) rfl).trans (itec (fun c1 => ?_) (fun c1 => ?_))
  · refine (rn_iconst (pc := 71) (dd bX12_share dX12_share_71) (by decide)).trans ?_
    refine (rn_goto (t := 76) (pc := 72) (dd bX12_share dX12_share_72) rfl).trans ?_
    exact rg_virtual (pc := 76) (dd bX12_share dX12_share_76) rfl rfl (by decide) (kc := 33) rfl s1.1 (as := [(1, 3), (0, 1)]) rfl ⟨Nat.le_of_ble_eq_true rfl, Nat.le_of_ble_eq_true rfl, Nat.le_of_ble_eq_true rfl, Nat.le_of_ble_eq_true rfl⟩
  · refine (rn_aload_n (pc := 48) (dd bX12_share dX12_share_48) rfl).trans ?_
    refine (rg_gf (pc := 49) (dd bX12_share dX12_share_49) (ci := 13) (j := 2) rfl rfl (key := 1402) rfl (kc := 33) rfl s1.1 s1.2.2.2.2.2.2.1).trans ?_
    refine (rn_iload_n (pc := 52) (dd bX12_share dX12_share_52) rfl).trans ?_
    refine (rn_iload (pc := 53) (dd bX12_share dX12_share_53) rfl).trans ?_
    refine (rn_iconst (pc := 55) (dd bX12_share dX12_share_55) (by decide)).trans ?_
    have e1 : vrun mX12_share 56 [(1, 3), (0, x1), (0, x2), (0, x3), (0, x4)] [(0, (-1)), (0, x4), (0, x1), (1, 127), (1, 3)] h = vrun mX12_share 65 [(1, 3), (0, x1), (0, x2), (0, x3), (0, x4)] [(0, (if x4 = (-1) then x3 else x4)), (0, x1), (1, 127), (1, 3)] h := by
      refine (rg_icmp_ne (t := 63) (pc := 56) (dd bX12_share dX12_share_56) rfl).trans ?_
      by_cases c2 : x4 = (-1)
      · refine (if_pos c2).trans ?_
        refine (rn_iload_n (pc := 59) (dd bX12_share dX12_share_59) rfl).trans ?_
        refine (rn_goto (t := 65) (pc := 60) (dd bX12_share dX12_share_60) rfl).trans ?_
        refine Eq.trans (b := vrun mX12_share 65 [(1, 3), (0, x1), (0, x2), (0, x3), (0, x4)] [(0, x3), (0, x1), (1, 127), (1, 3)] h) rfl ?_
        simp only [if_pos c2]
      · refine (if_neg c2).trans ?_
        refine (rn_iload (pc := 63) (dd bX12_share dX12_share_63) rfl).trans ?_
        refine Eq.trans (b := vrun mX12_share 65 [(1, 3), (0, x1), (0, x2), (0, x3), (0, x4)] [(0, x4), (0, x1), (1, 127), (1, 3)] h) rfl ?_
        simp only [if_neg c2]
    refine e1.trans ?_
    exact rg_virtual (pc := 65) (dd bX12_share dX12_share_65) rfl rfl (by decide) (kc := 30) rfl s2.1 (as := [(1, 127), (0, x1), (0, (if x4 = (-1) then x3 else x4))]) rfl ⟨Nat.le_of_ble_eq_true rfl, Nat.le_of_ble_eq_true rfl, Nat.le_of_ble_eq_true rfl, Nat.le_of_ble_eq_true rfl⟩
theorem rX12_share_91 {x1 : Int} {x2 : Int} {x3 : Int} {x4 : Int} {h : vH} (s1 : shPL h) (s2 : shStack h) (p3 : ¬ (x1 < 0) ∧ ¬ (4 ≤ x1) → 0 ≤ x1) (p4 : ¬ (x1 < 0) ∧ ¬ (4 ≤ x1) → x1 < 4) : vrun mX12_share 91 [(1, 3), (0, x1), (0, x2), (0, x3), (0, x4)] [] h = some (.inl (some (0, fX9_heightOf h x1)), h) := by
  refine (rn_aload_n (pc := 91) (dd bX12_share dX12_share_91) rfl).trans ?_
  refine (rg_gf (pc := 92) (dd bX12_share dX12_share_92) (ci := 13) (j := 2) rfl rfl (key := 1402) rfl (kc := 33) rfl s1.1 s1.2.2.2.2.2.2.1).trans ?_
  refine (rn_iload_n (pc := 95) (dd bX12_share dX12_share_95) rfl).trans ?_
  refine (rg_virtual (pc := 96) (dd bX12_share dX12_share_96) rfl rfl (by decide) (kc := 30) rfl s2.1 (as := [(1, 127), (0, x1)]) rfl ⟨Nat.le_of_ble_eq_true rfl, Nat.le_of_ble_eq_true rfl, Nat.le_of_ble_eq_true rfl, Nat.le_of_ble_eq_true rfl⟩).trans ?_
  refine (vret_v (spX9_heightOf s2 p3 p4)).trans ?_
  exact rn_ireturn (pc := 99) (dd bX12_share dX12_share_99) (Or.inl rfl)
theorem bX12_height : vmB mX12_height = cX12_height := rfl
theorem rX12_height_0 {x1 : Int} {h : vH} (s1 : shPL h) : vrun mX12_height 0 [(1, 3), (0, x1)] [] h = vret vrun mX12_height 2 [(1, 3), (0, x1)] [] (vcl mX12_checkPane [(1, 3), (0, x1)] h) := by
  refine (rn_aload_n (pc := 0) (dd bX12_height dX12_height_0) rfl).trans ?_
  refine (rn_iload_n (pc := 1) (dd bX12_height dX12_height_1) rfl).trans ?_
  exact rg_virtual (pc := 2) (dd bX12_height dX12_height_2) rfl rfl (by decide) (kc := 33) rfl s1.1 (as := [(1, 3), (0, x1)]) rfl ⟨Nat.le_of_ble_eq_true rfl, Nat.le_of_ble_eq_true rfl, Nat.le_of_ble_eq_true rfl, Nat.le_of_ble_eq_true rfl⟩
theorem rX12_height_5 {x1 : Int} {h : vH} (s1 : shPL h) (s2 : shStack h) (p3 : ¬ (x1 < 0) ∧ ¬ (4 ≤ x1) → 0 ≤ x1) (p4 : ¬ (x1 < 0) ∧ ¬ (4 ≤ x1) → x1 < 4) : vrun mX12_height 5 [(1, 3), (0, x1)] [] h = some (.inl (some (0, fX9_heightOf h x1)), h) := by
  refine (rn_aload_n (pc := 5) (dd bX12_height dX12_height_5) rfl).trans ?_
  refine (rg_gf (pc := 6) (dd bX12_height dX12_height_6) (ci := 13) (j := 2) rfl rfl (key := 1402) rfl (kc := 33) rfl s1.1 s1.2.2.2.2.2.2.1).trans ?_
  refine (rn_iload_n (pc := 9) (dd bX12_height dX12_height_9) rfl).trans ?_
  refine (rg_virtual (pc := 10) (dd bX12_height dX12_height_10) rfl rfl (by decide) (kc := 30) rfl s2.1 (as := [(1, 127), (0, x1)]) rfl ⟨Nat.le_of_ble_eq_true rfl, Nat.le_of_ble_eq_true rfl, Nat.le_of_ble_eq_true rfl, Nat.le_of_ble_eq_true rfl⟩).trans ?_
  refine (vret_v (spX9_heightOf s2 p3 p4)).trans ?_
  exact rn_ireturn (pc := 13) (dd bX12_height dX12_height_13) (Or.inl rfl)
theorem bX12_put : vmB mX12_put = cX12_put := rfl
theorem rX12_put_0 {x1 : Int} {x2 : Int} {x3 : Int} {h : vH} (s1 : shPL h) : vrun mX12_put 0 [(1, 3), (0, x1), (0, x2), (0, x3), (9, 0)] [] h = vret vrun mX12_put 2 [(1, 3), (0, x1), (0, x2), (0, x3), (9, 0)] [] (vcl mX12_laidPane [(1, 3), (0, x1)] h) := by
  refine (rn_aload_n (pc := 0) (dd bX12_put dX12_put_0) rfl).trans ?_
  refine (rn_iload_n (pc := 1) (dd bX12_put dX12_put_1) rfl).trans ?_
  exact rg_virtual (pc := 2) (dd bX12_put dX12_put_2) rfl rfl (by decide) (kc := 33) rfl s1.1 (as := [(1, 3), (0, x1)]) rfl ⟨Nat.le_of_ble_eq_true rfl, Nat.le_of_ble_eq_true rfl, Nat.le_of_ble_eq_true rfl, Nat.le_of_ble_eq_true rfl⟩
theorem rX12_put_5 {x1 : Int} {x2 : Int} {x3 : Int} {y0 : Int} {h : vH} (s1 : shPL h) : vrun mX12_put 5 [(1, 3), (0, x1), (0, x2), (0, x3), (9, 0)] [(1, y0)] h = vret vrun mX12_put 12 [(1, 3), (0, x1), (0, x2), (0, x3), (1, y0)] [(0, 0), (0, x3), (1, 3)] (vcl mX12_lineOf [(1, 3), (0, x2)] h) := by
  refine (rn_astore (pc := 5) (dd bX12_put dX12_put_5) (Nat.le_of_ble_eq_true rfl) rfl).trans ?_
  refine (rn_aload_n (pc := 7) (dd bX12_put dX12_put_7) rfl).trans ?_
  refine (rn_iload_n (pc := 8) (dd bX12_put dX12_put_8) rfl).trans ?_
  refine (rn_iconst (pc := 9) (dd bX12_put dX12_put_9) (by decide)).trans ?_
  refine (rn_aload_n (pc := 10) (dd bX12_put dX12_put_10) rfl).trans ?_
  refine (rn_iload_n (pc := 11) (dd bX12_put dX12_put_11) rfl).trans ?_
  exact rg_virtual (pc := 12) (dd bX12_put dX12_put_12) rfl rfl (by decide) (kc := 33) rfl s1.1 (as := [(1, 3), (0, x2)]) rfl ⟨Nat.le_of_ble_eq_true rfl, Nat.le_of_ble_eq_true rfl, Nat.le_of_ble_eq_true rfl, Nat.le_of_ble_eq_true rfl⟩
theorem rX12_put_15 {x1 : Int} {x2 : Int} {x3 : Int} {x4 : Int} {y0 : Int} {y1 : Int} {y2 : Int} {h : vH} (s1 : shLine h y0) (s2 : shPL h) : vrun mX12_put 15 [(1, 3), (0, x1), (0, x2), (0, x3), (1, x4)] [(1, y0), (0, y1), (0, y2), (1, 3)] h = vret vrun mX12_put 18 [(1, 3), (0, x1), (0, x2), (0, x3), (1, x4)] [] (vcl mX12_checkRange [(1, 3), (0, y2), (0, y1), (0, h 601 y0 0)] h) := by
  refine (rg_gf (pc := 15) (dd bX12_put dX12_put_15) (ci := 5) (j := 1) rfl rfl (key := 601) rfl (kc := 25) rfl s1.1 rfl).trans ?_
  exact rg_virtual (pc := 18) (dd bX12_put dX12_put_18) rfl rfl (by decide) (kc := 33) rfl s2.1 (as := [(1, 3), (0, y2), (0, y1), (0, h 601 y0 0)]) rfl ⟨Nat.le_of_ble_eq_true rfl, Nat.le_of_ble_eq_true rfl, Nat.le_of_ble_eq_true rfl, Nat.le_of_ble_eq_true rfl⟩
theorem rX12_put_21 {x1 : Int} {x2 : Int} {x3 : Int} {x4 : Int} {h : vH} (s1 : shPL h) (s2 : shStack h) (p3 : ¬ (x1 < 0) ∧ ¬ (4 ≤ x1) → 0 ≤ x1) (p4 : ¬ (x1 < 0) ∧ ¬ (4 ≤ x1) → x1 < 4) (s5 : shPane h x4) : vrun mX12_put 21 [(1, 3), (0, x1), (0, x2), (0, x3), (1, x4)] [] h = vret vrun mX12_put 47 [(1, 3), (0, x1), (0, x2), (0, x3), (1, x4)] [] (vcl mX12_checkState [(1, 3), (0, (if ¬ (fX9_isOpen h x1 = 0) ∧ ¬ (fX5_rowCount h x4 x2 ≤ 0) then 1 else 0))] h) := by
  refine (rn_aload_n (pc := 21) (dd bX12_put dX12_put_21) rfl).trans ?_
  refine (rn_aload_n (pc := 22) (dd bX12_put dX12_put_22) rfl).trans ?_
  refine (rg_gf (pc := 23) (dd bX12_put dX12_put_23) (ci := 13) (j := 2) rfl rfl (key := 1402) rfl (kc := 33) rfl s1.1 s1.2.2.2.2.2.2.1).trans ?_
  refine (rn_iload_n (pc := 26) (dd bX12_put dX12_put_26) rfl).trans ?_
  refine (rg_virtual (pc := 27) (dd bX12_put dX12_put_27) rfl rfl (by decide) (kc := 30) rfl s2.1 (as := [(1, 127), (0, x1)]) rfl ⟨Nat.le_of_ble_eq_true rfl, Nat.le_of_ble_eq_true rfl, Nat.le_of_ble_eq_true rfl, Nat.le_of_ble_eq_true rfl⟩).trans ?_
  refine (vret_v (spX9_isOpen s2 p3 p4)).trans ?_
  have e2 : vrun mX12_put 30 [(1, 3), (0, x1), (0, x2), (0, x3), (1, x4)] [(0, fX9_isOpen h x1), (1, 3)] h = vrun mX12_put 47 [(1, 3), (0, x1), (0, x2), (0, x3), (1, x4)] [(0, (if ¬ (fX9_isOpen h x1 = 0) ∧ ¬ (fX5_rowCount h x4 x2 ≤ 0) then 1 else 0)), (1, 3)] h := by
    refine (rn_if_eq (t := 46) (pc := 30) (dd bX12_put dX12_put_30) rfl).trans ?_
    by_cases c1 : fX9_isOpen h x1 = 0
    · refine (if_pos c1).trans ?_
      refine (rn_iconst (pc := 46) (dd bX12_put dX12_put_46) (by decide)).trans ?_
      refine Eq.trans (b := vrun mX12_put 47 [(1, 3), (0, x1), (0, x2), (0, x3), (1, x4)] [(0, 0), (1, 3)] h) rfl ?_
      simp only [c1, true_or, false_or, or_true, or_false, true_and, false_and, and_true, and_false, not_true_eq_false, not_false_eq_true, ne_eq, if_true, if_false, ↓reduceIte]
    · refine (if_neg c1).trans ?_
      refine (rn_aload (pc := 33) (dd bX12_put dX12_put_33) rfl).trans ?_
      refine (rn_iload_n (pc := 35) (dd bX12_put dX12_put_35) rfl).trans ?_
      refine (rg_virtual (pc := 36) (dd bX12_put dX12_put_36) rfl rfl (by decide) (kc := 26) rfl s5.1 (as := [(1, x4), (0, x2)]) rfl ⟨Nat.le_of_ble_eq_true rfl, Nat.le_of_ble_eq_true rfl, Nat.le_of_ble_eq_true rfl, Nat.le_of_ble_eq_true rfl⟩).trans ?_
      refine (vret_v (spX5_rowCount s5)).trans ?_
      have e1 : vrun mX12_put 39 [(1, 3), (0, x1), (0, x2), (0, x3), (1, x4)] [(0, fX5_rowCount h x4 x2), (1, 3)] h = vrun mX12_put 47 [(1, 3), (0, x1), (0, x2), (0, x3), (1, x4)] [(0, (if ¬ (fX5_rowCount h x4 x2 ≤ 0) then 1 else 0)), (1, 3)] h := by
        refine (rn_if_le (t := 46) (pc := 39) (dd bX12_put dX12_put_39) rfl).trans ?_
        by_cases c2 : fX5_rowCount h x4 x2 ≤ 0
        · refine (if_pos c2).trans ?_
          refine (rn_iconst (pc := 46) (dd bX12_put dX12_put_46) (by decide)).trans ?_
          refine Eq.trans (b := vrun mX12_put 47 [(1, 3), (0, x1), (0, x2), (0, x3), (1, x4)] [(0, 0), (1, 3)] h) rfl ?_
          simp only [c2, true_or, false_or, or_true, or_false, true_and, false_and, and_true, and_false, not_true_eq_false, not_false_eq_true, ne_eq, if_true, if_false, ↓reduceIte]
        · refine (if_neg c2).trans ?_
          refine (rn_iconst (pc := 42) (dd bX12_put dX12_put_42) (by decide)).trans ?_
          refine (rn_goto (t := 47) (pc := 43) (dd bX12_put dX12_put_43) rfl).trans ?_
          refine Eq.trans (b := vrun mX12_put 47 [(1, 3), (0, x1), (0, x2), (0, x3), (1, x4)] [(0, 1), (1, 3)] h) rfl ?_
          simp only [c2, true_or, false_or, or_true, or_false, true_and, false_and, and_true, and_false, not_true_eq_false, not_false_eq_true, ne_eq, if_true, if_false, ↓reduceIte]
      refine e1.trans ?_
      refine Eq.trans (b := vrun mX12_put 47 [(1, 3), (0, x1), (0, x2), (0, x3), (1, x4)] [(0, (if ¬ (fX5_rowCount h x4 x2 ≤ 0) then 1 else 0)), (1, 3)] h) rfl ?_
      simp only [c1, true_or, false_or, or_true, or_false, true_and, false_and, and_true, and_false, not_true_eq_false, not_false_eq_true, ne_eq, if_true, if_false, ↓reduceIte]
  refine e2.trans ?_
  exact rg_virtual (pc := 47) (dd bX12_put dX12_put_47) rfl rfl (by decide) (kc := 33) rfl s1.1 (as := [(1, 3), (0, (if ¬ (fX9_isOpen h x1 = 0) ∧ ¬ (fX5_rowCount h x4 x2 ≤ 0) then 1 else 0))]) rfl ⟨Nat.le_of_ble_eq_true rfl, Nat.le_of_ble_eq_true rfl, Nat.le_of_ble_eq_true rfl, Nat.le_of_ble_eq_true rfl⟩
theorem rX12_put_50 {x1 : Int} {x2 : Int} {x3 : Int} {x4 : Int} {h : vH} (s1 : shPane h x4) : vrun mX12_put 50 [(1, 3), (0, x1), (0, x2), (0, x3), (1, x4)] [] h = vret vrun mX12_put 54 [(1, 3), (0, x1), (0, x2), (0, x3), (1, x4)] [] (vcl mX5_putCursor [(1, x4), (0, x2), (0, x3)] h) := by
  refine (rn_aload (pc := 50) (dd bX12_put dX12_put_50) rfl).trans ?_
  refine (rn_iload_n (pc := 52) (dd bX12_put dX12_put_52) rfl).trans ?_
  refine (rn_iload_n (pc := 53) (dd bX12_put dX12_put_53) rfl).trans ?_
  exact rg_virtual (pc := 54) (dd bX12_put dX12_put_54) rfl rfl (by decide) (kc := 26) rfl s1.1 (as := [(1, x4), (0, x2), (0, x3)]) rfl ⟨Nat.le_of_ble_eq_true rfl, Nat.le_of_ble_eq_true rfl, Nat.le_of_ble_eq_true rfl, Nat.le_of_ble_eq_true rfl⟩
theorem rX12_put_57 {x1 : Int} {x2 : Int} {x3 : Int} {x4 : Int} {h : vH} (s1 : shPL h) (s2 : shStack h) (p3 : ¬ (x1 < 0) ∧ ¬ (4 ≤ x1) → 0 ≤ x1) (p4 : ¬ (x1 < 0) ∧ ¬ (4 ≤ x1) → x1 < 4) (s5 : shPane h x4) : vrun mX12_put 57 [(1, 3), (0, x1), (0, x2), (0, x3), (1, x4)] [] h = vret vrun mX12_put 67 [(1, 3), (0, x1), (0, x2), (0, x3), (1, x4)] [] (vcl mX5_follow [(1, x4), (0, fX9_heightOf h x1)] h) := by
  refine (rn_aload (pc := 57) (dd bX12_put dX12_put_57) rfl).trans ?_
  refine (rn_aload_n (pc := 59) (dd bX12_put dX12_put_59) rfl).trans ?_
  refine (rg_gf (pc := 60) (dd bX12_put dX12_put_60) (ci := 13) (j := 2) rfl rfl (key := 1402) rfl (kc := 33) rfl s1.1 s1.2.2.2.2.2.2.1).trans ?_
  refine (rn_iload_n (pc := 63) (dd bX12_put dX12_put_63) rfl).trans ?_
  refine (rg_virtual (pc := 64) (dd bX12_put dX12_put_64) rfl rfl (by decide) (kc := 30) rfl s2.1 (as := [(1, 127), (0, x1)]) rfl ⟨Nat.le_of_ble_eq_true rfl, Nat.le_of_ble_eq_true rfl, Nat.le_of_ble_eq_true rfl, Nat.le_of_ble_eq_true rfl⟩).trans ?_
  refine (vret_v (spX9_heightOf s2 p3 p4)).trans ?_
  exact rg_virtual (pc := 67) (dd bX12_put dX12_put_67) rfl rfl (by decide) (kc := 26) rfl s5.1 (as := [(1, x4), (0, fX9_heightOf h x1)]) rfl ⟨Nat.le_of_ble_eq_true rfl, Nat.le_of_ble_eq_true rfl, Nat.le_of_ble_eq_true rfl, Nat.le_of_ble_eq_true rfl⟩
theorem rX12_put_70 {x1 : Int} {x2 : Int} {x3 : Int} {x4 : Int} {h : vH} (s1 : shPane h x4) : vrun mX12_put 70 [(1, 3), (0, x1), (0, x2), (0, x3), (1, x4)] [] h = vret vrun mX12_put 72 [(1, 3), (0, x1), (0, x2), (0, x3), (1, x4)] [] (vcl mX5_cursorRow [(1, x4)] h) := by
  refine (rn_aload (pc := 70) (dd bX12_put dX12_put_70) rfl).trans ?_
  exact rg_virtual (pc := 72) (dd bX12_put dX12_put_72) rfl rfl (by decide) (kc := 26) rfl s1.1 (as := [(1, x4)]) rfl ⟨Nat.le_of_ble_eq_true rfl, Nat.le_of_ble_eq_true rfl, Nat.le_of_ble_eq_true rfl, Nat.le_of_ble_eq_true rfl⟩
theorem rX12_put_75 {x1 : Int} {x2 : Int} {x3 : Int} {x4 : Int} {y0 : Int} {h : vH} : vrun mX12_put 75 [(1, 3), (0, x1), (0, x2), (0, x3), (1, x4)] [(0, y0)] h = some (.inl (some (0, y0)), h) := by
  exact rn_ireturn (pc := 75) (dd bX12_put dX12_put_75) (Or.inl rfl)
theorem bX12_logMove : vmB mX12_logMove = cX12_logMove := rfl
theorem rX12_logMove_0 {x1 : Int} {x2 : Int} {h : vH} (s1 : shPL h) (p2 : (-2147483648) ≤ h 1406 3 0 + 1) (p3 : h 1406 3 0 + 1 < 2147483648) (p4 : 0 ≤ h 1406 3 0 + 1) (p5 : (-2147483648) ≤ h 1405 3 0 + 1) (p6 : h 1405 3 0 + 1 < 2147483648) : vrun mX12_logMove 0 [(1, 3), (0, x1), (0, x2)] [] h = some (.inl none, vup (vup (if h 1406 3 0 < 0 then h else (if 50 ≤ h 1406 3 0 then h else vup (vup h 2 134 (h 1406 3 0) x1) 2 135 (h 1406 3 0) x2)) 1406 3 0 ((h 1406 3 0 + 1) % 50)) 1405 3 0 (min (h 1405 3 0 + 1) 50)) := by
  refine (rn_aload_n (pc := 0) (dd bX12_logMove dX12_logMove_0) rfl).trans ?_
  refine (rg_gf (pc := 1) (dd bX12_logMove dX12_logMove_1) (ci := 13) (j := 6) rfl rfl (key := 1406) rfl (kc := 33) rfl s1.1 rfl).trans ?_
  have e2 : vrun mX12_logMove 4 [(1, 3), (0, x1), (0, x2)] [(0, h 1406 3 0)] h = vrun mX12_logMove 36 [(1, 3), (0, x1), (0, x2)] [] (if h 1406 3 0 < 0 then h else (if 50 ≤ h 1406 3 0 then h else vup (vup h 2 134 (h 1406 3 0) x1) 2 135 (h 1406 3 0) x2)) := by
    refine (rn_if_lt (t := 36) (pc := 4) (dd bX12_logMove dX12_logMove_4) rfl).trans ?_
    by_cases c1 : h 1406 3 0 < 0
    · refine (if_pos c1).trans ?_
      refine Eq.trans (b := vrun mX12_logMove 36 [(1, 3), (0, x1), (0, x2)] [] h) rfl ?_
      simp only [if_pos c1]
    · refine (if_neg c1).trans ?_
      refine (rn_aload_n (pc := 7) (dd bX12_logMove dX12_logMove_7) rfl).trans ?_
      refine (rg_gf (pc := 8) (dd bX12_logMove dX12_logMove_8) (ci := 13) (j := 6) rfl rfl (key := 1406) rfl (kc := 33) rfl s1.1 rfl).trans ?_
      refine (rn_bipush (pc := 11) (dd bX12_logMove dX12_logMove_11) (by decide)).trans ?_
      have e1 : vrun mX12_logMove 13 [(1, 3), (0, x1), (0, x2)] [(0, 50), (0, h 1406 3 0)] h = vrun mX12_logMove 36 [(1, 3), (0, x1), (0, x2)] [] (if 50 ≤ h 1406 3 0 then h else vup (vup h 2 134 (h 1406 3 0) x1) 2 135 (h 1406 3 0) x2) := by
        refine (rn_icmp_ge (t := 36) (pc := 13) (dd bX12_logMove dX12_logMove_13) rfl).trans ?_
        by_cases c2 : 50 ≤ h 1406 3 0
        · refine (if_pos c2).trans ?_
          refine Eq.trans (b := vrun mX12_logMove 36 [(1, 3), (0, x1), (0, x2)] [] h) rfl ?_
          simp only [if_pos c2]
        · refine (if_neg c2).trans ?_
          refine (rn_aload_n (pc := 16) (dd bX12_logMove dX12_logMove_16) rfl).trans ?_
          refine (rg_gf (pc := 17) (dd bX12_logMove dX12_logMove_17) (ci := 13) (j := 3) rfl rfl (key := 1403) rfl (kc := 33) rfl s1.1 s1.2.2.2.2.2.2.2.2.1).trans ?_
          refine (rn_aload_n (pc := 20) (dd bX12_logMove dX12_logMove_20) rfl).trans ?_
          refine (rg_gf (pc := 21) (dd bX12_logMove dX12_logMove_21) (ci := 13) (j := 6) rfl rfl (key := 1406) rfl (kc := 33) rfl s1.1 rfl).trans ?_
          refine (rn_iload_n (pc := 24) (dd bX12_logMove dX12_logMove_24) rfl).trans ?_
          refine (rg_iastore (pc := 25) (dd bX12_logMove dX12_logMove_25) s1.2.2.2.2.2.2.2.2.2.1 s1.2.2.2.2.2.2.2.2.2.2.1 (Int.not_lt.mp c1) (Int.not_le.mp c2)).trans ?_
          refine (rn_aload_n (pc := 26) (dd bX12_logMove dX12_logMove_26) rfl).trans ?_
          refine (rg_gf (pc := 27) (dd bX12_logMove dX12_logMove_27) (ci := 13) (j := 4) rfl rfl (key := 1404) rfl (kc := 33) rfl ((vup_k (by decide)).trans s1.1) ((vup_k (by decide)).trans s1.2.2.2.2.2.2.2.2.2.2.2.1)).trans ?_
          refine (rn_aload_n (pc := 30) (dd bX12_logMove dX12_logMove_30) rfl).trans ?_
          refine (rg_gf (pc := 31) (dd bX12_logMove dX12_logMove_31) (ci := 13) (j := 6) rfl rfl (key := 1406) rfl (kc := 33) rfl ((vup_k (by decide)).trans s1.1) ((vup_k (by decide)).trans rfl)).trans ?_
          refine (rn_iload_n (pc := 34) (dd bX12_logMove dX12_logMove_34) rfl).trans ?_
          refine (rg_iastore (pc := 35) (dd bX12_logMove dX12_logMove_35) ((vup_k (by decide)).trans s1.2.2.2.2.2.2.2.2.2.2.2.2.1) ((vup_k (by decide)).trans s1.2.2.2.2.2.2.2.2.2.2.2.2.2.1) (Int.not_lt.mp c1) (Int.not_le.mp c2)).trans ?_
          refine Eq.trans (b := vrun mX12_logMove 36 [(1, 3), (0, x1), (0, x2)] [] (vup (vup h 2 134 (h 1406 3 0) x1) 2 135 (h 1406 3 0) x2)) rfl ?_
          simp only [if_neg c2]
      refine e1.trans ?_
      refine Eq.trans (b := vrun mX12_logMove 36 [(1, 3), (0, x1), (0, x2)] [] (if 50 ≤ h 1406 3 0 then h else vup (vup h 2 134 (h 1406 3 0) x1) 2 135 (h 1406 3 0) x2)) rfl ?_
      simp only [if_neg c1]
  refine e2.trans ?_
  refine (rn_aload_n (pc := 36) (dd bX12_logMove dX12_logMove_36) rfl).trans ?_
  refine (rn_aload_n (pc := 37) (dd bX12_logMove dX12_logMove_37) rfl).trans ?_
  refine (rg_gf (pc := 38) (dd bX12_logMove dX12_logMove_38) (ci := 13) (j := 6) rfl rfl (key := 1406) rfl (kc := 33) rfl (ite_rd s1.1 (ite_rd s1.1 ((vup_k (by decide)).trans ((vup_k (by decide)).trans s1.1)))) (ite_rd rfl (ite_rd rfl ((vup_k (by decide)).trans ((vup_k (by decide)).trans rfl))))).trans ?_
  refine (rn_iconst (pc := 41) (dd bX12_logMove dX12_logMove_41) (by decide)).trans ?_
  refine (rg_iadd (pc := 42) (dd bX12_logMove dX12_logMove_42) p2 p3).trans ?_
  refine (rn_bipush (pc := 43) (dd bX12_logMove dX12_logMove_43) (by decide)).trans ?_
  refine (rg_irem (pc := 45) (dd bX12_logMove dX12_logMove_45) (by decide) p4).trans ?_
  refine (rg_pf (pc := 46) (dd bX12_logMove dX12_logMove_46) (ci := 13) (j := 6) rfl (key := 1406) rfl (kc := 33) rfl (ite_rd s1.1 (ite_rd s1.1 ((vup_k (by decide)).trans ((vup_k (by decide)).trans s1.1)))) rfl (by intro z; cases z) (by decide)).trans ?_
  refine (rn_aload_n (pc := 49) (dd bX12_logMove dX12_logMove_49) rfl).trans ?_
  refine (rn_aload_n (pc := 50) (dd bX12_logMove dX12_logMove_50) rfl).trans ?_
  refine (rg_gf (pc := 51) (dd bX12_logMove dX12_logMove_51) (ci := 13) (j := 5) rfl rfl (key := 1405) rfl (kc := 33) rfl ((vup_k (by decide)).trans (ite_rd s1.1 (ite_rd s1.1 ((vup_k (by decide)).trans ((vup_k (by decide)).trans s1.1))))) ((vup_k (by decide)).trans (ite_rd rfl (ite_rd rfl ((vup_k (by decide)).trans ((vup_k (by decide)).trans rfl)))))).trans ?_
  refine (rn_iconst (pc := 54) (dd bX12_logMove dX12_logMove_54) (by decide)).trans ?_
  refine (rg_iadd (pc := 55) (dd bX12_logMove dX12_logMove_55) p5 p6).trans ?_
  refine (rn_bipush (pc := 56) (dd bX12_logMove dX12_logMove_56) (by decide)).trans ?_
  refine (rg_min (pc := 58) (dd bX12_logMove dX12_logMove_58) rfl ⟨Nat.le_of_ble_eq_true rfl, Nat.le_of_ble_eq_true rfl, Nat.le_of_ble_eq_true rfl⟩).trans ?_
  refine (rg_pf (pc := 61) (dd bX12_logMove dX12_logMove_61) (ci := 13) (j := 5) rfl (key := 1405) rfl (kc := 33) rfl ((vup_k (by decide)).trans (ite_rd s1.1 (ite_rd s1.1 ((vup_k (by decide)).trans ((vup_k (by decide)).trans s1.1))))) rfl (by intro z; cases z) (by decide)).trans ?_
  exact rn_return (pc := 64) (dd bX12_logMove dX12_logMove_64) rfl
theorem bX12_move : vmB mX12_move = cX12_move := rfl
theorem rX12_move_0 {x1 : Int} {x2 : Int} {h : vH} (s1 : shPL h) : vrun mX12_move 0 [(1, 3), (0, x1), (0, x2), (9, 0), (9, 0), (9, 0)] [] h = vret vrun mX12_move 2 [(1, 3), (0, x1), (0, x2), (9, 0), (9, 0), (9, 0)] [] (vcl mX12_laidPane [(1, 3), (0, x1)] h) := by
  refine (rn_aload_n (pc := 0) (dd bX12_move dX12_move_0) rfl).trans ?_
  refine (rn_iload_n (pc := 1) (dd bX12_move dX12_move_1) rfl).trans ?_
  exact rg_virtual (pc := 2) (dd bX12_move dX12_move_2) rfl rfl (by decide) (kc := 33) rfl s1.1 (as := [(1, 3), (0, x1)]) rfl ⟨Nat.le_of_ble_eq_true rfl, Nat.le_of_ble_eq_true rfl, Nat.le_of_ble_eq_true rfl, Nat.le_of_ble_eq_true rfl⟩
theorem rX12_move_5 {x1 : Int} {x2 : Int} {y0 : Int} {h : vH} (s1 : shPL h) : vrun mX12_move 5 [(1, 3), (0, x1), (0, x2), (9, 0), (9, 0), (9, 0)] [(1, y0)] h = vret vrun mX12_move 11 [(1, 3), (0, x1), (0, x2), (1, y0), (9, 0), (9, 0)] [] (vcl mX12_checkRange [(1, 3), (0, x2), (0, 0), (0, 7)] h) := by
  refine (rn_astore_n (pc := 5) (dd bX12_move dX12_move_5) (Nat.le_of_ble_eq_true rfl) rfl).trans ?_
  refine (rn_aload_n (pc := 6) (dd bX12_move dX12_move_6) rfl).trans ?_
  refine (rn_iload_n (pc := 7) (dd bX12_move dX12_move_7) rfl).trans ?_
  refine (rn_iconst (pc := 8) (dd bX12_move dX12_move_8) (by decide)).trans ?_
  refine (rn_bipush (pc := 9) (dd bX12_move dX12_move_9) (by decide)).trans ?_
  exact rg_virtual (pc := 11) (dd bX12_move dX12_move_11) rfl rfl (by decide) (kc := 33) rfl s1.1 (as := [(1, 3), (0, x2), (0, 0), (0, 7)]) rfl ⟨Nat.le_of_ble_eq_true rfl, Nat.le_of_ble_eq_true rfl, Nat.le_of_ble_eq_true rfl, Nat.le_of_ble_eq_true rfl⟩
theorem rX12_move_14 {x1 : Int} {x2 : Int} {x3 : Int} {h : vH} (s1 : shPL h) (s2 : shStack h) (p3 : ¬ (x1 < 0) ∧ ¬ (4 ≤ x1) → 0 ≤ x1) (p4 : ¬ (x1 < 0) ∧ ¬ (4 ≤ x1) → x1 < 4) : vrun mX12_move 14 [(1, 3), (0, x1), (0, x2), (1, x3), (9, 0), (9, 0)] [] h = vret vrun mX12_move 23 [(1, 3), (0, x1), (0, x2), (1, x3), (9, 0), (9, 0)] [] (vcl mX12_checkState [(1, 3), (0, fX9_isOpen h x1)] h) := by
  refine (rn_aload_n (pc := 14) (dd bX12_move dX12_move_14) rfl).trans ?_
  refine (rn_aload_n (pc := 15) (dd bX12_move dX12_move_15) rfl).trans ?_
  refine (rg_gf (pc := 16) (dd bX12_move dX12_move_16) (ci := 13) (j := 2) rfl rfl (key := 1402) rfl (kc := 33) rfl s1.1 s1.2.2.2.2.2.2.1).trans ?_
  refine (rn_iload_n (pc := 19) (dd bX12_move dX12_move_19) rfl).trans ?_
  refine (rg_virtual (pc := 20) (dd bX12_move dX12_move_20) rfl rfl (by decide) (kc := 30) rfl s2.1 (as := [(1, 127), (0, x1)]) rfl ⟨Nat.le_of_ble_eq_true rfl, Nat.le_of_ble_eq_true rfl, Nat.le_of_ble_eq_true rfl, Nat.le_of_ble_eq_true rfl⟩).trans ?_
  refine (vret_v (spX9_isOpen s2 p3 p4)).trans ?_
  exact rg_virtual (pc := 23) (dd bX12_move dX12_move_23) rfl rfl (by decide) (kc := 33) rfl s1.1 (as := [(1, 3), (0, fX9_isOpen h x1)]) rfl ⟨Nat.le_of_ble_eq_true rfl, Nat.le_of_ble_eq_true rfl, Nat.le_of_ble_eq_true rfl, Nat.le_of_ble_eq_true rfl⟩
theorem rX12_move_26 {x1 : Int} {x2 : Int} {x3 : Int} {h : vH} (s1 : shPL h) : vrun mX12_move 26 [(1, 3), (0, x1), (0, x2), (1, x3), (9, 0), (9, 0)] [] h = vret vrun mX12_move 29 [(1, 3), (0, x1), (0, x2), (1, x3), (9, 0), (9, 0)] [] (vcl mX12_logMove [(1, 3), (0, x1), (0, x2)] h) := by
  refine (rn_aload_n (pc := 26) (dd bX12_move dX12_move_26) rfl).trans ?_
  refine (rn_iload_n (pc := 27) (dd bX12_move dX12_move_27) rfl).trans ?_
  refine (rn_iload_n (pc := 28) (dd bX12_move dX12_move_28) rfl).trans ?_
  exact rg_virtual (pc := 29) (dd bX12_move dX12_move_29) rfl rfl (by decide) (kc := 33) rfl s1.1 (as := [(1, 3), (0, x1), (0, x2)]) rfl ⟨Nat.le_of_ble_eq_true rfl, Nat.le_of_ble_eq_true rfl, Nat.le_of_ble_eq_true rfl, Nat.le_of_ble_eq_true rfl⟩
theorem rX12_move_32 {x1 : Int} {x2 : Int} {x3 : Int} {h : vH} (s1 : shPL h) (s2 : shStack h) (p3 : ¬ (x1 < 0) ∧ ¬ (4 ≤ x1) → 0 ≤ x1) (p4 : ¬ (x1 < 0) ∧ ¬ (4 ≤ x1) → x1 < 4) (s5 : shPane h x3) : vrun mX12_move 32 [(1, 3), (0, x1), (0, x2), (1, x3), (9, 0), (9, 0)] [] h = vret vrun mX12_move 46 [(1, 3), (0, x1), (0, x2), (1, x3), (0, fX9_heightOf h x1), (9, 0)] [] (vcl mX5_go [(1, x3), (0, x2), (0, fX9_heightOf h x1)] h) := by
  refine (rn_aload_n (pc := 32) (dd bX12_move dX12_move_32) rfl).trans ?_
  refine (rg_gf (pc := 33) (dd bX12_move dX12_move_33) (ci := 13) (j := 2) rfl rfl (key := 1402) rfl (kc := 33) rfl s1.1 s1.2.2.2.2.2.2.1).trans ?_
  refine (rn_iload_n (pc := 36) (dd bX12_move dX12_move_36) rfl).trans ?_
  refine (rg_virtual (pc := 37) (dd bX12_move dX12_move_37) rfl rfl (by decide) (kc := 30) rfl s2.1 (as := [(1, 127), (0, x1)]) rfl ⟨Nat.le_of_ble_eq_true rfl, Nat.le_of_ble_eq_true rfl, Nat.le_of_ble_eq_true rfl, Nat.le_of_ble_eq_true rfl⟩).trans ?_
  refine (vret_v (spX9_heightOf s2 p3 p4)).trans ?_
  refine (rn_istore (pc := 40) (dd bX12_move dX12_move_40) (Nat.le_of_ble_eq_true rfl) rfl).trans ?_
  refine (rn_aload_n (pc := 42) (dd bX12_move dX12_move_42) rfl).trans ?_
  refine (rn_iload_n (pc := 43) (dd bX12_move dX12_move_43) rfl).trans ?_
  refine (rn_iload (pc := 44) (dd bX12_move dX12_move_44) rfl).trans ?_
  exact rg_virtual (pc := 46) (dd bX12_move dX12_move_46) rfl rfl (by decide) (kc := 26) rfl s5.1 (as := [(1, x3), (0, x2), (0, fX9_heightOf h x1)]) rfl ⟨Nat.le_of_ble_eq_true rfl, Nat.le_of_ble_eq_true rfl, Nat.le_of_ble_eq_true rfl, Nat.le_of_ble_eq_true rfl⟩
theorem rX12_move_49 {x1 : Int} {x2 : Int} {x3 : Int} {x4 : Int} {y0 : Int} {h : vH} (p1 : y0 = 0 → y0 = 0 ∨ y0 = 1) (s2 : shPane h x3) : vrun mX12_move 49 [(1, 3), (0, x1), (0, x2), (1, x3), (0, x4), (9, 0)] [(0, y0)] h = if y0 = 0 then some (.inl (some (0, y0)), h) else vret vrun mX12_move 59 [(1, 3), (0, x1), (0, x2), (1, x3), (0, x4), (0, y0)] [] (vcl mX5_follow [(1, x3), (0, x4)] h) := by
  refine (rn_istore (pc := 49) (dd bX12_move dX12_move_49) (Nat.le_of_ble_eq_true rfl) rfl).trans ?_
  refine (rn_iload (pc := 51) (dd bX12_move dX12_move_51) rfl).trans ?_
  refine (rn_if_eq (t := 62) (pc := 53) (dd bX12_move dX12_move_53) rfl).trans (itec (fun c1 => ?_) (fun c1 => ?_))
  · refine (rn_iload (pc := 62) (dd bX12_move dX12_move_62) rfl).trans ?_
    exact rn_ireturn (pc := 64) (dd bX12_move dX12_move_64) (Or.inr ⟨rfl, (p1 c1)⟩)
  · refine (rn_aload_n (pc := 56) (dd bX12_move dX12_move_56) rfl).trans ?_
    refine (rn_iload (pc := 57) (dd bX12_move dX12_move_57) rfl).trans ?_
    exact rg_virtual (pc := 59) (dd bX12_move dX12_move_59) rfl rfl (by decide) (kc := 26) rfl s2.1 (as := [(1, x3), (0, x4)]) rfl ⟨Nat.le_of_ble_eq_true rfl, Nat.le_of_ble_eq_true rfl, Nat.le_of_ble_eq_true rfl, Nat.le_of_ble_eq_true rfl⟩
theorem rX12_move_62 {x1 : Int} {x2 : Int} {x3 : Int} {x4 : Int} {x5 : Int} {h : vH} (p1 : x5 = 0 ∨ x5 = 1) : vrun mX12_move 62 [(1, 3), (0, x1), (0, x2), (1, x3), (0, x4), (0, x5)] [] h = some (.inl (some (0, x5)), h) := by
  refine (rn_iload (pc := 62) (dd bX12_move dX12_move_62) rfl).trans ?_
  exact rn_ireturn (pc := 64) (dd bX12_move dX12_move_64) (Or.inr ⟨rfl, p1⟩)
theorem bX12_play : vmB mX12_play = cX12_play := rfl
theorem rX12_play_0 {x1 : Int} {x2 : Int} {h : vH} (s1 : shPL h) : vrun mX12_play 0 [(1, 3), (0, x1), (0, x2), (9, 0), (9, 0), (9, 0), (9, 0), (9, 0), (9, 0)] [] h = vret vrun mX12_play 2 [(1, 3), (0, x1), (0, x2), (9, 0), (9, 0), (9, 0), (9, 0), (9, 0), (9, 0)] [] (vcl mX12_checkPane [(1, 3), (0, x1)] h) := by
  refine (rn_aload_n (pc := 0) (dd bX12_play dX12_play_0) rfl).trans ?_
  refine (rn_iload_n (pc := 1) (dd bX12_play dX12_play_1) rfl).trans ?_
  exact rg_virtual (pc := 2) (dd bX12_play dX12_play_2) rfl rfl (by decide) (kc := 33) rfl s1.1 (as := [(1, 3), (0, x1)]) rfl ⟨Nat.le_of_ble_eq_true rfl, Nat.le_of_ble_eq_true rfl, Nat.le_of_ble_eq_true rfl, Nat.le_of_ble_eq_true rfl⟩
theorem rX12_play_5 {x1 : Int} {x2 : Int} {h : vH} (s1 : shPL h) : vrun mX12_play 5 [(1, 3), (0, x1), (0, x2), (9, 0), (9, 0), (9, 0), (9, 0), (9, 0), (9, 0)] [] h = vret vrun mX12_play 7 [(1, 3), (0, x1), (0, x2), (9, 0), (9, 0), (9, 0), (9, 0), (9, 0), (9, 0)] [] (vcl mX12_laidPane [(1, 3), (0, x2)] h) := by
  refine (rn_aload_n (pc := 5) (dd bX12_play dX12_play_5) rfl).trans ?_
  refine (rn_iload_n (pc := 6) (dd bX12_play dX12_play_6) rfl).trans ?_
  exact rg_virtual (pc := 7) (dd bX12_play dX12_play_7) rfl rfl (by decide) (kc := 33) rfl s1.1 (as := [(1, 3), (0, x2)]) rfl ⟨Nat.le_of_ble_eq_true rfl, Nat.le_of_ble_eq_true rfl, Nat.le_of_ble_eq_true rfl, Nat.le_of_ble_eq_true rfl⟩
theorem rX12_play_10 {x1 : Int} {x2 : Int} {y0 : Int} {h : vH} (s1 : shPL h) (s2 : shStack h) (p3 : ¬ (x2 < 0) ∧ ¬ (4 ≤ x2) → 0 ≤ x2) (p4 : ¬ (x2 < 0) ∧ ¬ (4 ≤ x2) → x2 < 4) : vrun mX12_play 10 [(1, 3), (0, x1), (0, x2), (9, 0), (9, 0), (9, 0), (9, 0), (9, 0), (9, 0)] [(1, y0)] h = vret vrun mX12_play 20 [(1, 3), (0, x1), (0, x2), (1, y0), (9, 0), (9, 0), (9, 0), (9, 0), (9, 0)] [] (vcl mX12_checkState [(1, 3), (0, fX9_isOpen h x2)] h) := by
  refine (rn_astore_n (pc := 10) (dd bX12_play dX12_play_10) (Nat.le_of_ble_eq_true rfl) rfl).trans ?_
  refine (rn_aload_n (pc := 11) (dd bX12_play dX12_play_11) rfl).trans ?_
  refine (rn_aload_n (pc := 12) (dd bX12_play dX12_play_12) rfl).trans ?_
  refine (rg_gf (pc := 13) (dd bX12_play dX12_play_13) (ci := 13) (j := 2) rfl rfl (key := 1402) rfl (kc := 33) rfl s1.1 s1.2.2.2.2.2.2.1).trans ?_
  refine (rn_iload_n (pc := 16) (dd bX12_play dX12_play_16) rfl).trans ?_
  refine (rg_virtual (pc := 17) (dd bX12_play dX12_play_17) rfl rfl (by decide) (kc := 30) rfl s2.1 (as := [(1, 127), (0, x2)]) rfl ⟨Nat.le_of_ble_eq_true rfl, Nat.le_of_ble_eq_true rfl, Nat.le_of_ble_eq_true rfl, Nat.le_of_ble_eq_true rfl⟩).trans ?_
  refine (vret_v (spX9_isOpen s2 p3 p4)).trans ?_
  exact rg_virtual (pc := 20) (dd bX12_play dX12_play_20) rfl rfl (by decide) (kc := 33) rfl s1.1 (as := [(1, 3), (0, fX9_isOpen h x2)]) rfl ⟨Nat.le_of_ble_eq_true rfl, Nat.le_of_ble_eq_true rfl, Nat.le_of_ble_eq_true rfl, Nat.le_of_ble_eq_true rfl⟩
theorem rX12_play_23 {x1 : Int} {x2 : Int} {x3 : Int} {h : vH} (s1 : shPL h) (s2 : shStack h) (p3 : ¬ (x2 < 0) ∧ ¬ (4 ≤ x2) → 0 ≤ x2) (p4 : ¬ (x2 < 0) ∧ ¬ (4 ≤ x2) → x2 < 4) (p5 : (-2147483648) ≤ h 1406 3 0 + 50) (p6 : h 1406 3 0 + 50 < 2147483648) (p7 : (-2147483648) ≤ h 1406 3 0 + 50 - h 1405 3 0) (p8 : h 1406 3 0 + 50 - h 1405 3 0 < 2147483648) : vrun mX12_play 23 [(1, 3), (0, x1), (0, x2), (1, x3), (9, 0), (9, 0), (9, 0), (9, 0), (9, 0)] [] h = vrun mX12_play 53 [(1, 3), (0, x1), (0, x2), (1, x3), (0, fX9_heightOf h x2), (0, 0), (0, h 1406 3 0 + 50 - h 1405 3 0), (0, 0), (9, 0)] [] h := by
  refine (rn_aload_n (pc := 23) (dd bX12_play dX12_play_23) rfl).trans ?_
  refine (rg_gf (pc := 24) (dd bX12_play dX12_play_24) (ci := 13) (j := 2) rfl rfl (key := 1402) rfl (kc := 33) rfl s1.1 s1.2.2.2.2.2.2.1).trans ?_
  refine (rn_iload_n (pc := 27) (dd bX12_play dX12_play_27) rfl).trans ?_
  refine (rg_virtual (pc := 28) (dd bX12_play dX12_play_28) rfl rfl (by decide) (kc := 30) rfl s2.1 (as := [(1, 127), (0, x2)]) rfl ⟨Nat.le_of_ble_eq_true rfl, Nat.le_of_ble_eq_true rfl, Nat.le_of_ble_eq_true rfl, Nat.le_of_ble_eq_true rfl⟩).trans ?_
  refine (vret_v (spX9_heightOf s2 p3 p4)).trans ?_
  refine (rn_istore (pc := 31) (dd bX12_play dX12_play_31) (Nat.le_of_ble_eq_true rfl) rfl).trans ?_
  refine (rn_iconst (pc := 33) (dd bX12_play dX12_play_33) (by decide)).trans ?_
  refine (rn_istore (pc := 34) (dd bX12_play dX12_play_34) (Nat.le_of_ble_eq_true rfl) rfl).trans ?_
  refine (rn_aload_n (pc := 36) (dd bX12_play dX12_play_36) rfl).trans ?_
  refine (rg_gf (pc := 37) (dd bX12_play dX12_play_37) (ci := 13) (j := 6) rfl rfl (key := 1406) rfl (kc := 33) rfl s1.1 rfl).trans ?_
  refine (rn_bipush (pc := 40) (dd bX12_play dX12_play_40) (by decide)).trans ?_
  refine (rg_iadd (pc := 42) (dd bX12_play dX12_play_42) p5 p6).trans ?_
  refine (rn_aload_n (pc := 43) (dd bX12_play dX12_play_43) rfl).trans ?_
  refine (rg_gf (pc := 44) (dd bX12_play dX12_play_44) (ci := 13) (j := 5) rfl rfl (key := 1405) rfl (kc := 33) rfl s1.1 rfl).trans ?_
  refine (rg_isub (pc := 47) (dd bX12_play dX12_play_47) p7 p8).trans ?_
  refine (rn_istore (pc := 48) (dd bX12_play dX12_play_48) (Nat.le_of_ble_eq_true rfl) rfl).trans ?_
  refine (rn_iconst (pc := 50) (dd bX12_play dX12_play_50) (by decide)).trans ?_
  refine (rn_istore (pc := 51) (dd bX12_play dX12_play_51) (Nat.le_of_ble_eq_true rfl) rfl).trans ?_
  rfl
theorem rX12_play_53 {x1 : Int} {x2 : Int} {x3 : Int} {x4 : Int} {x5 : Int} {x6 : Int} {x7 : Int} {v8 : vv} {h : vH} (s1 : shPL h) (p2 : ¬ (h 1405 3 0 ≤ x7) → (-2147483648) ≤ x6 + x7) (p3 : ¬ (h 1405 3 0 ≤ x7) → x6 + x7 < 2147483648) (p4 : ¬ (h 1405 3 0 ≤ x7) → 0 ≤ x6 + x7) (p5 : ¬ (h 1405 3 0 ≤ x7) → (x6 + x7) % 50 < 0 → (-2147483648) ≤ x7 + 1) (p6 : ¬ (h 1405 3 0 ≤ x7) → (x6 + x7) % 50 < 0 → x7 + 1 < 2147483648) (p7 : ¬ (h 1405 3 0 ≤ x7) → ¬ ((x6 + x7) % 50 < 0) → 50 ≤ (x6 + x7) % 50 → (-2147483648) ≤ x7 + 1) (p8 : ¬ (h 1405 3 0 ≤ x7) → ¬ ((x6 + x7) % 50 < 0) → 50 ≤ (x6 + x7) % 50 → x7 + 1 < 2147483648) (s9 : shPane h x3) (p10 : ¬ (h 1405 3 0 ≤ x7) → ¬ ((x6 + x7) % 50 < 0) → ¬ (50 ≤ (x6 + x7) % 50) → ¬ (h 2 134 ((x6 + x7) % 50) = x1) → (-2147483648) ≤ x7 + 1) (p11 : ¬ (h 1405 3 0 ≤ x7) → ¬ ((x6 + x7) % 50 < 0) → ¬ (50 ≤ (x6 + x7) % 50) → ¬ (h 2 134 ((x6 + x7) % 50) = x1) → x7 + 1 < 2147483648) : vrun mX12_play 53 [(1, 3), (0, x1), (0, x2), (1, x3), (0, x4), (0, x5), (0, x6), (0, x7), v8] [] h = if h 1405 3 0 ≤ x7 then some (.inl (some (0, x5)), h) else if (x6 + x7) % 50 < 0 then vrun mX12_play 53 [(1, 3), (0, x1), (0, x2), (1, x3), (0, x4), (0, x5), (0, x6), (0, x7 + 1), (0, (x6 + x7) % 50)] [] h else if 50 ≤ (x6 + x7) % 50 then vrun mX12_play 53 [(1, 3), (0, x1), (0, x2), (1, x3), (0, x4), (0, x5), (0, x6), (0, x7 + 1), (0, (x6 + x7) % 50)] [] h else if h 2 134 ((x6 + x7) % 50) = x1 then vret vrun mX12_play 105 [(1, 3), (0, x1), (0, x2), (1, x3), (0, x4), (0, x5), (0, x6), (0, x7), (0, (x6 + x7) % 50)] [] (vcl mX5_go [(1, x3), (0, h 2 135 ((x6 + x7) % 50)), (0, x4)] h) else vrun mX12_play 53 [(1, 3), (0, x1), (0, x2), (1, x3), (0, x4), (0, x5), (0, x6), (0, x7 + 1), (0, (x6 + x7) % 50)] [] h := by
  refine (rn_iload (pc := 53) (dd bX12_play dX12_play_53) rfl).trans ?_
  refine (rn_aload_n (pc := 55) (dd bX12_play dX12_play_55) rfl).trans ?_
  refine (rg_gf (pc := 56) (dd bX12_play dX12_play_56) (ci := 13) (j := 5) rfl rfl (key := 1405) rfl (kc := 33) rfl s1.1 rfl).trans ?_
  refine (rn_icmp_ge (t := 126) (pc := 59) (dd bX12_play dX12_play_59) rfl).trans (itec (fun c1 => ?_) (fun c1 => ?_))
  · refine (rn_iload (pc := 126) (dd bX12_play dX12_play_126) rfl).trans ?_
    exact rn_ireturn (pc := 128) (dd bX12_play dX12_play_128) (Or.inl rfl)
  · refine (rn_iload (pc := 62) (dd bX12_play dX12_play_62) rfl).trans ?_
    refine (rn_iload (pc := 64) (dd bX12_play dX12_play_64) rfl).trans ?_
    refine (rg_iadd (pc := 66) (dd bX12_play dX12_play_66) (p2 c1) (p3 c1)).trans ?_
    refine (rn_bipush (pc := 67) (dd bX12_play dX12_play_67) (by decide)).trans ?_
    refine (rg_irem (pc := 69) (dd bX12_play dX12_play_69) (by decide) (p4 c1)).trans ?_
    refine (rn_istore (pc := 70) (dd bX12_play dX12_play_70) (Nat.le_of_ble_eq_true rfl) rfl).trans ?_
    refine (rn_iload (pc := 72) (dd bX12_play dX12_play_72) rfl).trans ?_
    refine (rn_if_lt (t := 120) (pc := 74) (dd bX12_play dX12_play_74) rfl).trans (itec (fun c2 => ?_) (fun c2 => ?_))
    · refine (rg_iinc (pc := 120) (dd bX12_play dX12_play_120) rfl (Nat.le_of_ble_eq_true rfl) (p5 c1 c2) (p6 c1 c2) rfl).trans ?_
      refine (rn_goto (t := 53) (pc := 123) (dd bX12_play dX12_play_123) rfl).trans ?_
      rfl
    · refine (rn_iload (pc := 77) (dd bX12_play dX12_play_77) rfl).trans ?_
      refine (rn_bipush (pc := 79) (dd bX12_play dX12_play_79) (by decide)).trans ?_
      refine (rn_icmp_ge (t := 120) (pc := 81) (dd bX12_play dX12_play_81) rfl).trans (itec (fun c3 => ?_) (fun c3 => ?_))
      · refine (rg_iinc (pc := 120) (dd bX12_play dX12_play_120) rfl (Nat.le_of_ble_eq_true rfl) (p7 c1 c2 c3) (p8 c1 c2 c3) rfl).trans ?_
        refine (rn_goto (t := 53) (pc := 123) (dd bX12_play dX12_play_123) rfl).trans ?_
        rfl
      · refine (rn_aload_n (pc := 84) (dd bX12_play dX12_play_84) rfl).trans ?_
        refine (rg_gf (pc := 85) (dd bX12_play dX12_play_85) (ci := 13) (j := 3) rfl rfl (key := 1403) rfl (kc := 33) rfl s1.1 s1.2.2.2.2.2.2.2.2.1).trans ?_
        refine (rn_iload (pc := 88) (dd bX12_play dX12_play_88) rfl).trans ?_
        refine (rg_iaload (pc := 90) (dd bX12_play dX12_play_90) s1.2.2.2.2.2.2.2.2.2.1 s1.2.2.2.2.2.2.2.2.2.2.1 (Int.not_lt.mp c2) (Int.not_le.mp c3) rfl).trans ?_
        refine (rn_iload_n (pc := 91) (dd bX12_play dX12_play_91) rfl).trans ?_
        refine (rg_icmp_ne (t := 120) (pc := 92) (dd bX12_play dX12_play_92) rfl).trans (itec (fun c4 => ?_) (fun c4 => ?_))
        · refine (rn_aload_n (pc := 95) (dd bX12_play dX12_play_95) rfl).trans ?_
          refine (rn_aload_n (pc := 96) (dd bX12_play dX12_play_96) rfl).trans ?_
          refine (rg_gf (pc := 97) (dd bX12_play dX12_play_97) (ci := 13) (j := 4) rfl rfl (key := 1404) rfl (kc := 33) rfl s1.1 s1.2.2.2.2.2.2.2.2.2.2.2.1).trans ?_
          refine (rn_iload (pc := 100) (dd bX12_play dX12_play_100) rfl).trans ?_
          refine (rg_iaload (pc := 102) (dd bX12_play dX12_play_102) s1.2.2.2.2.2.2.2.2.2.2.2.2.1 s1.2.2.2.2.2.2.2.2.2.2.2.2.2.1 (Int.not_lt.mp c2) (Int.not_le.mp c3) rfl).trans ?_
          refine (rn_iload (pc := 103) (dd bX12_play dX12_play_103) rfl).trans ?_
          exact rg_virtual (pc := 105) (dd bX12_play dX12_play_105) rfl rfl (by decide) (kc := 26) rfl s9.1 (as := [(1, x3), (0, h 2 135 ((x6 + x7) % 50)), (0, x4)]) rfl ⟨Nat.le_of_ble_eq_true rfl, Nat.le_of_ble_eq_true rfl, Nat.le_of_ble_eq_true rfl, Nat.le_of_ble_eq_true rfl⟩
        · refine (rg_iinc (pc := 120) (dd bX12_play dX12_play_120) rfl (Nat.le_of_ble_eq_true rfl) (p10 c1 c2 c3 c4) (p11 c1 c2 c3 c4) rfl).trans ?_
          refine (rn_goto (t := 53) (pc := 123) (dd bX12_play dX12_play_123) rfl).trans ?_
          rfl
theorem rX12_play_108 {x1 : Int} {x2 : Int} {x3 : Int} {x4 : Int} {x5 : Int} {x6 : Int} {x7 : Int} {x8 : Int} {y0 : Int} {h : vH} (p1 : y0 = 0 → (-2147483648) ≤ x7 + 1) (p2 : y0 = 0 → x7 + 1 < 2147483648) (s3 : shPane h x3) : vrun mX12_play 108 [(1, 3), (0, x1), (0, x2), (1, x3), (0, x4), (0, x5), (0, x6), (0, x7), (0, x8)] [(0, y0)] h = if y0 = 0 then vrun mX12_play 53 [(1, 3), (0, x1), (0, x2), (1, x3), (0, x4), (0, x5), (0, x6), (0, x7 + 1), (0, x8)] [] h else vret vrun mX12_play 114 [(1, 3), (0, x1), (0, x2), (1, x3), (0, x4), (0, x5), (0, x6), (0, x7), (0, x8)] [] (vcl mX5_follow [(1, x3), (0, x4)] h) := by
  refine (rn_if_eq (t := 120) (pc := 108) (dd bX12_play dX12_play_108) rfl).trans (itec (fun c1 => ?_) (fun c1 => ?_))
  · refine (rg_iinc (pc := 120) (dd bX12_play dX12_play_120) rfl (Nat.le_of_ble_eq_true rfl) (p1 c1) (p2 c1) rfl).trans ?_
    refine (rn_goto (t := 53) (pc := 123) (dd bX12_play dX12_play_123) rfl).trans ?_
    rfl
  · refine (rn_aload_n (pc := 111) (dd bX12_play dX12_play_111) rfl).trans ?_
    refine (rn_iload (pc := 112) (dd bX12_play dX12_play_112) rfl).trans ?_
    exact rg_virtual (pc := 114) (dd bX12_play dX12_play_114) rfl rfl (by decide) (kc := 26) rfl s3.1 (as := [(1, x3), (0, x4)]) rfl ⟨Nat.le_of_ble_eq_true rfl, Nat.le_of_ble_eq_true rfl, Nat.le_of_ble_eq_true rfl, Nat.le_of_ble_eq_true rfl⟩
theorem rX12_play_117 {x1 : Int} {x2 : Int} {x3 : Int} {x4 : Int} {x5 : Int} {x6 : Int} {x7 : Int} {x8 : Int} {h : vH} (p1 : (-2147483648) ≤ x5 + 1) (p2 : x5 + 1 < 2147483648) (p3 : (-2147483648) ≤ x7 + 1) (p4 : x7 + 1 < 2147483648) : vrun mX12_play 117 [(1, 3), (0, x1), (0, x2), (1, x3), (0, x4), (0, x5), (0, x6), (0, x7), (0, x8)] [] h = vrun mX12_play 53 [(1, 3), (0, x1), (0, x2), (1, x3), (0, x4), (0, x5 + 1), (0, x6), (0, x7 + 1), (0, x8)] [] h := by
  refine (rg_iinc (pc := 117) (dd bX12_play dX12_play_117) rfl (Nat.le_of_ble_eq_true rfl) p1 p2 rfl).trans ?_
  refine (rg_iinc (pc := 120) (dd bX12_play dX12_play_120) rfl (Nat.le_of_ble_eq_true rfl) p3 p4 rfl).trans ?_
  refine (rn_goto (t := 53) (pc := 123) (dd bX12_play dX12_play_123) rfl).trans ?_
  rfl
theorem bX12_cursor : vmB mX12_cursor = cX12_cursor := rfl
theorem rX12_cursor_0 {x1 : Int} {x2 : Int} {h : vH} (s1 : shPL h) : vrun mX12_cursor 0 [(1, 3), (0, x1), (0, x2), (9, 0)] [] h = vret vrun mX12_cursor 2 [(1, 3), (0, x1), (0, x2), (9, 0)] [] (vcl mX12_laidPane [(1, 3), (0, x1)] h) := by
  refine (rn_aload_n (pc := 0) (dd bX12_cursor dX12_cursor_0) rfl).trans ?_
  refine (rn_iload_n (pc := 1) (dd bX12_cursor dX12_cursor_1) rfl).trans ?_
  exact rg_virtual (pc := 2) (dd bX12_cursor dX12_cursor_2) rfl rfl (by decide) (kc := 33) rfl s1.1 (as := [(1, 3), (0, x1)]) rfl ⟨Nat.le_of_ble_eq_true rfl, Nat.le_of_ble_eq_true rfl, Nat.le_of_ble_eq_true rfl, Nat.le_of_ble_eq_true rfl⟩
theorem rX12_cursor_5 {x1 : Int} {x2 : Int} {y0 : Int} {h : vH} (s1 : shPL h) : vrun mX12_cursor 5 [(1, 3), (0, x1), (0, x2), (9, 0)] [(1, y0)] h = vret vrun mX12_cursor 10 [(1, 3), (0, x1), (0, x2), (1, y0)] [] (vcl mX12_checkRange [(1, 3), (0, x2), (0, 0), (0, 5)] h) := by
  refine (rn_astore_n (pc := 5) (dd bX12_cursor dX12_cursor_5) (Nat.le_of_ble_eq_true rfl) rfl).trans ?_
  refine (rn_aload_n (pc := 6) (dd bX12_cursor dX12_cursor_6) rfl).trans ?_
  refine (rn_iload_n (pc := 7) (dd bX12_cursor dX12_cursor_7) rfl).trans ?_
  refine (rn_iconst (pc := 8) (dd bX12_cursor dX12_cursor_8) (by decide)).trans ?_
  refine (rn_iconst (pc := 9) (dd bX12_cursor dX12_cursor_9) (by decide)).trans ?_
  exact rg_virtual (pc := 10) (dd bX12_cursor dX12_cursor_10) rfl rfl (by decide) (kc := 33) rfl s1.1 (as := [(1, 3), (0, x2), (0, 0), (0, 5)]) rfl ⟨Nat.le_of_ble_eq_true rfl, Nat.le_of_ble_eq_true rfl, Nat.le_of_ble_eq_true rfl, Nat.le_of_ble_eq_true rfl⟩
theorem rX12_cursor_13 {x1 : Int} {x2 : Int} {x3 : Int} {h : vH} (s1 : shPane h x3) : vrun mX12_cursor 13 [(1, 3), (0, x1), (0, x2), (1, x3)] [] h = if x2 = 0 then vret vrun mX12_cursor 53 [(1, 3), (0, x1), (0, x2), (1, x3)] [] (vcl mX5_takenLine [(1, x3), (1, x3 + 23)] h) else if x2 = 1 then vret vrun mX12_cursor 62 [(1, 3), (0, x1), (0, x2), (1, x3)] [] (vcl mX5_takenAt [(1, x3), (1, x3 + 23)] h) else if x2 = 2 then vret vrun mX12_cursor 67 [(1, 3), (0, x1), (0, x2), (1, x3)] [] (vcl mX5_cursorRow [(1, x3)] h) else if x2 = 3 then vret vrun mX12_cursor 72 [(1, 3), (0, x1), (0, x2), (1, x3)] [] (vcl mX5_cursorColumn [(1, x3)] h) else if x2 = 4 then some (.inl (some (0, h 707 x3 0)), h) else vret vrun mX12_cursor 82 [(1, 3), (0, x1), (0, x2), (1, x3)] [] (vcl mX5_topRow [(1, x3)] h) := by
  refine (rn_iload_n (pc := 13) (dd bX12_cursor dX12_cursor_13) rfl).trans ?_
  refine itex (c := x2 = 0) (fun c1 => ?_) (fun c1 => ?_)
  · refine (rn_table (off := 34) (t := 48) (pc := 14) (dd bX12_cursor dX12_cursor_14) (by omega) (by rw [c1]; rfl) rfl).trans ?_
    refine (rn_aload_n (pc := 48) (dd bX12_cursor dX12_cursor_48) rfl).trans ?_
    refine (rn_aload_n (pc := 49) (dd bX12_cursor dX12_cursor_49) rfl).trans ?_
    refine (rg_gf (pc := 50) (dd bX12_cursor dX12_cursor_50) (ci := 6) (j := 4) rfl rfl (key := 704) rfl (kc := 26) rfl s1.1 s1.2.2.2.2.2.2.2.2.1).trans ?_
    exact rg_virtual (pc := 53) (dd bX12_cursor dX12_cursor_53) rfl rfl (by decide) (kc := 26) rfl s1.1 (as := [(1, x3), (1, x3 + 23)]) rfl ⟨Nat.le_of_ble_eq_true rfl, Nat.le_of_ble_eq_true rfl, Nat.le_of_ble_eq_true rfl, Nat.le_of_ble_eq_true rfl⟩
  · refine itex (c := x2 = 1) (fun c2 => ?_) (fun c2 => ?_)
    · refine (rn_table (off := 43) (t := 57) (pc := 14) (dd bX12_cursor dX12_cursor_14) (by omega) (by rw [c2]; rfl) rfl).trans ?_
      refine (rn_aload_n (pc := 57) (dd bX12_cursor dX12_cursor_57) rfl).trans ?_
      refine (rn_aload_n (pc := 58) (dd bX12_cursor dX12_cursor_58) rfl).trans ?_
      refine (rg_gf (pc := 59) (dd bX12_cursor dX12_cursor_59) (ci := 6) (j := 4) rfl rfl (key := 704) rfl (kc := 26) rfl s1.1 s1.2.2.2.2.2.2.2.2.1).trans ?_
      exact rg_virtual (pc := 62) (dd bX12_cursor dX12_cursor_62) rfl rfl (by decide) (kc := 26) rfl s1.1 (as := [(1, x3), (1, x3 + 23)]) rfl ⟨Nat.le_of_ble_eq_true rfl, Nat.le_of_ble_eq_true rfl, Nat.le_of_ble_eq_true rfl, Nat.le_of_ble_eq_true rfl⟩
    · refine itex (c := x2 = 2) (fun c3 => ?_) (fun c3 => ?_)
      · refine (rn_table (off := 52) (t := 66) (pc := 14) (dd bX12_cursor dX12_cursor_14) (by omega) (by rw [c3]; rfl) rfl).trans ?_
        refine (rn_aload_n (pc := 66) (dd bX12_cursor dX12_cursor_66) rfl).trans ?_
        exact rg_virtual (pc := 67) (dd bX12_cursor dX12_cursor_67) rfl rfl (by decide) (kc := 26) rfl s1.1 (as := [(1, x3)]) rfl ⟨Nat.le_of_ble_eq_true rfl, Nat.le_of_ble_eq_true rfl, Nat.le_of_ble_eq_true rfl, Nat.le_of_ble_eq_true rfl⟩
      · refine itex (c := x2 = 3) (fun c4 => ?_) (fun c4 => ?_)
        · refine (rn_table (off := 57) (t := 71) (pc := 14) (dd bX12_cursor dX12_cursor_14) (by omega) (by rw [c4]; rfl) rfl).trans ?_
          refine (rn_aload_n (pc := 71) (dd bX12_cursor dX12_cursor_71) rfl).trans ?_
          exact rg_virtual (pc := 72) (dd bX12_cursor dX12_cursor_72) rfl rfl (by decide) (kc := 26) rfl s1.1 (as := [(1, x3)]) rfl ⟨Nat.le_of_ble_eq_true rfl, Nat.le_of_ble_eq_true rfl, Nat.le_of_ble_eq_true rfl, Nat.le_of_ble_eq_true rfl⟩
        · refine itex (c := x2 = 4) (fun c5 => ?_) (fun c5 => ?_)
          · refine (rn_table (off := 62) (t := 76) (pc := 14) (dd bX12_cursor dX12_cursor_14) (by omega) (by rw [c5]; rfl) rfl).trans ?_
            refine (rn_aload_n (pc := 76) (dd bX12_cursor dX12_cursor_76) rfl).trans ?_
            refine (rg_gf (pc := 77) (dd bX12_cursor dX12_cursor_77) (ci := 6) (j := 7) rfl rfl (key := 707) rfl (kc := 26) rfl s1.1 rfl).trans ?_
            exact rn_ireturn (pc := 80) (dd bX12_cursor dX12_cursor_80) (Or.inl rfl)
          · refine (rn_tableD (t := 81) (pc := 14) (dd bX12_cursor dX12_cursor_14) (by omega) rfl).trans ?_
            refine (rn_aload_n (pc := 81) (dd bX12_cursor dX12_cursor_81) rfl).trans ?_
            exact rg_virtual (pc := 82) (dd bX12_cursor dX12_cursor_82) rfl rfl (by decide) (kc := 26) rfl s1.1 (as := [(1, x3)]) rfl ⟨Nat.le_of_ble_eq_true rfl, Nat.le_of_ble_eq_true rfl, Nat.le_of_ble_eq_true rfl, Nat.le_of_ble_eq_true rfl⟩
theorem rX12_cursor_56 {x1 : Int} {x2 : Int} {x3 : Int} {y0 : Int} {h : vH} : vrun mX12_cursor 56 [(1, 3), (0, x1), (0, x2), (1, x3)] [(0, y0)] h = some (.inl (some (0, y0)), h) := by
  exact rn_ireturn (pc := 56) (dd bX12_cursor dX12_cursor_56) (Or.inl rfl)
theorem rX12_cursor_65 {x1 : Int} {x2 : Int} {x3 : Int} {y0 : Int} {h : vH} : vrun mX12_cursor 65 [(1, 3), (0, x1), (0, x2), (1, x3)] [(0, y0)] h = some (.inl (some (0, y0)), h) := by
  exact rn_ireturn (pc := 65) (dd bX12_cursor dX12_cursor_65) (Or.inl rfl)
theorem rX12_cursor_70 {x1 : Int} {x2 : Int} {x3 : Int} {y0 : Int} {h : vH} : vrun mX12_cursor 70 [(1, 3), (0, x1), (0, x2), (1, x3)] [(0, y0)] h = some (.inl (some (0, y0)), h) := by
  exact rn_ireturn (pc := 70) (dd bX12_cursor dX12_cursor_70) (Or.inl rfl)
theorem rX12_cursor_75 {x1 : Int} {x2 : Int} {x3 : Int} {y0 : Int} {h : vH} : vrun mX12_cursor 75 [(1, 3), (0, x1), (0, x2), (1, x3)] [(0, y0)] h = some (.inl (some (0, y0)), h) := by
  exact rn_ireturn (pc := 75) (dd bX12_cursor dX12_cursor_75) (Or.inl rfl)
theorem rX12_cursor_85 {x1 : Int} {x2 : Int} {x3 : Int} {y0 : Int} {h : vH} : vrun mX12_cursor 85 [(1, 3), (0, x1), (0, x2), (1, x3)] [(0, y0)] h = some (.inl (some (0, y0)), h) := by
  exact rn_ireturn (pc := 85) (dd bX12_cursor dX12_cursor_85) (Or.inl rfl)
theorem bX12_type : vmB mX12_type = cX12_type := rfl
theorem rX12_type_0 {x1 : Int} {x2 : Int} {h : vH} (s1 : shPL h) : vrun mX12_type 0 [(1, 3), (0, x1), (0, x2), (9, 0), (9, 0), (9, 0)] [] h = vret vrun mX12_type 2 [(1, 3), (0, x1), (0, x2), (9, 0), (9, 0), (9, 0)] [] (vcl mX12_laidPane [(1, 3), (0, x1)] h) := by
  refine (rn_aload_n (pc := 0) (dd bX12_type dX12_type_0) rfl).trans ?_
  refine (rn_iload_n (pc := 1) (dd bX12_type dX12_type_1) rfl).trans ?_
  exact rg_virtual (pc := 2) (dd bX12_type dX12_type_2) rfl rfl (by decide) (kc := 33) rfl s1.1 (as := [(1, 3), (0, x1)]) rfl ⟨Nat.le_of_ble_eq_true rfl, Nat.le_of_ble_eq_true rfl, Nat.le_of_ble_eq_true rfl, Nat.le_of_ble_eq_true rfl⟩
theorem rX12_type_5 {x1 : Int} {x2 : Int} {y0 : Int} {h : vH} (s1 : shPL h) : vrun mX12_type 5 [(1, 3), (0, x1), (0, x2), (9, 0), (9, 0), (9, 0)] [(1, y0)] h = vret vrun mX12_type 8 [(1, 3), (0, x1), (0, x2), (1, y0), (9, 0), (9, 0)] [] (vcl mX12_checkSign [(1, 3), (0, x2)] h) := by
  refine (rn_astore_n (pc := 5) (dd bX12_type dX12_type_5) (Nat.le_of_ble_eq_true rfl) rfl).trans ?_
  refine (rn_aload_n (pc := 6) (dd bX12_type dX12_type_6) rfl).trans ?_
  refine (rn_iload_n (pc := 7) (dd bX12_type dX12_type_7) rfl).trans ?_
  exact rg_virtual (pc := 8) (dd bX12_type dX12_type_8) rfl rfl (by decide) (kc := 33) rfl s1.1 (as := [(1, 3), (0, x2)]) rfl ⟨Nat.le_of_ble_eq_true rfl, Nat.le_of_ble_eq_true rfl, Nat.le_of_ble_eq_true rfl, Nat.le_of_ble_eq_true rfl⟩
theorem rX12_type_11 {x1 : Int} {x2 : Int} {x3 : Int} {h : vH} (s1 : shPane h x3) : vrun mX12_type 11 [(1, 3), (0, x1), (0, x2), (1, x3), (9, 0), (9, 0)] [] h = vret vrun mX12_type 16 [(1, 3), (0, x1), (0, x2), (1, x3), (9, 0), (9, 0)] [] (vcl mX5_takenLine [(1, x3), (1, x3 + 23)] h) := by
  refine (rn_aload_n (pc := 11) (dd bX12_type dX12_type_11) rfl).trans ?_
  refine (rn_aload_n (pc := 12) (dd bX12_type dX12_type_12) rfl).trans ?_
  refine (rg_gf (pc := 13) (dd bX12_type dX12_type_13) (ci := 6) (j := 4) rfl rfl (key := 704) rfl (kc := 26) rfl s1.1 s1.2.2.2.2.2.2.2.2.1).trans ?_
  exact rg_virtual (pc := 16) (dd bX12_type dX12_type_16) rfl rfl (by decide) (kc := 26) rfl s1.1 (as := [(1, x3), (1, x3 + 23)]) rfl ⟨Nat.le_of_ble_eq_true rfl, Nat.le_of_ble_eq_true rfl, Nat.le_of_ble_eq_true rfl, Nat.le_of_ble_eq_true rfl⟩
theorem rX12_type_19 {x1 : Int} {x2 : Int} {x3 : Int} {y0 : Int} {h : vH} (s1 : shPane h x3) : vrun mX12_type 19 [(1, 3), (0, x1), (0, x2), (1, x3), (9, 0), (9, 0)] [(0, y0)] h = vret vrun mX12_type 26 [(1, 3), (0, x1), (0, x2), (1, x3), (0, y0), (9, 0)] [] (vcl mX5_takenAt [(1, x3), (1, x3 + 23)] h) := by
  refine (rn_istore (pc := 19) (dd bX12_type dX12_type_19) (Nat.le_of_ble_eq_true rfl) rfl).trans ?_
  refine (rn_aload_n (pc := 21) (dd bX12_type dX12_type_21) rfl).trans ?_
  refine (rn_aload_n (pc := 22) (dd bX12_type dX12_type_22) rfl).trans ?_
  refine (rg_gf (pc := 23) (dd bX12_type dX12_type_23) (ci := 6) (j := 4) rfl rfl (key := 704) rfl (kc := 26) rfl s1.1 s1.2.2.2.2.2.2.2.2.1).trans ?_
  exact rg_virtual (pc := 26) (dd bX12_type dX12_type_26) rfl rfl (by decide) (kc := 26) rfl s1.1 (as := [(1, x3), (1, x3 + 23)]) rfl ⟨Nat.le_of_ble_eq_true rfl, Nat.le_of_ble_eq_true rfl, Nat.le_of_ble_eq_true rfl, Nat.le_of_ble_eq_true rfl⟩
theorem rX12_type_29 {x1 : Int} {x2 : Int} {x3 : Int} {x4 : Int} {y0 : Int} {h : vH} (s1 : shPL h) (s2 : shStack h) (p3 : ¬ (x1 < 0) ∧ ¬ (4 ≤ x1) → 0 ≤ x1) (p4 : ¬ (x1 < 0) ∧ ¬ (4 ≤ x1) → x1 < 4) : vrun mX12_type 29 [(1, 3), (0, x1), (0, x2), (1, x3), (0, x4), (9, 0)] [(0, y0)] h = if fX9_isOpen h x1 = 0 then vret vrun mX12_type 62 [(1, 3), (0, x1), (0, x2), (1, x3), (0, x4), (0, y0)] [] (vcl mX12_checkState [(1, 3), (0, 0)] h) else vret vrun mX12_type 46 [(1, 3), (0, x1), (0, x2), (1, x3), (0, x4), (0, y0)] [(1, 3)] (vcl mX12_lineOf [(1, 3), (0, x4)] h) := by
  refine (rn_istore (pc := 29) (dd bX12_type dX12_type_29) (Nat.le_of_ble_eq_true rfl) rfl).trans ?_
  refine (rn_aload_n (pc := 31) (dd bX12_type dX12_type_31) rfl).trans ?_
  refine (rn_aload_n (pc := 32) (dd bX12_type dX12_type_32) rfl).trans ?_
  refine (rg_gf (pc := 33) (dd bX12_type dX12_type_33) (ci := 13) (j := 2) rfl rfl (key := 1402) rfl (kc := 33) rfl s1.1 s1.2.2.2.2.2.2.1).trans ?_
  refine (rn_iload_n (pc := 36) (dd bX12_type dX12_type_36) rfl).trans ?_
  refine (rg_virtual (pc := 37) (dd bX12_type dX12_type_37) rfl rfl (by decide) (kc := 30) rfl s2.1 (as := [(1, 127), (0, x1)]) rfl ⟨Nat.le_of_ble_eq_true rfl, Nat.le_of_ble_eq_true rfl, Nat.le_of_ble_eq_true rfl, Nat.le_of_ble_eq_true rfl⟩).trans ?_
  refine (vret_v (spX9_isOpen s2 p3 p4)).trans ?_
  refine (rn_if_eq (t := 61) (pc := 40) (dd bX12_type dX12_type_40) rfl).trans (itec (fun c1 => ?_) (fun c1 => ?_))
  · refine (rn_iconst (pc := 61) (dd bX12_type dX12_type_61) (by decide)).trans ?_
    exact rg_virtual (pc := 62) (dd bX12_type dX12_type_62) rfl rfl (by decide) (kc := 33) rfl s1.1 (as := [(1, 3), (0, 0)]) rfl ⟨Nat.le_of_ble_eq_true rfl, Nat.le_of_ble_eq_true rfl, Nat.le_of_ble_eq_true rfl, Nat.le_of_ble_eq_true rfl⟩
  · refine (rn_aload_n (pc := 43) (dd bX12_type dX12_type_43) rfl).trans ?_
    refine (rn_iload (pc := 44) (dd bX12_type dX12_type_44) rfl).trans ?_
    exact rg_virtual (pc := 46) (dd bX12_type dX12_type_46) rfl rfl (by decide) (kc := 33) rfl s1.1 (as := [(1, 3), (0, x4)]) rfl ⟨Nat.le_of_ble_eq_true rfl, Nat.le_of_ble_eq_true rfl, Nat.le_of_ble_eq_true rfl, Nat.le_of_ble_eq_true rfl⟩
theorem rX12_type_65 {x1 : Int} {x2 : Int} {x3 : Int} {x4 : Int} {x5 : Int} {h : vH} (s1 : shPL h) : vrun mX12_type 65 [(1, 3), (0, x1), (0, x2), (1, x3), (0, x4), (0, x5)] [] h = vret vrun mX12_type 71 [(1, 3), (0, x1), (0, x2), (1, x3), (0, x4), (0, x5)] [] (vcl mX12_putIn [(1, 3), (0, x4), (0, x5), (0, x2)] h) := by
  refine (rn_aload_n (pc := 65) (dd bX12_type dX12_type_65) rfl).trans ?_
  refine (rn_iload (pc := 66) (dd bX12_type dX12_type_66) rfl).trans ?_
  refine (rn_iload (pc := 68) (dd bX12_type dX12_type_68) rfl).trans ?_
  refine (rn_iload_n (pc := 70) (dd bX12_type dX12_type_70) rfl).trans ?_
  exact rg_virtual (pc := 71) (dd bX12_type dX12_type_71) rfl rfl (by decide) (kc := 33) rfl s1.1 (as := [(1, 3), (0, x4), (0, x5), (0, x2)]) rfl ⟨Nat.le_of_ble_eq_true rfl, Nat.le_of_ble_eq_true rfl, Nat.le_of_ble_eq_true rfl, Nat.le_of_ble_eq_true rfl⟩
theorem rX12_type_49 {x1 : Int} {x2 : Int} {x3 : Int} {x4 : Int} {x5 : Int} {y0 : Int} {h : vH} (s1 : shLine h y0) (s2 : shPL h) : vrun mX12_type 49 [(1, 3), (0, x1), (0, x2), (1, x3), (0, x4), (0, x5)] [(1, y0), (1, 3)] h = vret vrun mX12_type 62 [(1, 3), (0, x1), (0, x2), (1, x3), (0, x4), (0, x5)] [] (vcl mX12_checkState [(1, 3), (0, (if ¬ (80 ≤ h 601 y0 0) then 1 else 0))] h) := by
  refine (rg_gf (pc := 49) (dd bX12_type dX12_type_49) (ci := 5) (j := 1) rfl rfl (key := 601) rfl (kc := 25) rfl s1.1 rfl).trans ?_
  refine (rn_bipush (pc := 52) (dd bX12_type dX12_type_52) (by decide)).trans ?_
  have e1 : vrun mX12_type 54 [(1, 3), (0, x1), (0, x2), (1, x3), (0, x4), (0, x5)] [(0, 80), (0, h 601 y0 0), (1, 3)] h = vrun mX12_type 62 [(1, 3), (0, x1), (0, x2), (1, x3), (0, x4), (0, x5)] [(0, (if ¬ (80 ≤ h 601 y0 0) then 1 else 0)), (1, 3)] h := by
    refine (rn_icmp_ge (t := 61) (pc := 54) (dd bX12_type dX12_type_54) rfl).trans ?_
    by_cases c1 : 80 ≤ h 601 y0 0
    · refine (if_pos c1).trans ?_
      refine (rn_iconst (pc := 61) (dd bX12_type dX12_type_61) (by decide)).trans ?_
      refine Eq.trans (b := vrun mX12_type 62 [(1, 3), (0, x1), (0, x2), (1, x3), (0, x4), (0, x5)] [(0, 0), (1, 3)] h) rfl ?_
      simp only [c1, true_or, false_or, or_true, or_false, true_and, false_and, and_true, and_false, not_true_eq_false, not_false_eq_true, ne_eq, if_true, if_false, ↓reduceIte]
    · refine (if_neg c1).trans ?_
      refine (rn_iconst (pc := 57) (dd bX12_type dX12_type_57) (by decide)).trans ?_
      refine (rn_goto (t := 62) (pc := 58) (dd bX12_type dX12_type_58) rfl).trans ?_
      refine Eq.trans (b := vrun mX12_type 62 [(1, 3), (0, x1), (0, x2), (1, x3), (0, x4), (0, x5)] [(0, 1), (1, 3)] h) rfl ?_
      simp only [c1, true_or, false_or, or_true, or_false, true_and, false_and, and_true, and_false, not_true_eq_false, not_false_eq_true, ne_eq, if_true, if_false, ↓reduceIte]
  refine e1.trans ?_
  exact rg_virtual (pc := 62) (dd bX12_type dX12_type_62) rfl rfl (by decide) (kc := 33) rfl s2.1 (as := [(1, 3), (0, (if ¬ (80 ≤ h 601 y0 0) then 1 else 0))]) rfl ⟨Nat.le_of_ble_eq_true rfl, Nat.le_of_ble_eq_true rfl, Nat.le_of_ble_eq_true rfl, Nat.le_of_ble_eq_true rfl⟩
theorem rX12_type_74 {x1 : Int} {x2 : Int} {x3 : Int} {x4 : Int} {x5 : Int} {h : vH} (s1 : shPane h x3) : vrun mX12_type 74 [(1, 3), (0, x1), (0, x2), (1, x3), (0, x4), (0, x5)] [] h = vret vrun mX12_type 75 [(1, 3), (0, x1), (0, x2), (1, x3), (0, x4), (0, x5)] [] (vcl mX5_refresh [(1, x3)] h) := by
  refine (rn_aload_n (pc := 74) (dd bX12_type dX12_type_74) rfl).trans ?_
  exact rg_virtual (pc := 75) (dd bX12_type dX12_type_75) rfl rfl (by decide) (kc := 26) rfl s1.1 (as := [(1, x3)]) rfl ⟨Nat.le_of_ble_eq_true rfl, Nat.le_of_ble_eq_true rfl, Nat.le_of_ble_eq_true rfl, Nat.le_of_ble_eq_true rfl⟩
theorem rX12_type_78 {x1 : Int} {x2 : Int} {x3 : Int} {x4 : Int} {x5 : Int} {h : vH} (p1 : (-2147483648) ≤ x5 + 1) (p2 : x5 + 1 < 2147483648) (s3 : shPane h x3) : vrun mX12_type 78 [(1, 3), (0, x1), (0, x2), (1, x3), (0, x4), (0, x5)] [] h = vret vrun mX12_type 85 [(1, 3), (0, x1), (0, x2), (1, x3), (0, x4), (0, x5)] [] (vcl mX5_putCursor [(1, x3), (0, x4), (0, x5 + 1)] h) := by
  refine (rn_aload_n (pc := 78) (dd bX12_type dX12_type_78) rfl).trans ?_
  refine (rn_iload (pc := 79) (dd bX12_type dX12_type_79) rfl).trans ?_
  refine (rn_iload (pc := 81) (dd bX12_type dX12_type_81) rfl).trans ?_
  refine (rn_iconst (pc := 83) (dd bX12_type dX12_type_83) (by decide)).trans ?_
  refine (rg_iadd (pc := 84) (dd bX12_type dX12_type_84) p1 p2).trans ?_
  exact rg_virtual (pc := 85) (dd bX12_type dX12_type_85) rfl rfl (by decide) (kc := 26) rfl s3.1 (as := [(1, x3), (0, x4), (0, x5 + 1)]) rfl ⟨Nat.le_of_ble_eq_true rfl, Nat.le_of_ble_eq_true rfl, Nat.le_of_ble_eq_true rfl, Nat.le_of_ble_eq_true rfl⟩
theorem rX12_type_88 {x1 : Int} {x2 : Int} {x3 : Int} {x4 : Int} {x5 : Int} {h : vH} (s1 : shPL h) (s2 : shStack h) (p3 : ¬ (x1 < 0) ∧ ¬ (4 ≤ x1) → 0 ≤ x1) (p4 : ¬ (x1 < 0) ∧ ¬ (4 ≤ x1) → x1 < 4) (s5 : shPane h x3) : vrun mX12_type 88 [(1, 3), (0, x1), (0, x2), (1, x3), (0, x4), (0, x5)] [] h = vret vrun mX12_type 97 [(1, 3), (0, x1), (0, x2), (1, x3), (0, x4), (0, x5)] [] (vcl mX5_follow [(1, x3), (0, fX9_heightOf h x1)] h) := by
  refine (rn_aload_n (pc := 88) (dd bX12_type dX12_type_88) rfl).trans ?_
  refine (rn_aload_n (pc := 89) (dd bX12_type dX12_type_89) rfl).trans ?_
  refine (rg_gf (pc := 90) (dd bX12_type dX12_type_90) (ci := 13) (j := 2) rfl rfl (key := 1402) rfl (kc := 33) rfl s1.1 s1.2.2.2.2.2.2.1).trans ?_
  refine (rn_iload_n (pc := 93) (dd bX12_type dX12_type_93) rfl).trans ?_
  refine (rg_virtual (pc := 94) (dd bX12_type dX12_type_94) rfl rfl (by decide) (kc := 30) rfl s2.1 (as := [(1, 127), (0, x1)]) rfl ⟨Nat.le_of_ble_eq_true rfl, Nat.le_of_ble_eq_true rfl, Nat.le_of_ble_eq_true rfl, Nat.le_of_ble_eq_true rfl⟩).trans ?_
  refine (vret_v (spX9_heightOf s2 p3 p4)).trans ?_
  exact rg_virtual (pc := 97) (dd bX12_type dX12_type_97) rfl rfl (by decide) (kc := 26) rfl s5.1 (as := [(1, x3), (0, fX9_heightOf h x1)]) rfl ⟨Nat.le_of_ble_eq_true rfl, Nat.le_of_ble_eq_true rfl, Nat.le_of_ble_eq_true rfl, Nat.le_of_ble_eq_true rfl⟩
theorem rX12_type_100 {x1 : Int} {x2 : Int} {x3 : Int} {x4 : Int} {x5 : Int} {h : vH} (p1 : (-2147483648) ≤ x5 + 1) (p2 : x5 + 1 < 2147483648) : vrun mX12_type 100 [(1, 3), (0, x1), (0, x2), (1, x3), (0, x4), (0, x5)] [] h = some (.inl (some (0, x5 + 1)), h) := by
  refine (rn_iload (pc := 100) (dd bX12_type dX12_type_100) rfl).trans ?_
  refine (rn_iconst (pc := 102) (dd bX12_type dX12_type_102) (by decide)).trans ?_
  refine (rg_iadd (pc := 103) (dd bX12_type dX12_type_103) p1 p2).trans ?_
  exact rn_ireturn (pc := 104) (dd bX12_type dX12_type_104) (Or.inl rfl)
theorem bX12_draw : vmB mX12_draw = cX12_draw := rfl
theorem rX12_draw_0 {x1 : Int} {h : vH} (s1 : shPL h) : vrun mX12_draw 0 [(1, 3), (0, x1), (9, 0)] [] h = vret vrun mX12_draw 2 [(1, 3), (0, x1), (9, 0)] [] (vcl mX12_laidPane [(1, 3), (0, x1)] h) := by
  refine (rn_aload_n (pc := 0) (dd bX12_draw dX12_draw_0) rfl).trans ?_
  refine (rn_iload_n (pc := 1) (dd bX12_draw dX12_draw_1) rfl).trans ?_
  exact rg_virtual (pc := 2) (dd bX12_draw dX12_draw_2) rfl rfl (by decide) (kc := 33) rfl s1.1 (as := [(1, 3), (0, x1)]) rfl ⟨Nat.le_of_ble_eq_true rfl, Nat.le_of_ble_eq_true rfl, Nat.le_of_ble_eq_true rfl, Nat.le_of_ble_eq_true rfl⟩
theorem rX12_draw_5 {x1 : Int} {y0 : Int} {h : vH} (s1 : shPL h) (s2 : shStack h) (p3 : ¬ (x1 < 0) ∧ ¬ (4 ≤ x1) → 0 ≤ x1) (p4 : ¬ (x1 < 0) ∧ ¬ (4 ≤ x1) → x1 < 4) : vrun mX12_draw 5 [(1, 3), (0, x1), (9, 0)] [(1, y0)] h = vret vrun mX12_draw 15 [(1, 3), (0, x1), (1, y0)] [] (vcl mX12_checkState [(1, 3), (0, fX9_isOpen h x1)] h) := by
  refine (rn_astore_n (pc := 5) (dd bX12_draw dX12_draw_5) (Nat.le_of_ble_eq_true rfl) rfl).trans ?_
  refine (rn_aload_n (pc := 6) (dd bX12_draw dX12_draw_6) rfl).trans ?_
  refine (rn_aload_n (pc := 7) (dd bX12_draw dX12_draw_7) rfl).trans ?_
  refine (rg_gf (pc := 8) (dd bX12_draw dX12_draw_8) (ci := 13) (j := 2) rfl rfl (key := 1402) rfl (kc := 33) rfl s1.1 s1.2.2.2.2.2.2.1).trans ?_
  refine (rn_iload_n (pc := 11) (dd bX12_draw dX12_draw_11) rfl).trans ?_
  refine (rg_virtual (pc := 12) (dd bX12_draw dX12_draw_12) rfl rfl (by decide) (kc := 30) rfl s2.1 (as := [(1, 127), (0, x1)]) rfl ⟨Nat.le_of_ble_eq_true rfl, Nat.le_of_ble_eq_true rfl, Nat.le_of_ble_eq_true rfl, Nat.le_of_ble_eq_true rfl⟩).trans ?_
  refine (vret_v (spX9_isOpen s2 p3 p4)).trans ?_
  exact rg_virtual (pc := 15) (dd bX12_draw dX12_draw_15) rfl rfl (by decide) (kc := 33) rfl s1.1 (as := [(1, 3), (0, fX9_isOpen h x1)]) rfl ⟨Nat.le_of_ble_eq_true rfl, Nat.le_of_ble_eq_true rfl, Nat.le_of_ble_eq_true rfl, Nat.le_of_ble_eq_true rfl⟩
theorem rX12_draw_18 {x1 : Int} {x2 : Int} {h : vH} (s1 : shPL h) (s2 : shStack h) (p3 : ¬ (x1 < 0) ∧ ¬ (4 ≤ x1) → 0 ≤ x1) (p4 : ¬ (x1 < 0) ∧ ¬ (4 ≤ x1) → x1 < 4) (s5 : shPane h x2) : vrun mX12_draw 18 [(1, 3), (0, x1), (1, x2)] [] h = vret vrun mX12_draw 27 [(1, 3), (0, x1), (1, x2)] [] (vcl mX5_redraw [(1, x2), (0, fX9_heightOf h x1)] h) := by
  refine (rn_aload_n (pc := 18) (dd bX12_draw dX12_draw_18) rfl).trans ?_
  refine (rn_aload_n (pc := 19) (dd bX12_draw dX12_draw_19) rfl).trans ?_
  refine (rg_gf (pc := 20) (dd bX12_draw dX12_draw_20) (ci := 13) (j := 2) rfl rfl (key := 1402) rfl (kc := 33) rfl s1.1 s1.2.2.2.2.2.2.1).trans ?_
  refine (rn_iload_n (pc := 23) (dd bX12_draw dX12_draw_23) rfl).trans ?_
  refine (rg_virtual (pc := 24) (dd bX12_draw dX12_draw_24) rfl rfl (by decide) (kc := 30) rfl s2.1 (as := [(1, 127), (0, x1)]) rfl ⟨Nat.le_of_ble_eq_true rfl, Nat.le_of_ble_eq_true rfl, Nat.le_of_ble_eq_true rfl, Nat.le_of_ble_eq_true rfl⟩).trans ?_
  refine (vret_v (spX9_heightOf s2 p3 p4)).trans ?_
  exact rg_virtual (pc := 27) (dd bX12_draw dX12_draw_27) rfl rfl (by decide) (kc := 26) rfl s5.1 (as := [(1, x2), (0, fX9_heightOf h x1)]) rfl ⟨Nat.le_of_ble_eq_true rfl, Nat.le_of_ble_eq_true rfl, Nat.le_of_ble_eq_true rfl, Nat.le_of_ble_eq_true rfl⟩
theorem rX12_draw_30 {x1 : Int} {x2 : Int} {y0 : Int} {h : vH} : vrun mX12_draw 30 [(1, 3), (0, x1), (1, x2)] [(0, y0)] h = some (.inl (some (0, y0)), h) := by
  exact rn_ireturn (pc := 30) (dd bX12_draw dX12_draw_30) (Or.inl rfl)
theorem bX12_shift : vmB mX12_shift = cX12_shift := rfl
theorem rX12_shift_0 {x1 : Int} {h : vH} (s1 : shPL h) : vrun mX12_shift 0 [(1, 3), (0, x1)] [] h = vret vrun mX12_shift 2 [(1, 3), (0, x1)] [] (vcl mX12_paneOf [(1, 3), (0, x1)] h) := by
  refine (rn_aload_n (pc := 0) (dd bX12_shift dX12_shift_0) rfl).trans ?_
  refine (rn_iload_n (pc := 1) (dd bX12_shift dX12_shift_1) rfl).trans ?_
  exact rg_virtual (pc := 2) (dd bX12_shift dX12_shift_2) rfl rfl (by decide) (kc := 33) rfl s1.1 (as := [(1, 3), (0, x1)]) rfl ⟨Nat.le_of_ble_eq_true rfl, Nat.le_of_ble_eq_true rfl, Nat.le_of_ble_eq_true rfl, Nat.le_of_ble_eq_true rfl⟩
theorem rX12_shift_5 {x1 : Int} {y0 : Int} {h : vH} (s1 : shPane h y0) : vrun mX12_shift 5 [(1, 3), (0, x1)] [(1, y0)] h = some (.inl (some (0, h 719 y0 0)), h) := by
  refine (rg_gf (pc := 5) (dd bX12_shift dX12_shift_5) (ci := 6) (j := 19) rfl rfl (key := 719) rfl (kc := 26) rfl s1.1 rfl).trans ?_
  exact rn_ireturn (pc := 8) (dd bX12_shift dX12_shift_8) (Or.inl rfl)

