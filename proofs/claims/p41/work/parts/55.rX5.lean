theorem bX5_forgetLine : vmB mX5_forgetLine = cX5_forgetLine := rfl
theorem rX5_forgetLine_0 {x0 : Int} {x1 : Int} {h : vH} (s1 : shPane h x0) : vrun mX5_forgetLine 0 [(1, x0), (0, x1)] [] h = some (.inl none, vup (vup (if x1 < 0 then h else (if 60 ≤ x1 then h else vup h 2 (x0 + 26) x1 (-1))) 714 x0 0 0) 715 x0 0 (-1)) := by
  refine (rn_iload_n (pc := 0) (dd bX5_forgetLine dX5_forgetLine_0) rfl).trans ?_
  have e2 : vrun mX5_forgetLine 1 [(1, x0), (0, x1)] [(0, x1)] h = vrun mX5_forgetLine 17 [(1, x0), (0, x1)] [] (if x1 < 0 then h else (if 60 ≤ x1 then h else vup h 2 (x0 + 26) x1 (-1))) := by
    refine (rn_if_lt (t := 17) (pc := 1) (dd bX5_forgetLine dX5_forgetLine_1) rfl).trans ?_
    by_cases c1 : x1 < 0
    · refine (if_pos c1).trans ?_
      refine Eq.trans (b := vrun mX5_forgetLine 17 [(1, x0), (0, x1)] [] h) rfl ?_
      simp only [if_pos c1]
    · refine (if_neg c1).trans ?_
      refine (rn_iload_n (pc := 4) (dd bX5_forgetLine dX5_forgetLine_4) rfl).trans ?_
      refine (rn_bipush (pc := 5) (dd bX5_forgetLine dX5_forgetLine_5) (by decide)).trans ?_
      have e1 : vrun mX5_forgetLine 7 [(1, x0), (0, x1)] [(0, 60), (0, x1)] h = vrun mX5_forgetLine 17 [(1, x0), (0, x1)] [] (if 60 ≤ x1 then h else vup h 2 (x0 + 26) x1 (-1)) := by
        refine (rn_icmp_ge (t := 17) (pc := 7) (dd bX5_forgetLine dX5_forgetLine_7) rfl).trans ?_
        by_cases c2 : 60 ≤ x1
        · refine (if_pos c2).trans ?_
          refine Eq.trans (b := vrun mX5_forgetLine 17 [(1, x0), (0, x1)] [] h) rfl ?_
          simp only [if_pos c2]
        · refine (if_neg c2).trans ?_
          refine (rn_aload_n (pc := 10) (dd bX5_forgetLine dX5_forgetLine_10) rfl).trans ?_
          refine (rg_gf (pc := 11) (dd bX5_forgetLine dX5_forgetLine_11) (ci := 6) (j := 11) rfl rfl (key := 711) rfl (kc := 26) rfl s1.1 s1.2.2.2.2.2.2.2.2.2.2.2.2.2.2.1).trans ?_
          refine (rn_iload_n (pc := 14) (dd bX5_forgetLine dX5_forgetLine_14) rfl).trans ?_
          refine (rn_iconst (pc := 15) (dd bX5_forgetLine dX5_forgetLine_15) (by decide)).trans ?_
          refine (rg_iastore (pc := 16) (dd bX5_forgetLine dX5_forgetLine_16) s1.2.2.2.2.2.2.2.2.2.2.2.2.2.2.2.1 s1.2.2.2.2.2.2.2.2.2.2.2.2.2.2.2.2.1 (Int.not_lt.mp c1) (Int.not_le.mp c2)).trans ?_
          refine Eq.trans (b := vrun mX5_forgetLine 17 [(1, x0), (0, x1)] [] (vup h 2 (x0 + 26) x1 (-1))) rfl ?_
          simp only [if_neg c2]
      refine e1.trans ?_
      refine Eq.trans (b := vrun mX5_forgetLine 17 [(1, x0), (0, x1)] [] (if 60 ≤ x1 then h else vup h 2 (x0 + 26) x1 (-1))) rfl ?_
      simp only [if_neg c1]
  refine e2.trans ?_
  refine (rn_aload_n (pc := 17) (dd bX5_forgetLine dX5_forgetLine_17) rfl).trans ?_
  refine (rn_iconst (pc := 18) (dd bX5_forgetLine dX5_forgetLine_18) (by decide)).trans ?_
  refine (rg_pf (pc := 19) (dd bX5_forgetLine dX5_forgetLine_19) (ci := 6) (j := 14) rfl (key := 714) rfl (kc := 26) rfl (ite_rd s1.1 (ite_rd s1.1 ((vup_k (by decide)).trans s1.1))) rfl (fun _ => (by decide)) (by decide)).trans ?_
  refine (rn_aload_n (pc := 22) (dd bX5_forgetLine dX5_forgetLine_22) rfl).trans ?_
  refine (rn_iconst (pc := 23) (dd bX5_forgetLine dX5_forgetLine_23) (by decide)).trans ?_
  refine (rg_pf (pc := 24) (dd bX5_forgetLine dX5_forgetLine_24) (ci := 6) (j := 15) rfl (key := 715) rfl (kc := 26) rfl ((vup_k (by decide)).trans (ite_rd s1.1 (ite_rd s1.1 ((vup_k (by decide)).trans s1.1)))) rfl (by intro z; cases z) (by decide)).trans ?_
  exact rn_return (pc := 27) (dd bX5_forgetLine dX5_forgetLine_27) rfl
theorem bX5_signCame : vmB mX5_signCame = cX5_signCame := rfl
theorem rX5_signCame_0 {x0 : Int} {x1 : Int} {x2 : Int} {h : vH} (s1 : shPane h x0) : vrun mX5_signCame 0 [(1, x0), (0, x1), (0, x2)] [] h = vret vrun mX5_signCame 6 [(1, x0), (0, x1), (0, x2)] [] (vcl mX2_signCame [(1, x0 + 1), (0, x1), (0, x2)] h) := by
  refine (rn_aload_n (pc := 0) (dd bX5_signCame dX5_signCame_0) rfl).trans ?_
  refine (rg_gf (pc := 1) (dd bX5_signCame dX5_signCame_1) (ci := 6) (j := 1) rfl rfl (key := 701) rfl (kc := 26) rfl s1.1 s1.2.2.1).trans ?_
  refine (rn_iload_n (pc := 4) (dd bX5_signCame dX5_signCame_4) rfl).trans ?_
  refine (rn_iload_n (pc := 5) (dd bX5_signCame dX5_signCame_5) rfl).trans ?_
  exact rg_virtual (pc := 6) (dd bX5_signCame dX5_signCame_6) rfl rfl (by decide) (kc := 23) rfl s1.2.2.2.1.1 (as := [(1, x0 + 1), (0, x1), (0, x2)]) rfl ⟨Nat.le_of_ble_eq_true rfl, Nat.le_of_ble_eq_true rfl, Nat.le_of_ble_eq_true rfl, Nat.le_of_ble_eq_true rfl⟩
theorem rX5_signCame_9 {x0 : Int} {x1 : Int} {x2 : Int} {h : vH} (s1 : shPane h x0) : vrun mX5_signCame 9 [(1, x0), (0, x1), (0, x2)] [] h = vret vrun mX5_signCame 15 [(1, x0), (0, x1), (0, x2)] [] (vcl mX7_signCame [(1, x0 + 23), (0, x1), (0, x2)] h) := by
  refine (rn_aload_n (pc := 9) (dd bX5_signCame dX5_signCame_9) rfl).trans ?_
  refine (rg_gf (pc := 10) (dd bX5_signCame dX5_signCame_10) (ci := 6) (j := 4) rfl rfl (key := 704) rfl (kc := 26) rfl s1.1 s1.2.2.2.2.2.2.2.2.1).trans ?_
  refine (rn_iload_n (pc := 13) (dd bX5_signCame dX5_signCame_13) rfl).trans ?_
  refine (rn_iload_n (pc := 14) (dd bX5_signCame dX5_signCame_14) rfl).trans ?_
  exact rg_virtual (pc := 15) (dd bX5_signCame dX5_signCame_15) rfl rfl (by decide) (kc := 28) rfl s1.2.2.2.2.2.2.2.2.2.1 (as := [(1, x0 + 23), (0, x1), (0, x2)]) rfl ⟨Nat.le_of_ble_eq_true rfl, Nat.le_of_ble_eq_true rfl, Nat.le_of_ble_eq_true rfl, Nat.le_of_ble_eq_true rfl⟩
theorem rX5_signCame_18 {x0 : Int} {x1 : Int} {x2 : Int} {h : vH} (s1 : shPane h x0) : vrun mX5_signCame 18 [(1, x0), (0, x1), (0, x2)] [] h = vret vrun mX5_signCame 24 [(1, x0), (0, x1), (0, x2)] [] (vcl mX7_signCame [(1, x0 + 24), (0, x1), (0, x2)] h) := by
  refine (rn_aload_n (pc := 18) (dd bX5_signCame dX5_signCame_18) rfl).trans ?_
  refine (rg_gf (pc := 19) (dd bX5_signCame dX5_signCame_19) (ci := 6) (j := 5) rfl rfl (key := 705) rfl (kc := 26) rfl s1.1 s1.2.2.2.2.2.2.2.2.2.2.1).trans ?_
  refine (rn_iload_n (pc := 22) (dd bX5_signCame dX5_signCame_22) rfl).trans ?_
  refine (rn_iload_n (pc := 23) (dd bX5_signCame dX5_signCame_23) rfl).trans ?_
  exact rg_virtual (pc := 24) (dd bX5_signCame dX5_signCame_24) rfl rfl (by decide) (kc := 28) rfl s1.2.2.2.2.2.2.2.2.2.2.2.1 (as := [(1, x0 + 24), (0, x1), (0, x2)]) rfl ⟨Nat.le_of_ble_eq_true rfl, Nat.le_of_ble_eq_true rfl, Nat.le_of_ble_eq_true rfl, Nat.le_of_ble_eq_true rfl⟩
theorem rX5_signCame_27 {x0 : Int} {x1 : Int} {x2 : Int} {h : vH} (s1 : shPane h x0) : vrun mX5_signCame 27 [(1, x0), (0, x1), (0, x2)] [] h = vret vrun mX5_signCame 29 [(1, x0), (0, x1), (0, x2)] [] (vcl mX5_forgetLine [(1, x0), (0, x1)] h) := by
  refine (rn_aload_n (pc := 27) (dd bX5_signCame dX5_signCame_27) rfl).trans ?_
  refine (rn_iload_n (pc := 28) (dd bX5_signCame dX5_signCame_28) rfl).trans ?_
  exact rg_virtual (pc := 29) (dd bX5_signCame dX5_signCame_29) rfl rfl (by decide) (kc := 26) rfl s1.1 (as := [(1, x0), (0, x1)]) rfl ⟨Nat.le_of_ble_eq_true rfl, Nat.le_of_ble_eq_true rfl, Nat.le_of_ble_eq_true rfl, Nat.le_of_ble_eq_true rfl⟩
theorem rX5_signCame_32 {x0 : Int} {x1 : Int} {x2 : Int} {h : vH} : vrun mX5_signCame 32 [(1, x0), (0, x1), (0, x2)] [] h = some (.inl none, h) := by
  exact rn_return (pc := 32) (dd bX5_signCame dX5_signCame_32) rfl
theorem bX5_signsWent : vmB mX5_signsWent = cX5_signsWent := rfl
theorem rX5_signsWent_0 {x0 : Int} {x1 : Int} {x2 : Int} {x3 : Int} {h : vH} (s1 : shPane h x0) : vrun mX5_signsWent 0 [(1, x0), (0, x1), (0, x2), (0, x3)] [] h = vret vrun mX5_signsWent 7 [(1, x0), (0, x1), (0, x2), (0, x3)] [] (vcl mX2_signsWent [(1, x0 + 1), (0, x1), (0, x2), (0, x3)] h) := by
  refine (rn_aload_n (pc := 0) (dd bX5_signsWent dX5_signsWent_0) rfl).trans ?_
  refine (rg_gf (pc := 1) (dd bX5_signsWent dX5_signsWent_1) (ci := 6) (j := 1) rfl rfl (key := 701) rfl (kc := 26) rfl s1.1 s1.2.2.1).trans ?_
  refine (rn_iload_n (pc := 4) (dd bX5_signsWent dX5_signsWent_4) rfl).trans ?_
  refine (rn_iload_n (pc := 5) (dd bX5_signsWent dX5_signsWent_5) rfl).trans ?_
  refine (rn_iload_n (pc := 6) (dd bX5_signsWent dX5_signsWent_6) rfl).trans ?_
  exact rg_virtual (pc := 7) (dd bX5_signsWent dX5_signsWent_7) rfl rfl (by decide) (kc := 23) rfl s1.2.2.2.1.1 (as := [(1, x0 + 1), (0, x1), (0, x2), (0, x3)]) rfl ⟨Nat.le_of_ble_eq_true rfl, Nat.le_of_ble_eq_true rfl, Nat.le_of_ble_eq_true rfl, Nat.le_of_ble_eq_true rfl⟩
theorem rX5_signsWent_10 {x0 : Int} {x1 : Int} {x2 : Int} {x3 : Int} {h : vH} (s1 : shPane h x0) : vrun mX5_signsWent 10 [(1, x0), (0, x1), (0, x2), (0, x3)] [] h = vret vrun mX5_signsWent 17 [(1, x0), (0, x1), (0, x2), (0, x3)] [] (vcl mX7_signsWent [(1, x0 + 23), (0, x1), (0, x2), (0, x3)] h) := by
  refine (rn_aload_n (pc := 10) (dd bX5_signsWent dX5_signsWent_10) rfl).trans ?_
  refine (rg_gf (pc := 11) (dd bX5_signsWent dX5_signsWent_11) (ci := 6) (j := 4) rfl rfl (key := 704) rfl (kc := 26) rfl s1.1 s1.2.2.2.2.2.2.2.2.1).trans ?_
  refine (rn_iload_n (pc := 14) (dd bX5_signsWent dX5_signsWent_14) rfl).trans ?_
  refine (rn_iload_n (pc := 15) (dd bX5_signsWent dX5_signsWent_15) rfl).trans ?_
  refine (rn_iload_n (pc := 16) (dd bX5_signsWent dX5_signsWent_16) rfl).trans ?_
  exact rg_virtual (pc := 17) (dd bX5_signsWent dX5_signsWent_17) rfl rfl (by decide) (kc := 28) rfl s1.2.2.2.2.2.2.2.2.2.1 (as := [(1, x0 + 23), (0, x1), (0, x2), (0, x3)]) rfl ⟨Nat.le_of_ble_eq_true rfl, Nat.le_of_ble_eq_true rfl, Nat.le_of_ble_eq_true rfl, Nat.le_of_ble_eq_true rfl⟩
theorem rX5_signsWent_20 {x0 : Int} {x1 : Int} {x2 : Int} {x3 : Int} {h : vH} (s1 : shPane h x0) : vrun mX5_signsWent 20 [(1, x0), (0, x1), (0, x2), (0, x3)] [] h = vret vrun mX5_signsWent 27 [(1, x0), (0, x1), (0, x2), (0, x3)] [] (vcl mX7_signsWent [(1, x0 + 24), (0, x1), (0, x2), (0, x3)] h) := by
  refine (rn_aload_n (pc := 20) (dd bX5_signsWent dX5_signsWent_20) rfl).trans ?_
  refine (rg_gf (pc := 21) (dd bX5_signsWent dX5_signsWent_21) (ci := 6) (j := 5) rfl rfl (key := 705) rfl (kc := 26) rfl s1.1 s1.2.2.2.2.2.2.2.2.2.2.1).trans ?_
  refine (rn_iload_n (pc := 24) (dd bX5_signsWent dX5_signsWent_24) rfl).trans ?_
  refine (rn_iload_n (pc := 25) (dd bX5_signsWent dX5_signsWent_25) rfl).trans ?_
  refine (rn_iload_n (pc := 26) (dd bX5_signsWent dX5_signsWent_26) rfl).trans ?_
  exact rg_virtual (pc := 27) (dd bX5_signsWent dX5_signsWent_27) rfl rfl (by decide) (kc := 28) rfl s1.2.2.2.2.2.2.2.2.2.2.2.1 (as := [(1, x0 + 24), (0, x1), (0, x2), (0, x3)]) rfl ⟨Nat.le_of_ble_eq_true rfl, Nat.le_of_ble_eq_true rfl, Nat.le_of_ble_eq_true rfl, Nat.le_of_ble_eq_true rfl⟩
theorem rX5_signsWent_30 {x0 : Int} {x1 : Int} {x2 : Int} {x3 : Int} {h : vH} (s1 : shPane h x0) : vrun mX5_signsWent 30 [(1, x0), (0, x1), (0, x2), (0, x3)] [] h = vret vrun mX5_signsWent 32 [(1, x0), (0, x1), (0, x2), (0, x3)] [] (vcl mX5_forgetLine [(1, x0), (0, x1)] h) := by
  refine (rn_aload_n (pc := 30) (dd bX5_signsWent dX5_signsWent_30) rfl).trans ?_
  refine (rn_iload_n (pc := 31) (dd bX5_signsWent dX5_signsWent_31) rfl).trans ?_
  exact rg_virtual (pc := 32) (dd bX5_signsWent dX5_signsWent_32) rfl rfl (by decide) (kc := 26) rfl s1.1 (as := [(1, x0), (0, x1)]) rfl ⟨Nat.le_of_ble_eq_true rfl, Nat.le_of_ble_eq_true rfl, Nat.le_of_ble_eq_true rfl, Nat.le_of_ble_eq_true rfl⟩
theorem rX5_signsWent_35 {x0 : Int} {x1 : Int} {x2 : Int} {x3 : Int} {h : vH} : vrun mX5_signsWent 35 [(1, x0), (0, x1), (0, x2), (0, x3)] [] h = some (.inl none, h) := by
  exact rn_return (pc := 35) (dd bX5_signsWent dX5_signsWent_35) rfl
theorem bX5_forgetFrom : vmB mX5_forgetFrom = cX5_forgetFrom := rfl
theorem rX5_forgetFrom_0 {x0 : Int} {x1 : Int} {h : vH} : vrun mX5_forgetFrom 0 [(1, x0), (0, x1), (9, 0)] [] h = vrun mX5_forgetFrom 6 [(1, x0), (0, x1), (0, max x1 0)] [] h := by
  refine (rn_iload_n (pc := 0) (dd bX5_forgetFrom dX5_forgetFrom_0) rfl).trans ?_
  refine (rn_iconst (pc := 1) (dd bX5_forgetFrom dX5_forgetFrom_1) (by decide)).trans ?_
  refine (rg_max (pc := 2) (dd bX5_forgetFrom dX5_forgetFrom_2) rfl ⟨Nat.le_of_ble_eq_true rfl, Nat.le_of_ble_eq_true rfl, Nat.le_of_ble_eq_true rfl⟩).trans ?_
  refine (rn_istore_n (pc := 5) (dd bX5_forgetFrom dX5_forgetFrom_5) (Nat.le_of_ble_eq_true rfl) rfl).trans ?_
  rfl
theorem rX5_forgetFrom_6 {x0 : Int} {x1 : Int} {x2 : Int} {h : vH} (s1 : shPane h x0) (p2 : ¬ (60 ≤ x2) → 0 ≤ x2) : vrun mX5_forgetFrom 6 [(1, x0), (0, x1), (0, x2)] [] h = if 60 ≤ x2 then some (.inl none, vup (vup h 714 x0 0 0) 715 x0 0 (-1)) else vrun mX5_forgetFrom 6 [(1, x0), (0, x1), (0, x2 + 1)] [] (vup h 2 (x0 + 26) x2 (-1)) := by
  refine (rn_iload_n (pc := 6) (dd bX5_forgetFrom dX5_forgetFrom_6) rfl).trans ?_
  refine (rn_bipush (pc := 7) (dd bX5_forgetFrom dX5_forgetFrom_7) (by decide)).trans ?_
  refine (rn_icmp_ge (t := 25) (pc := 9) (dd bX5_forgetFrom dX5_forgetFrom_9) rfl).trans (itec (fun c1 => ?_) (fun c1 => ?_))
  · refine (rn_aload_n (pc := 25) (dd bX5_forgetFrom dX5_forgetFrom_25) rfl).trans ?_
    refine (rn_iconst (pc := 26) (dd bX5_forgetFrom dX5_forgetFrom_26) (by decide)).trans ?_
    refine (rg_pf (pc := 27) (dd bX5_forgetFrom dX5_forgetFrom_27) (ci := 6) (j := 14) rfl (key := 714) rfl (kc := 26) rfl s1.1 rfl (fun _ => (by decide)) (by decide)).trans ?_
    refine (rn_aload_n (pc := 30) (dd bX5_forgetFrom dX5_forgetFrom_30) rfl).trans ?_
    refine (rn_iconst (pc := 31) (dd bX5_forgetFrom dX5_forgetFrom_31) (by decide)).trans ?_
    refine (rg_pf (pc := 32) (dd bX5_forgetFrom dX5_forgetFrom_32) (ci := 6) (j := 15) rfl (key := 715) rfl (kc := 26) rfl ((vup_k (by decide)).trans s1.1) rfl (by intro z; cases z) (by decide)).trans ?_
    exact rn_return (pc := 35) (dd bX5_forgetFrom dX5_forgetFrom_35) rfl
  · refine (rn_aload_n (pc := 12) (dd bX5_forgetFrom dX5_forgetFrom_12) rfl).trans ?_
    refine (rg_gf (pc := 13) (dd bX5_forgetFrom dX5_forgetFrom_13) (ci := 6) (j := 11) rfl rfl (key := 711) rfl (kc := 26) rfl s1.1 s1.2.2.2.2.2.2.2.2.2.2.2.2.2.2.1).trans ?_
    refine (rn_iload_n (pc := 16) (dd bX5_forgetFrom dX5_forgetFrom_16) rfl).trans ?_
    refine (rn_iconst (pc := 17) (dd bX5_forgetFrom dX5_forgetFrom_17) (by decide)).trans ?_
    refine (rg_iastore (pc := 18) (dd bX5_forgetFrom dX5_forgetFrom_18) s1.2.2.2.2.2.2.2.2.2.2.2.2.2.2.2.1 s1.2.2.2.2.2.2.2.2.2.2.2.2.2.2.2.2.1 (p2 c1) (Int.not_le.mp c1)).trans ?_
    refine (rg_iinc (pc := 19) (dd bX5_forgetFrom dX5_forgetFrom_19) rfl (Nat.le_of_ble_eq_true rfl) (by have z0 := p2 c1; omega) (by have z0 := p2 c1; omega) rfl).trans ?_
    refine (rn_goto (t := 6) (pc := 22) (dd bX5_forgetFrom dX5_forgetFrom_22) rfl).trans ?_
    rfl
theorem bX5_lineBroke : vmB mX5_lineBroke = cX5_lineBroke := rfl
theorem rX5_lineBroke_0 {x0 : Int} {x1 : Int} {x2 : Int} {h : vH} (s1 : shPane h x0) : vrun mX5_lineBroke 0 [(1, x0), (0, x1), (0, x2)] [] h = vret vrun mX5_lineBroke 6 [(1, x0), (0, x1), (0, x2)] [] (vcl mX2_lineBroke [(1, x0 + 1), (0, x1), (0, x2)] h) := by
  refine (rn_aload_n (pc := 0) (dd bX5_lineBroke dX5_lineBroke_0) rfl).trans ?_
  refine (rg_gf (pc := 1) (dd bX5_lineBroke dX5_lineBroke_1) (ci := 6) (j := 1) rfl rfl (key := 701) rfl (kc := 26) rfl s1.1 s1.2.2.1).trans ?_
  refine (rn_iload_n (pc := 4) (dd bX5_lineBroke dX5_lineBroke_4) rfl).trans ?_
  refine (rn_iload_n (pc := 5) (dd bX5_lineBroke dX5_lineBroke_5) rfl).trans ?_
  exact rg_virtual (pc := 6) (dd bX5_lineBroke dX5_lineBroke_6) rfl rfl (by decide) (kc := 23) rfl s1.2.2.2.1.1 (as := [(1, x0 + 1), (0, x1), (0, x2)]) rfl ⟨Nat.le_of_ble_eq_true rfl, Nat.le_of_ble_eq_true rfl, Nat.le_of_ble_eq_true rfl, Nat.le_of_ble_eq_true rfl⟩
theorem rX5_lineBroke_9 {x0 : Int} {x1 : Int} {x2 : Int} {h : vH} (s1 : shPane h x0) : vrun mX5_lineBroke 9 [(1, x0), (0, x1), (0, x2)] [] h = vret vrun mX5_lineBroke 15 [(1, x0), (0, x1), (0, x2)] [] (vcl mX7_lineBroke [(1, x0 + 23), (0, x1), (0, x2)] h) := by
  refine (rn_aload_n (pc := 9) (dd bX5_lineBroke dX5_lineBroke_9) rfl).trans ?_
  refine (rg_gf (pc := 10) (dd bX5_lineBroke dX5_lineBroke_10) (ci := 6) (j := 4) rfl rfl (key := 704) rfl (kc := 26) rfl s1.1 s1.2.2.2.2.2.2.2.2.1).trans ?_
  refine (rn_iload_n (pc := 13) (dd bX5_lineBroke dX5_lineBroke_13) rfl).trans ?_
  refine (rn_iload_n (pc := 14) (dd bX5_lineBroke dX5_lineBroke_14) rfl).trans ?_
  exact rg_virtual (pc := 15) (dd bX5_lineBroke dX5_lineBroke_15) rfl rfl (by decide) (kc := 28) rfl s1.2.2.2.2.2.2.2.2.2.1 (as := [(1, x0 + 23), (0, x1), (0, x2)]) rfl ⟨Nat.le_of_ble_eq_true rfl, Nat.le_of_ble_eq_true rfl, Nat.le_of_ble_eq_true rfl, Nat.le_of_ble_eq_true rfl⟩
theorem rX5_lineBroke_18 {x0 : Int} {x1 : Int} {x2 : Int} {h : vH} (s1 : shPane h x0) : vrun mX5_lineBroke 18 [(1, x0), (0, x1), (0, x2)] [] h = vret vrun mX5_lineBroke 24 [(1, x0), (0, x1), (0, x2)] [] (vcl mX7_lineBroke [(1, x0 + 24), (0, x1), (0, x2)] h) := by
  refine (rn_aload_n (pc := 18) (dd bX5_lineBroke dX5_lineBroke_18) rfl).trans ?_
  refine (rg_gf (pc := 19) (dd bX5_lineBroke dX5_lineBroke_19) (ci := 6) (j := 5) rfl rfl (key := 705) rfl (kc := 26) rfl s1.1 s1.2.2.2.2.2.2.2.2.2.2.1).trans ?_
  refine (rn_iload_n (pc := 22) (dd bX5_lineBroke dX5_lineBroke_22) rfl).trans ?_
  refine (rn_iload_n (pc := 23) (dd bX5_lineBroke dX5_lineBroke_23) rfl).trans ?_
  exact rg_virtual (pc := 24) (dd bX5_lineBroke dX5_lineBroke_24) rfl rfl (by decide) (kc := 28) rfl s1.2.2.2.2.2.2.2.2.2.2.2.1 (as := [(1, x0 + 24), (0, x1), (0, x2)]) rfl ⟨Nat.le_of_ble_eq_true rfl, Nat.le_of_ble_eq_true rfl, Nat.le_of_ble_eq_true rfl, Nat.le_of_ble_eq_true rfl⟩
theorem rX5_lineBroke_27 {x0 : Int} {x1 : Int} {x2 : Int} {h : vH} (s1 : shPane h x0) : vrun mX5_lineBroke 27 [(1, x0), (0, x1), (0, x2)] [] h = vret vrun mX5_lineBroke 29 [(1, x0), (0, x1), (0, x2)] [] (vcl mX5_forgetFrom [(1, x0), (0, x1)] h) := by
  refine (rn_aload_n (pc := 27) (dd bX5_lineBroke dX5_lineBroke_27) rfl).trans ?_
  refine (rn_iload_n (pc := 28) (dd bX5_lineBroke dX5_lineBroke_28) rfl).trans ?_
  exact rg_virtual (pc := 29) (dd bX5_lineBroke dX5_lineBroke_29) rfl rfl (by decide) (kc := 26) rfl s1.1 (as := [(1, x0), (0, x1)]) rfl ⟨Nat.le_of_ble_eq_true rfl, Nat.le_of_ble_eq_true rfl, Nat.le_of_ble_eq_true rfl, Nat.le_of_ble_eq_true rfl⟩
theorem rX5_lineBroke_32 {x0 : Int} {x1 : Int} {x2 : Int} {h : vH} : vrun mX5_lineBroke 32 [(1, x0), (0, x1), (0, x2)] [] h = some (.inl none, h) := by
  exact rn_return (pc := 32) (dd bX5_lineBroke dX5_lineBroke_32) rfl
theorem bX5_linesJoined : vmB mX5_linesJoined = cX5_linesJoined := rfl
theorem rX5_linesJoined_0 {x0 : Int} {x1 : Int} {x2 : Int} {h : vH} (s1 : shPane h x0) : vrun mX5_linesJoined 0 [(1, x0), (0, x1), (0, x2)] [] h = vret vrun mX5_linesJoined 6 [(1, x0), (0, x1), (0, x2)] [] (vcl mX2_linesJoined [(1, x0 + 1), (0, x1), (0, x2)] h) := by
  refine (rn_aload_n (pc := 0) (dd bX5_linesJoined dX5_linesJoined_0) rfl).trans ?_
  refine (rg_gf (pc := 1) (dd bX5_linesJoined dX5_linesJoined_1) (ci := 6) (j := 1) rfl rfl (key := 701) rfl (kc := 26) rfl s1.1 s1.2.2.1).trans ?_
  refine (rn_iload_n (pc := 4) (dd bX5_linesJoined dX5_linesJoined_4) rfl).trans ?_
  refine (rn_iload_n (pc := 5) (dd bX5_linesJoined dX5_linesJoined_5) rfl).trans ?_
  exact rg_virtual (pc := 6) (dd bX5_linesJoined dX5_linesJoined_6) rfl rfl (by decide) (kc := 23) rfl s1.2.2.2.1.1 (as := [(1, x0 + 1), (0, x1), (0, x2)]) rfl ⟨Nat.le_of_ble_eq_true rfl, Nat.le_of_ble_eq_true rfl, Nat.le_of_ble_eq_true rfl, Nat.le_of_ble_eq_true rfl⟩
theorem rX5_linesJoined_9 {x0 : Int} {x1 : Int} {x2 : Int} {h : vH} (s1 : shPane h x0) : vrun mX5_linesJoined 9 [(1, x0), (0, x1), (0, x2)] [] h = vret vrun mX5_linesJoined 15 [(1, x0), (0, x1), (0, x2)] [] (vcl mX7_linesJoined [(1, x0 + 23), (0, x1), (0, x2)] h) := by
  refine (rn_aload_n (pc := 9) (dd bX5_linesJoined dX5_linesJoined_9) rfl).trans ?_
  refine (rg_gf (pc := 10) (dd bX5_linesJoined dX5_linesJoined_10) (ci := 6) (j := 4) rfl rfl (key := 704) rfl (kc := 26) rfl s1.1 s1.2.2.2.2.2.2.2.2.1).trans ?_
  refine (rn_iload_n (pc := 13) (dd bX5_linesJoined dX5_linesJoined_13) rfl).trans ?_
  refine (rn_iload_n (pc := 14) (dd bX5_linesJoined dX5_linesJoined_14) rfl).trans ?_
  exact rg_virtual (pc := 15) (dd bX5_linesJoined dX5_linesJoined_15) rfl rfl (by decide) (kc := 28) rfl s1.2.2.2.2.2.2.2.2.2.1 (as := [(1, x0 + 23), (0, x1), (0, x2)]) rfl ⟨Nat.le_of_ble_eq_true rfl, Nat.le_of_ble_eq_true rfl, Nat.le_of_ble_eq_true rfl, Nat.le_of_ble_eq_true rfl⟩
theorem rX5_linesJoined_18 {x0 : Int} {x1 : Int} {x2 : Int} {h : vH} (s1 : shPane h x0) : vrun mX5_linesJoined 18 [(1, x0), (0, x1), (0, x2)] [] h = vret vrun mX5_linesJoined 24 [(1, x0), (0, x1), (0, x2)] [] (vcl mX7_linesJoined [(1, x0 + 24), (0, x1), (0, x2)] h) := by
  refine (rn_aload_n (pc := 18) (dd bX5_linesJoined dX5_linesJoined_18) rfl).trans ?_
  refine (rg_gf (pc := 19) (dd bX5_linesJoined dX5_linesJoined_19) (ci := 6) (j := 5) rfl rfl (key := 705) rfl (kc := 26) rfl s1.1 s1.2.2.2.2.2.2.2.2.2.2.1).trans ?_
  refine (rn_iload_n (pc := 22) (dd bX5_linesJoined dX5_linesJoined_22) rfl).trans ?_
  refine (rn_iload_n (pc := 23) (dd bX5_linesJoined dX5_linesJoined_23) rfl).trans ?_
  exact rg_virtual (pc := 24) (dd bX5_linesJoined dX5_linesJoined_24) rfl rfl (by decide) (kc := 28) rfl s1.2.2.2.2.2.2.2.2.2.2.2.1 (as := [(1, x0 + 24), (0, x1), (0, x2)]) rfl ⟨Nat.le_of_ble_eq_true rfl, Nat.le_of_ble_eq_true rfl, Nat.le_of_ble_eq_true rfl, Nat.le_of_ble_eq_true rfl⟩
theorem rX5_linesJoined_27 {x0 : Int} {x1 : Int} {x2 : Int} {h : vH} (s1 : shPane h x0) : vrun mX5_linesJoined 27 [(1, x0), (0, x1), (0, x2)] [] h = vret vrun mX5_linesJoined 29 [(1, x0), (0, x1), (0, x2)] [] (vcl mX5_forgetFrom [(1, x0), (0, x1)] h) := by
  refine (rn_aload_n (pc := 27) (dd bX5_linesJoined dX5_linesJoined_27) rfl).trans ?_
  refine (rn_iload_n (pc := 28) (dd bX5_linesJoined dX5_linesJoined_28) rfl).trans ?_
  exact rg_virtual (pc := 29) (dd bX5_linesJoined dX5_linesJoined_29) rfl rfl (by decide) (kc := 26) rfl s1.1 (as := [(1, x0), (0, x1)]) rfl ⟨Nat.le_of_ble_eq_true rfl, Nat.le_of_ble_eq_true rfl, Nat.le_of_ble_eq_true rfl, Nat.le_of_ble_eq_true rfl⟩
theorem rX5_linesJoined_32 {x0 : Int} {x1 : Int} {x2 : Int} {h : vH} : vrun mX5_linesJoined 32 [(1, x0), (0, x1), (0, x2)] [] h = some (.inl none, h) := by
  exact rn_return (pc := 32) (dd bX5_linesJoined dX5_linesJoined_32) rfl
theorem bX5_reshape : vmB mX5_reshape = cX5_reshape := rfl
theorem rX5_reshape_0 {x0 : Int} {x1 : Int} {x2 : Int} {x3 : Int} {h : vH} (s1 : shPane h x0) : vrun mX5_reshape 0 [(1, x0), (0, x1), (0, x2), (0, x3)] [] h = vret vrun mX5_reshape 17 [(1, x0), (0, x1), (0, x2), (0, x3)] [] (vcl mX5_forgetFrom [(1, x0), (0, 0)] (vup (vup (vup h 708 x0 0 x1) 709 x0 0 x2) 710 x0 0 x3)) := by
  refine (rn_aload_n (pc := 0) (dd bX5_reshape dX5_reshape_0) rfl).trans ?_
  refine (rn_iload_n (pc := 1) (dd bX5_reshape dX5_reshape_1) rfl).trans ?_
  refine (rg_pf (pc := 2) (dd bX5_reshape dX5_reshape_2) (ci := 6) (j := 8) rfl (key := 708) rfl (kc := 26) rfl s1.1 rfl (by intro z; cases z) (by decide)).trans ?_
  refine (rn_aload_n (pc := 5) (dd bX5_reshape dX5_reshape_5) rfl).trans ?_
  refine (rn_iload_n (pc := 6) (dd bX5_reshape dX5_reshape_6) rfl).trans ?_
  refine (rg_pf (pc := 7) (dd bX5_reshape dX5_reshape_7) (ci := 6) (j := 9) rfl (key := 709) rfl (kc := 26) rfl ((vup_k (by decide)).trans s1.1) rfl (by intro z; cases z) (by decide)).trans ?_
  refine (rn_aload_n (pc := 10) (dd bX5_reshape dX5_reshape_10) rfl).trans ?_
  refine (rn_iload_n (pc := 11) (dd bX5_reshape dX5_reshape_11) rfl).trans ?_
  refine (rg_pf (pc := 12) (dd bX5_reshape dX5_reshape_12) (ci := 6) (j := 10) rfl (key := 710) rfl (kc := 26) rfl ((vup_k (by decide)).trans ((vup_k (by decide)).trans s1.1)) rfl (by intro z; cases z) (by decide)).trans ?_
  refine (rn_aload_n (pc := 15) (dd bX5_reshape dX5_reshape_15) rfl).trans ?_
  refine (rn_iconst (pc := 16) (dd bX5_reshape dX5_reshape_16) (by decide)).trans ?_
  exact rg_virtual (pc := 17) (dd bX5_reshape dX5_reshape_17) rfl rfl (by decide) (kc := 26) rfl ((vup_k (by decide)).trans ((vup_k (by decide)).trans ((vup_k (by decide)).trans s1.1))) (as := [(1, x0), (0, 0)]) rfl ⟨Nat.le_of_ble_eq_true rfl, Nat.le_of_ble_eq_true rfl, Nat.le_of_ble_eq_true rfl, Nat.le_of_ble_eq_true rfl⟩
theorem rX5_reshape_20 {x0 : Int} {x1 : Int} {x2 : Int} {x3 : Int} {h : vH} : vrun mX5_reshape 20 [(1, x0), (0, x1), (0, x2), (0, x3)] [] h = some (.inl none, h) := by
  exact rn_return (pc := 20) (dd bX5_reshape dX5_reshape_20) rfl
theorem bX5_measured : vmB mX5_measured = cX5_measured := rfl
theorem rX5_measured_0 {x0 : Int} {x1 : Int} {h : vH} (s1 : shPane h x0) (s2 : shText h) : vrun mX5_measured 0 [(1, x0), (0, x1)] [] h = if h 715 x0 0 = x1 then some (.inl (some (1, x0 + 5)), h) else vret vrun mX5_measured 25 [(1, x0), (0, x1)] [] (vcl mX3_collect [(1, x0 + 5), (1, fX10_at h x1), (1, x0 + 1), (0, x1)] h) := by
  refine (rn_aload_n (pc := 0) (dd bX5_measured dX5_measured_0) rfl).trans ?_
  refine (rg_gf (pc := 1) (dd bX5_measured dX5_measured_1) (ci := 6) (j := 15) rfl rfl (key := 715) rfl (kc := 26) rfl s1.1 rfl).trans ?_
  refine (rn_iload_n (pc := 4) (dd bX5_measured dX5_measured_4) rfl).trans ?_
  refine (rn_icmp_eq (t := 53) (pc := 5) (dd bX5_measured dX5_measured_5) rfl).trans (itec (fun c1 => ?_) (fun c1 => ?_))
  · refine (rn_aload_n (pc := 53) (dd bX5_measured dX5_measured_53) rfl).trans ?_
    refine (rg_gf (pc := 54) (dd bX5_measured dX5_measured_54) (ci := 6) (j := 2) rfl rfl (key := 702) rfl (kc := 26) rfl s1.1 s1.2.2.2.2.1).trans ?_
    exact rn_areturn (pc := 57) (dd bX5_measured dX5_measured_57) rfl
  · refine (rn_aload_n (pc := 8) (dd bX5_measured dX5_measured_8) rfl).trans ?_
    refine (rg_gf (pc := 9) (dd bX5_measured dX5_measured_9) (ci := 6) (j := 2) rfl rfl (key := 702) rfl (kc := 26) rfl s1.1 s1.2.2.2.2.1).trans ?_
    refine (rn_aload_n (pc := 12) (dd bX5_measured dX5_measured_12) rfl).trans ?_
    refine (rg_gf (pc := 13) (dd bX5_measured dX5_measured_13) (ci := 6) (j := 0) rfl rfl (key := 700) rfl (kc := 26) rfl s1.1 s1.2.1).trans ?_
    refine (rn_iload_n (pc := 16) (dd bX5_measured dX5_measured_16) rfl).trans ?_
    refine (rg_virtual (pc := 17) (dd bX5_measured dX5_measured_17) rfl rfl (by decide) (kc := 31) rfl s2.1 (as := [(1, 4), (0, x1)]) rfl ⟨Nat.le_of_ble_eq_true rfl, Nat.le_of_ble_eq_true rfl, Nat.le_of_ble_eq_true rfl, Nat.le_of_ble_eq_true rfl⟩).trans ?_
    refine (vret_v (spX10_at s2)).trans ?_
    refine (rn_aload_n (pc := 20) (dd bX5_measured dX5_measured_20) rfl).trans ?_
    refine (rg_gf (pc := 21) (dd bX5_measured dX5_measured_21) (ci := 6) (j := 1) rfl rfl (key := 701) rfl (kc := 26) rfl s1.1 s1.2.2.1).trans ?_
    refine (rn_iload_n (pc := 24) (dd bX5_measured dX5_measured_24) rfl).trans ?_
    exact rg_virtual (pc := 25) (dd bX5_measured dX5_measured_25) rfl rfl (by decide) (kc := 24) rfl s1.2.2.2.2.2.1.1 (as := [(1, x0 + 5), (1, fX10_at h x1), (1, x0 + 1), (0, x1)]) rfl ⟨Nat.le_of_ble_eq_true rfl, Nat.le_of_ble_eq_true rfl, Nat.le_of_ble_eq_true rfl, Nat.le_of_ble_eq_true rfl⟩
theorem rX5_measured_28 {x0 : Int} {x1 : Int} {h : vH} (s1 : shPane h x0) : vrun mX5_measured 28 [(1, x0), (0, x1)] [] h = vret vrun mX5_measured 40 [(1, x0), (0, x1)] [] (vcl mX3_wrap [(1, x0 + 5), (0, h 708 x0 0), (0, h 709 x0 0)] h) := by
  refine (rn_aload_n (pc := 28) (dd bX5_measured dX5_measured_28) rfl).trans ?_
  refine (rg_gf (pc := 29) (dd bX5_measured dX5_measured_29) (ci := 6) (j := 2) rfl rfl (key := 702) rfl (kc := 26) rfl s1.1 s1.2.2.2.2.1).trans ?_
  refine (rn_aload_n (pc := 32) (dd bX5_measured dX5_measured_32) rfl).trans ?_
  refine (rg_gf (pc := 33) (dd bX5_measured dX5_measured_33) (ci := 6) (j := 8) rfl rfl (key := 708) rfl (kc := 26) rfl s1.1 rfl).trans ?_
  refine (rn_aload_n (pc := 36) (dd bX5_measured dX5_measured_36) rfl).trans ?_
  refine (rg_gf (pc := 37) (dd bX5_measured dX5_measured_37) (ci := 6) (j := 9) rfl rfl (key := 709) rfl (kc := 26) rfl s1.1 rfl).trans ?_
  exact rg_virtual (pc := 40) (dd bX5_measured dX5_measured_40) rfl rfl (by decide) (kc := 24) rfl s1.2.2.2.2.2.1.1 (as := [(1, x0 + 5), (0, h 708 x0 0), (0, h 709 x0 0)]) rfl ⟨Nat.le_of_ble_eq_true rfl, Nat.le_of_ble_eq_true rfl, Nat.le_of_ble_eq_true rfl, Nat.le_of_ble_eq_true rfl⟩
theorem rX5_measured_43 {x0 : Int} {x1 : Int} {h : vH} (s1 : shPane h x0) : vrun mX5_measured 43 [(1, x0), (0, x1)] [] h = some (.inl (some (1, x0 + 5)), vup (vup h 715 x0 0 x1) 716 x0 0 0) := by
  refine (rn_aload_n (pc := 43) (dd bX5_measured dX5_measured_43) rfl).trans ?_
  refine (rn_iload_n (pc := 44) (dd bX5_measured dX5_measured_44) rfl).trans ?_
  refine (rg_pf (pc := 45) (dd bX5_measured dX5_measured_45) (ci := 6) (j := 15) rfl (key := 715) rfl (kc := 26) rfl s1.1 rfl (by intro z; cases z) (by decide)).trans ?_
  refine (rn_aload_n (pc := 48) (dd bX5_measured dX5_measured_48) rfl).trans ?_
  refine (rn_iconst (pc := 49) (dd bX5_measured dX5_measured_49) (by decide)).trans ?_
  refine (rg_pf (pc := 50) (dd bX5_measured dX5_measured_50) (ci := 6) (j := 16) rfl (key := 716) rfl (kc := 26) rfl ((vup_k (by decide)).trans s1.1) rfl (fun _ => (by decide)) (by decide)).trans ?_
  refine (rn_aload_n (pc := 53) (dd bX5_measured dX5_measured_53) rfl).trans ?_
  refine (rg_gf (pc := 54) (dd bX5_measured dX5_measured_54) (ci := 6) (j := 2) rfl rfl (key := 702) rfl (kc := 26) rfl ((vup_k (by decide)).trans ((vup_k (by decide)).trans s1.1)) ((vup_k (by decide)).trans ((vup_k (by decide)).trans s1.2.2.2.2.1))).trans ?_
  exact rn_areturn (pc := 57) (dd bX5_measured dX5_measured_57) rfl
theorem bX5_refresh : vmB mX5_refresh = cX5_refresh := rfl
theorem rX5_refresh_0 {x0 : Int} {h : vH} (s1 : shPane h x0) : vrun mX5_refresh 0 [(1, x0), (9, 0)] [] h = if h 714 x0 0 = 0 then vrun mX5_refresh 15 [(1, x0), (0, 0)] [] (vup h 713 x0 0 0) else some (.inl none, h) := by
  refine (rn_aload_n (pc := 0) (dd bX5_refresh dX5_refresh_0) rfl).trans ?_
  refine (rg_gf (pc := 1) (dd bX5_refresh dX5_refresh_1) (ci := 6) (j := 14) rfl rfl (key := 714) rfl (kc := 26) rfl s1.1 rfl).trans ?_
  refine (rn_if_eq (t := 8) (pc := 4) (dd bX5_refresh dX5_refresh_4) rfl).trans (itec (fun c1 => ?_) (fun c1 => ?_))
  · refine (rn_aload_n (pc := 8) (dd bX5_refresh dX5_refresh_8) rfl).trans ?_
    refine (rn_iconst (pc := 9) (dd bX5_refresh dX5_refresh_9) (by decide)).trans ?_
    refine (rg_pf (pc := 10) (dd bX5_refresh dX5_refresh_10) (ci := 6) (j := 13) rfl (key := 713) rfl (kc := 26) rfl s1.1 rfl (by intro z; cases z) (by decide)).trans ?_
    refine (rn_iconst (pc := 13) (dd bX5_refresh dX5_refresh_13) (by decide)).trans ?_
    refine (rn_istore_n (pc := 14) (dd bX5_refresh dX5_refresh_14) (Nat.le_of_ble_eq_true rfl) rfl).trans ?_
    rfl
  · exact rn_return (pc := 7) (dd bX5_refresh dX5_refresh_7) rfl
theorem rX5_refresh_15 {x0 : Int} {x1 : Int} {h : vH} (s1 : shPane h x0) (s2 : shText h) (p3 : ¬ (h 1201 4 0 ≤ x1) → ¬ (60 ≤ x1) → 0 ≤ x1) (p4 : ¬ (h 1201 4 0 ≤ x1) → ¬ (60 ≤ x1) → ¬ (h 2 (x0 + 26) x1 = (-1)) → (-2147483648) ≤ h 713 x0 0 + h 2 (x0 + 26) x1) (p5 : ¬ (h 1201 4 0 ≤ x1) → ¬ (60 ≤ x1) → ¬ (h 2 (x0 + 26) x1 = (-1)) → h 713 x0 0 + h 2 (x0 + 26) x1 < 2147483648) : vrun mX5_refresh 15 [(1, x0), (0, x1)] [] h = if h 1201 4 0 ≤ x1 then some (.inl none, vup h 714 x0 0 1) else if 60 ≤ x1 then some (.inl none, vup h 714 x0 0 1) else if h 2 (x0 + 26) x1 = (-1) then vret vrun mX5_refresh 52 [(1, x0), (0, x1)] [(0, x1), (1, x0 + 26)] (vcl mX2_isVisible [(1, x0 + 1), (0, x1)] h) else vrun mX5_refresh 15 [(1, x0), (0, x1 + 1)] [] (vup (vup h 2 (x0 + 27) x1 (h 713 x0 0)) 713 x0 0 (h 713 x0 0 + h 2 (x0 + 26) x1)) := by
  refine (rn_iload_n (pc := 15) (dd bX5_refresh dX5_refresh_15) rfl).trans ?_
  refine (rn_aload_n (pc := 16) (dd bX5_refresh dX5_refresh_16) rfl).trans ?_
  refine (rg_gf (pc := 17) (dd bX5_refresh dX5_refresh_17) (ci := 6) (j := 0) rfl rfl (key := 700) rfl (kc := 26) rfl s1.1 s1.2.1).trans ?_
  refine (rg_gf (pc := 20) (dd bX5_refresh dX5_refresh_20) (ci := 11) (j := 1) rfl rfl (key := 1201) rfl (kc := 31) rfl s2.1 rfl).trans ?_
  refine (rn_icmp_ge (t := 102) (pc := 23) (dd bX5_refresh dX5_refresh_23) rfl).trans (itec (fun c1 => ?_) (fun c1 => ?_))
  · refine (rn_aload_n (pc := 102) (dd bX5_refresh dX5_refresh_102) rfl).trans ?_
    refine (rn_iconst (pc := 103) (dd bX5_refresh dX5_refresh_103) (by decide)).trans ?_
    refine (rg_pf (pc := 104) (dd bX5_refresh dX5_refresh_104) (ci := 6) (j := 14) rfl (key := 714) rfl (kc := 26) rfl s1.1 rfl (fun _ => (by decide)) (by decide)).trans ?_
    exact rn_return (pc := 107) (dd bX5_refresh dX5_refresh_107) rfl
  · refine (rn_iload_n (pc := 26) (dd bX5_refresh dX5_refresh_26) rfl).trans ?_
    refine (rn_bipush (pc := 27) (dd bX5_refresh dX5_refresh_27) (by decide)).trans ?_
    refine (rn_icmp_ge (t := 102) (pc := 29) (dd bX5_refresh dX5_refresh_29) rfl).trans (itec (fun c2 => ?_) (fun c2 => ?_))
    · refine (rn_aload_n (pc := 102) (dd bX5_refresh dX5_refresh_102) rfl).trans ?_
      refine (rn_iconst (pc := 103) (dd bX5_refresh dX5_refresh_103) (by decide)).trans ?_
      refine (rg_pf (pc := 104) (dd bX5_refresh dX5_refresh_104) (ci := 6) (j := 14) rfl (key := 714) rfl (kc := 26) rfl s1.1 rfl (fun _ => (by decide)) (by decide)).trans ?_
      exact rn_return (pc := 107) (dd bX5_refresh dX5_refresh_107) rfl
    · refine (rn_aload_n (pc := 32) (dd bX5_refresh dX5_refresh_32) rfl).trans ?_
      refine (rg_gf (pc := 33) (dd bX5_refresh dX5_refresh_33) (ci := 6) (j := 11) rfl rfl (key := 711) rfl (kc := 26) rfl s1.1 s1.2.2.2.2.2.2.2.2.2.2.2.2.2.2.1).trans ?_
      refine (rn_iload_n (pc := 36) (dd bX5_refresh dX5_refresh_36) rfl).trans ?_
      refine (rg_iaload (pc := 37) (dd bX5_refresh dX5_refresh_37) s1.2.2.2.2.2.2.2.2.2.2.2.2.2.2.2.1 s1.2.2.2.2.2.2.2.2.2.2.2.2.2.2.2.2.1 (p3 c1 c2) (Int.not_le.mp c2) rfl).trans ?_
      refine (rn_iconst (pc := 38) (dd bX5_refresh dX5_refresh_38) (by decide)).trans ?_
      refine (rg_icmp_ne (t := 71) (pc := 39) (dd bX5_refresh dX5_refresh_39) rfl).trans (itec (fun c3 => ?_) (fun c3 => ?_))
      · refine (rn_aload_n (pc := 42) (dd bX5_refresh dX5_refresh_42) rfl).trans ?_
        refine (rg_gf (pc := 43) (dd bX5_refresh dX5_refresh_43) (ci := 6) (j := 11) rfl rfl (key := 711) rfl (kc := 26) rfl s1.1 s1.2.2.2.2.2.2.2.2.2.2.2.2.2.2.1).trans ?_
        refine (rn_iload_n (pc := 46) (dd bX5_refresh dX5_refresh_46) rfl).trans ?_
        refine (rn_aload_n (pc := 47) (dd bX5_refresh dX5_refresh_47) rfl).trans ?_
        refine (rg_gf (pc := 48) (dd bX5_refresh dX5_refresh_48) (ci := 6) (j := 1) rfl rfl (key := 701) rfl (kc := 26) rfl s1.1 s1.2.2.1).trans ?_
        refine (rn_iload_n (pc := 51) (dd bX5_refresh dX5_refresh_51) rfl).trans ?_
        exact rg_virtual (pc := 52) (dd bX5_refresh dX5_refresh_52) rfl rfl (by decide) (kc := 23) rfl s1.2.2.2.1.1 (as := [(1, x0 + 1), (0, x1)]) rfl ⟨Nat.le_of_ble_eq_true rfl, Nat.le_of_ble_eq_true rfl, Nat.le_of_ble_eq_true rfl, Nat.le_of_ble_eq_true rfl⟩
      · refine (rn_aload_n (pc := 71) (dd bX5_refresh dX5_refresh_71) rfl).trans ?_
        refine (rg_gf (pc := 72) (dd bX5_refresh dX5_refresh_72) (ci := 6) (j := 12) rfl rfl (key := 712) rfl (kc := 26) rfl s1.1 s1.2.2.2.2.2.2.2.2.2.2.2.2.2.2.2.2.2.1).trans ?_
        refine (rn_iload_n (pc := 75) (dd bX5_refresh dX5_refresh_75) rfl).trans ?_
        refine (rn_aload_n (pc := 76) (dd bX5_refresh dX5_refresh_76) rfl).trans ?_
        refine (rg_gf (pc := 77) (dd bX5_refresh dX5_refresh_77) (ci := 6) (j := 13) rfl rfl (key := 713) rfl (kc := 26) rfl s1.1 rfl).trans ?_
        refine (rg_iastore (pc := 80) (dd bX5_refresh dX5_refresh_80) s1.2.2.2.2.2.2.2.2.2.2.2.2.2.2.2.2.2.2.1 s1.2.2.2.2.2.2.2.2.2.2.2.2.2.2.2.2.2.2.2 (by have z0 := p3 c1 c2; omega) (Int.not_le.mp c2)).trans ?_
        refine (rn_aload_n (pc := 81) (dd bX5_refresh dX5_refresh_81) rfl).trans ?_
        refine (rn_dup (pc := 82) (dd bX5_refresh dX5_refresh_82) (by decide)).trans ?_
        refine (rg_gf (pc := 83) (dd bX5_refresh dX5_refresh_83) (ci := 6) (j := 13) rfl rfl (key := 713) rfl (kc := 26) rfl ((vup_k (by decide)).trans s1.1) ((vup_k (by decide)).trans rfl)).trans ?_
        refine (rn_aload_n (pc := 86) (dd bX5_refresh dX5_refresh_86) rfl).trans ?_
        refine (rg_gf (pc := 87) (dd bX5_refresh dX5_refresh_87) (ci := 6) (j := 11) rfl rfl (key := 711) rfl (kc := 26) rfl ((vup_k (by decide)).trans s1.1) ((vup_k (by decide)).trans s1.2.2.2.2.2.2.2.2.2.2.2.2.2.2.1)).trans ?_
        refine (rn_iload_n (pc := 90) (dd bX5_refresh dX5_refresh_90) rfl).trans ?_
        refine (rg_iaload (pc := 91) (dd bX5_refresh dX5_refresh_91) ((vup_k (by decide)).trans s1.2.2.2.2.2.2.2.2.2.2.2.2.2.2.2.1) ((vup_k (by decide)).trans s1.2.2.2.2.2.2.2.2.2.2.2.2.2.2.2.2.1) (by have z0 := p3 c1 c2; omega) (Int.not_le.mp c2) ((vup_r (by omega)).trans rfl)).trans ?_
        refine (rg_iadd (pc := 92) (dd bX5_refresh dX5_refresh_92) (p4 c1 c2 c3) (p5 c1 c2 c3)).trans ?_
        refine (rg_pf (pc := 93) (dd bX5_refresh dX5_refresh_93) (ci := 6) (j := 13) rfl (key := 713) rfl (kc := 26) rfl ((vup_k (by decide)).trans s1.1) rfl (by intro z; cases z) (by decide)).trans ?_
        refine (rg_iinc (pc := 96) (dd bX5_refresh dX5_refresh_96) rfl (Nat.le_of_ble_eq_true rfl) (by have z0 := p3 c1 c2; omega) (by have z0 := p3 c1 c2; omega) rfl).trans ?_
        refine (rn_goto (t := 15) (pc := 99) (dd bX5_refresh dX5_refresh_99) rfl).trans ?_
        rfl
theorem rX5_refresh_55 {x0 : Int} {x1 : Int} {y0 : Int} {y1 : Int} {y2 : Int} {h : vH} (p1 : y0 = 0 → h 0 y2 0 = 1) (p2 : y0 = 0 → 0 ≤ y1) (p3 : y0 = 0 → y1 < h 1 y2 0) (s4 : shPane h x0) (p5 : y0 = 0 → 0 ≤ x1) (p6 : y0 = 0 → x1 < 60) (p7 : y0 = 0 → (-2147483648) ≤ h 713 x0 0 + (vup (vup h 2 y2 y1 0) 2 (x0 + 27) x1 (h 713 x0 0)) 2 (x0 + 26) x1) (p8 : y0 = 0 → h 713 x0 0 + (vup (vup h 2 y2 y1 0) 2 (x0 + 27) x1 (h 713 x0 0)) 2 (x0 + 26) x1 < 2147483648) : vrun mX5_refresh 55 [(1, x0), (0, x1)] [(0, y0), (0, y1), (1, y2)] h = if y0 = 0 then vrun mX5_refresh 15 [(1, x0), (0, x1 + 1)] [] (vup (vup (vup h 2 y2 y1 0) 2 (x0 + 27) x1 (h 713 x0 0)) 713 x0 0 (h 713 x0 0 + (vup (vup h 2 y2 y1 0) 2 (x0 + 27) x1 (h 713 x0 0)) 2 (x0 + 26) x1)) else vret vrun mX5_refresh 60 [(1, x0), (0, x1)] [(0, y1), (1, y2)] (vcl mX5_measured [(1, x0), (0, x1)] h) := by
  refine (rn_if_eq (t := 69) (pc := 55) (dd bX5_refresh dX5_refresh_55) rfl).trans (itec (fun c1 => ?_) (fun c1 => ?_))
  · refine (rn_iconst (pc := 69) (dd bX5_refresh dX5_refresh_69) (by decide)).trans ?_
    refine (rg_iastore (pc := 70) (dd bX5_refresh dX5_refresh_70) (p1 c1) rfl (p2 c1) (p3 c1)).trans ?_
    refine (rn_aload_n (pc := 71) (dd bX5_refresh dX5_refresh_71) rfl).trans ?_
    refine (rg_gf (pc := 72) (dd bX5_refresh dX5_refresh_72) (ci := 6) (j := 12) rfl rfl (key := 712) rfl (kc := 26) rfl ((vup_k (by decide)).trans s4.1) ((vup_k (by decide)).trans s4.2.2.2.2.2.2.2.2.2.2.2.2.2.2.2.2.2.1)).trans ?_
    refine (rn_iload_n (pc := 75) (dd bX5_refresh dX5_refresh_75) rfl).trans ?_
    refine (rn_aload_n (pc := 76) (dd bX5_refresh dX5_refresh_76) rfl).trans ?_
    refine (rg_gf (pc := 77) (dd bX5_refresh dX5_refresh_77) (ci := 6) (j := 13) rfl rfl (key := 713) rfl (kc := 26) rfl ((vup_k (by decide)).trans s4.1) ((vup_k (by decide)).trans rfl)).trans ?_
    refine (rg_iastore (pc := 80) (dd bX5_refresh dX5_refresh_80) ((vup_k (by decide)).trans s4.2.2.2.2.2.2.2.2.2.2.2.2.2.2.2.2.2.2.1) ((vup_k (by decide)).trans s4.2.2.2.2.2.2.2.2.2.2.2.2.2.2.2.2.2.2.2) (p5 c1) (p6 c1)).trans ?_
    refine (rn_aload_n (pc := 81) (dd bX5_refresh dX5_refresh_81) rfl).trans ?_
    refine (rn_dup (pc := 82) (dd bX5_refresh dX5_refresh_82) (by decide)).trans ?_
    refine (rg_gf (pc := 83) (dd bX5_refresh dX5_refresh_83) (ci := 6) (j := 13) rfl rfl (key := 713) rfl (kc := 26) rfl ((vup_k (by decide)).trans ((vup_k (by decide)).trans s4.1)) ((vup_k (by decide)).trans ((vup_k (by decide)).trans rfl))).trans ?_
    refine (rn_aload_n (pc := 86) (dd bX5_refresh dX5_refresh_86) rfl).trans ?_
    refine (rg_gf (pc := 87) (dd bX5_refresh dX5_refresh_87) (ci := 6) (j := 11) rfl rfl (key := 711) rfl (kc := 26) rfl ((vup_k (by decide)).trans ((vup_k (by decide)).trans s4.1)) ((vup_k (by decide)).trans ((vup_k (by decide)).trans s4.2.2.2.2.2.2.2.2.2.2.2.2.2.2.1))).trans ?_
    refine (rn_iload_n (pc := 90) (dd bX5_refresh dX5_refresh_90) rfl).trans ?_
    refine (rg_iaload (pc := 91) (dd bX5_refresh dX5_refresh_91) ((vup_k (by decide)).trans ((vup_k (by decide)).trans s4.2.2.2.2.2.2.2.2.2.2.2.2.2.2.2.1)) ((vup_k (by decide)).trans ((vup_k (by decide)).trans s4.2.2.2.2.2.2.2.2.2.2.2.2.2.2.2.2.1)) (by have z0 := p5 c1; have z1 := p6 c1; omega) (by have z0 := p5 c1; have z1 := p6 c1; omega) rfl).trans ?_
    refine (rg_iadd (pc := 92) (dd bX5_refresh dX5_refresh_92) (p7 c1) (p8 c1)).trans ?_
    refine (rg_pf (pc := 93) (dd bX5_refresh dX5_refresh_93) (ci := 6) (j := 13) rfl (key := 713) rfl (kc := 26) rfl ((vup_k (by decide)).trans ((vup_k (by decide)).trans s4.1)) rfl (by intro z; cases z) (by decide)).trans ?_
    refine (rg_iinc (pc := 96) (dd bX5_refresh dX5_refresh_96) rfl (Nat.le_of_ble_eq_true rfl) (by have z0 := p5 c1; have z1 := p6 c1; omega) (by have z0 := p5 c1; have z1 := p6 c1; omega) rfl).trans ?_
    refine (rn_goto (t := 15) (pc := 99) (dd bX5_refresh dX5_refresh_99) rfl).trans ?_
    rfl
  · refine (rn_aload_n (pc := 58) (dd bX5_refresh dX5_refresh_58) rfl).trans ?_
    refine (rn_iload_n (pc := 59) (dd bX5_refresh dX5_refresh_59) rfl).trans ?_
    exact rg_virtual (pc := 60) (dd bX5_refresh dX5_refresh_60) rfl rfl (by decide) (kc := 26) rfl s4.1 (as := [(1, x0), (0, x1)]) rfl ⟨Nat.le_of_ble_eq_true rfl, Nat.le_of_ble_eq_true rfl, Nat.le_of_ble_eq_true rfl, Nat.le_of_ble_eq_true rfl⟩
theorem rX5_refresh_63 {x0 : Int} {x1 : Int} {y0 : Int} {y1 : Int} {y2 : Int} {h : vH} (s1 : shLayout h y0) (p2 : h 0 y2 0 = 1) (p3 : 0 ≤ y1) (p4 : y1 < h 1 y2 0) (s5 : shPane h x0) (p6 : 0 ≤ x1) (p7 : x1 < 60) (p8 : (-2147483648) ≤ h 713 x0 0 + (vup (vup h 2 y2 y1 (h 510 y0 0)) 2 (x0 + 27) x1 (h 713 x0 0)) 2 (x0 + 26) x1) (p9 : h 713 x0 0 + (vup (vup h 2 y2 y1 (h 510 y0 0)) 2 (x0 + 27) x1 (h 713 x0 0)) 2 (x0 + 26) x1 < 2147483648) : vrun mX5_refresh 63 [(1, x0), (0, x1)] [(1, y0), (0, y1), (1, y2)] h = vrun mX5_refresh 15 [(1, x0), (0, x1 + 1)] [] (vup (vup (vup h 2 y2 y1 (h 510 y0 0)) 2 (x0 + 27) x1 (h 713 x0 0)) 713 x0 0 (h 713 x0 0 + (vup (vup h 2 y2 y1 (h 510 y0 0)) 2 (x0 + 27) x1 (h 713 x0 0)) 2 (x0 + 26) x1)) := by
  refine (rg_gf (pc := 63) (dd bX5_refresh dX5_refresh_63) (ci := 4) (j := 10) rfl rfl (key := 510) rfl (kc := 24) rfl s1.1 rfl).trans ?_
  refine (rn_goto (t := 70) (pc := 66) (dd bX5_refresh dX5_refresh_66) rfl).trans ?_
  refine (rg_iastore (pc := 70) (dd bX5_refresh dX5_refresh_70) p2 rfl p3 p4).trans ?_
  refine (rn_aload_n (pc := 71) (dd bX5_refresh dX5_refresh_71) rfl).trans ?_
  refine (rg_gf (pc := 72) (dd bX5_refresh dX5_refresh_72) (ci := 6) (j := 12) rfl rfl (key := 712) rfl (kc := 26) rfl ((vup_k (by decide)).trans s5.1) ((vup_k (by decide)).trans s5.2.2.2.2.2.2.2.2.2.2.2.2.2.2.2.2.2.1)).trans ?_
  refine (rn_iload_n (pc := 75) (dd bX5_refresh dX5_refresh_75) rfl).trans ?_
  refine (rn_aload_n (pc := 76) (dd bX5_refresh dX5_refresh_76) rfl).trans ?_
  refine (rg_gf (pc := 77) (dd bX5_refresh dX5_refresh_77) (ci := 6) (j := 13) rfl rfl (key := 713) rfl (kc := 26) rfl ((vup_k (by decide)).trans s5.1) ((vup_k (by decide)).trans rfl)).trans ?_
  refine (rg_iastore (pc := 80) (dd bX5_refresh dX5_refresh_80) ((vup_k (by decide)).trans s5.2.2.2.2.2.2.2.2.2.2.2.2.2.2.2.2.2.2.1) ((vup_k (by decide)).trans s5.2.2.2.2.2.2.2.2.2.2.2.2.2.2.2.2.2.2.2) p6 p7).trans ?_
  refine (rn_aload_n (pc := 81) (dd bX5_refresh dX5_refresh_81) rfl).trans ?_
  refine (rn_dup (pc := 82) (dd bX5_refresh dX5_refresh_82) (by decide)).trans ?_
  refine (rg_gf (pc := 83) (dd bX5_refresh dX5_refresh_83) (ci := 6) (j := 13) rfl rfl (key := 713) rfl (kc := 26) rfl ((vup_k (by decide)).trans ((vup_k (by decide)).trans s5.1)) ((vup_k (by decide)).trans ((vup_k (by decide)).trans rfl))).trans ?_
  refine (rn_aload_n (pc := 86) (dd bX5_refresh dX5_refresh_86) rfl).trans ?_
  refine (rg_gf (pc := 87) (dd bX5_refresh dX5_refresh_87) (ci := 6) (j := 11) rfl rfl (key := 711) rfl (kc := 26) rfl ((vup_k (by decide)).trans ((vup_k (by decide)).trans s5.1)) ((vup_k (by decide)).trans ((vup_k (by decide)).trans s5.2.2.2.2.2.2.2.2.2.2.2.2.2.2.1))).trans ?_
  refine (rn_iload_n (pc := 90) (dd bX5_refresh dX5_refresh_90) rfl).trans ?_
  refine (rg_iaload (pc := 91) (dd bX5_refresh dX5_refresh_91) ((vup_k (by decide)).trans ((vup_k (by decide)).trans s5.2.2.2.2.2.2.2.2.2.2.2.2.2.2.2.1)) ((vup_k (by decide)).trans ((vup_k (by decide)).trans s5.2.2.2.2.2.2.2.2.2.2.2.2.2.2.2.2.1)) (by omega) (by omega) rfl).trans ?_
  refine (rg_iadd (pc := 92) (dd bX5_refresh dX5_refresh_92) p8 p9).trans ?_
  refine (rg_pf (pc := 93) (dd bX5_refresh dX5_refresh_93) (ci := 6) (j := 13) rfl (key := 713) rfl (kc := 26) rfl ((vup_k (by decide)).trans ((vup_k (by decide)).trans s5.1)) rfl (by intro z; cases z) (by decide)).trans ?_
  refine (rg_iinc (pc := 96) (dd bX5_refresh dX5_refresh_96) rfl (Nat.le_of_ble_eq_true rfl) (by omega) (by omega) rfl).trans ?_
  refine (rn_goto (t := 15) (pc := 99) (dd bX5_refresh dX5_refresh_99) rfl).trans ?_
  rfl
theorem bX5_rowCount : vmB mX5_rowCount = cX5_rowCount := rfl
theorem rX5_rowCount_0 {x0 : Int} {x1 : Int} {h : vH} (s1 : shPane h x0) : vrun mX5_rowCount 0 [(1, x0), (0, x1)] [] h = some (.inl (some (0, (if x1 < 0 then 0 else (if 60 ≤ x1 then 0 else h 2 (x0 + 26) x1)))), h) := by
  refine (rn_iload_n (pc := 0) (dd bX5_rowCount dX5_rowCount_0) rfl).trans ?_
  have e2 : vrun mX5_rowCount 1 [(1, x0), (0, x1)] [(0, x1)] h = vrun mX5_rowCount 20 [(1, x0), (0, x1)] [(0, (if x1 < 0 then 0 else (if 60 ≤ x1 then 0 else h 2 (x0 + 26) x1)))] h := by
    refine (rn_if_lt (t := 19) (pc := 1) (dd bX5_rowCount dX5_rowCount_1) rfl).trans ?_
    by_cases c1 : x1 < 0
    · refine (if_pos c1).trans ?_
      refine (rn_iconst (pc := 19) (dd bX5_rowCount dX5_rowCount_19) (by decide)).trans ?_
      refine Eq.trans (b := vrun mX5_rowCount 20 [(1, x0), (0, x1)] [(0, 0)] h) rfl ?_
      simp only [if_pos c1]
    · refine (if_neg c1).trans ?_
      refine (rn_iload_n (pc := 4) (dd bX5_rowCount dX5_rowCount_4) rfl).trans ?_
      refine (rn_bipush (pc := 5) (dd bX5_rowCount dX5_rowCount_5) (by decide)).trans ?_
      have e1 : vrun mX5_rowCount 7 [(1, x0), (0, x1)] [(0, 60), (0, x1)] h = vrun mX5_rowCount 20 [(1, x0), (0, x1)] [(0, (if 60 ≤ x1 then 0 else h 2 (x0 + 26) x1))] h := by
        refine (rn_icmp_ge (t := 19) (pc := 7) (dd bX5_rowCount dX5_rowCount_7) rfl).trans ?_
        by_cases c2 : 60 ≤ x1
        · refine (if_pos c2).trans ?_
          refine (rn_iconst (pc := 19) (dd bX5_rowCount dX5_rowCount_19) (by decide)).trans ?_
          refine Eq.trans (b := vrun mX5_rowCount 20 [(1, x0), (0, x1)] [(0, 0)] h) rfl ?_
          simp only [if_pos c2]
        · refine (if_neg c2).trans ?_
          refine (rn_aload_n (pc := 10) (dd bX5_rowCount dX5_rowCount_10) rfl).trans ?_
          refine (rg_gf (pc := 11) (dd bX5_rowCount dX5_rowCount_11) (ci := 6) (j := 11) rfl rfl (key := 711) rfl (kc := 26) rfl s1.1 s1.2.2.2.2.2.2.2.2.2.2.2.2.2.2.1).trans ?_
          refine (rn_iload_n (pc := 14) (dd bX5_rowCount dX5_rowCount_14) rfl).trans ?_
          refine (rg_iaload (pc := 15) (dd bX5_rowCount dX5_rowCount_15) s1.2.2.2.2.2.2.2.2.2.2.2.2.2.2.2.1 s1.2.2.2.2.2.2.2.2.2.2.2.2.2.2.2.2.1 (Int.not_lt.mp c1) (Int.not_le.mp c2) rfl).trans ?_
          refine (rn_goto (t := 20) (pc := 16) (dd bX5_rowCount dX5_rowCount_16) rfl).trans ?_
          refine Eq.trans (b := vrun mX5_rowCount 20 [(1, x0), (0, x1)] [(0, h 2 (x0 + 26) x1)] h) rfl ?_
          simp only [if_neg c2]
      refine e1.trans ?_
      refine Eq.trans (b := vrun mX5_rowCount 20 [(1, x0), (0, x1)] [(0, (if 60 ≤ x1 then 0 else h 2 (x0 + 26) x1))] h) rfl ?_
      simp only [if_neg c1]
  refine e2.trans ?_
  exact rn_ireturn (pc := 20) (dd bX5_rowCount dX5_rowCount_20) (Or.inl rfl)
def fX5_rowCount (h : vH) (x0 : Int) (x1 : Int) : Int := (if x1 < 0 then 0 else (if 60 ≤ x1 then 0 else h 2 (x0 + 26) x1))
theorem spX5_rowCount {x0 : Int} {x1 : Int} {h : vH} (s1 : shPane h x0) : vcl mX5_rowCount [(1, x0), (0, x1)] h = some (.inl (some (0, fX5_rowCount h x0 x1)), h) := by
  refine (show _ = _ from rX5_rowCount_0 s1).trans ?_
  rfl
theorem bX5_firstRow : vmB mX5_firstRow = cX5_firstRow := rfl
theorem rX5_firstRow_0 {x0 : Int} {x1 : Int} {h : vH} (s1 : shPane h x0) : vrun mX5_firstRow 0 [(1, x0), (0, x1)] [] h = some (.inl (some (0, (if x1 < 0 then 0 else (if 60 ≤ x1 then 0 else h 2 (x0 + 27) x1)))), h) := by
  refine (rn_iload_n (pc := 0) (dd bX5_firstRow dX5_firstRow_0) rfl).trans ?_
  have e2 : vrun mX5_firstRow 1 [(1, x0), (0, x1)] [(0, x1)] h = vrun mX5_firstRow 20 [(1, x0), (0, x1)] [(0, (if x1 < 0 then 0 else (if 60 ≤ x1 then 0 else h 2 (x0 + 27) x1)))] h := by
    refine (rn_if_lt (t := 19) (pc := 1) (dd bX5_firstRow dX5_firstRow_1) rfl).trans ?_
    by_cases c1 : x1 < 0
    · refine (if_pos c1).trans ?_
      refine (rn_iconst (pc := 19) (dd bX5_firstRow dX5_firstRow_19) (by decide)).trans ?_
      refine Eq.trans (b := vrun mX5_firstRow 20 [(1, x0), (0, x1)] [(0, 0)] h) rfl ?_
      simp only [if_pos c1]
    · refine (if_neg c1).trans ?_
      refine (rn_iload_n (pc := 4) (dd bX5_firstRow dX5_firstRow_4) rfl).trans ?_
      refine (rn_bipush (pc := 5) (dd bX5_firstRow dX5_firstRow_5) (by decide)).trans ?_
      have e1 : vrun mX5_firstRow 7 [(1, x0), (0, x1)] [(0, 60), (0, x1)] h = vrun mX5_firstRow 20 [(1, x0), (0, x1)] [(0, (if 60 ≤ x1 then 0 else h 2 (x0 + 27) x1))] h := by
        refine (rn_icmp_ge (t := 19) (pc := 7) (dd bX5_firstRow dX5_firstRow_7) rfl).trans ?_
        by_cases c2 : 60 ≤ x1
        · refine (if_pos c2).trans ?_
          refine (rn_iconst (pc := 19) (dd bX5_firstRow dX5_firstRow_19) (by decide)).trans ?_
          refine Eq.trans (b := vrun mX5_firstRow 20 [(1, x0), (0, x1)] [(0, 0)] h) rfl ?_
          simp only [if_pos c2]
        · refine (if_neg c2).trans ?_
          refine (rn_aload_n (pc := 10) (dd bX5_firstRow dX5_firstRow_10) rfl).trans ?_
          refine (rg_gf (pc := 11) (dd bX5_firstRow dX5_firstRow_11) (ci := 6) (j := 12) rfl rfl (key := 712) rfl (kc := 26) rfl s1.1 s1.2.2.2.2.2.2.2.2.2.2.2.2.2.2.2.2.2.1).trans ?_
          refine (rn_iload_n (pc := 14) (dd bX5_firstRow dX5_firstRow_14) rfl).trans ?_
          refine (rg_iaload (pc := 15) (dd bX5_firstRow dX5_firstRow_15) s1.2.2.2.2.2.2.2.2.2.2.2.2.2.2.2.2.2.2.1 s1.2.2.2.2.2.2.2.2.2.2.2.2.2.2.2.2.2.2.2 (Int.not_lt.mp c1) (Int.not_le.mp c2) rfl).trans ?_
          refine (rn_goto (t := 20) (pc := 16) (dd bX5_firstRow dX5_firstRow_16) rfl).trans ?_
          refine Eq.trans (b := vrun mX5_firstRow 20 [(1, x0), (0, x1)] [(0, h 2 (x0 + 27) x1)] h) rfl ?_
          simp only [if_neg c2]
      refine e1.trans ?_
      refine Eq.trans (b := vrun mX5_firstRow 20 [(1, x0), (0, x1)] [(0, (if 60 ≤ x1 then 0 else h 2 (x0 + 27) x1))] h) rfl ?_
      simp only [if_neg c1]
  refine e2.trans ?_
  exact rn_ireturn (pc := 20) (dd bX5_firstRow dX5_firstRow_20) (Or.inl rfl)
def fX5_firstRow (h : vH) (x0 : Int) (x1 : Int) : Int := (if x1 < 0 then 0 else (if 60 ≤ x1 then 0 else h 2 (x0 + 27) x1))
theorem spX5_firstRow {x0 : Int} {x1 : Int} {h : vH} (s1 : shPane h x0) : vcl mX5_firstRow [(1, x0), (0, x1)] h = some (.inl (some (0, fX5_firstRow h x0 x1)), h) := by
  refine (show _ = _ from rX5_firstRow_0 s1).trans ?_
  rfl
theorem bX5_lineOfRow : vmB mX5_lineOfRow = cX5_lineOfRow := rfl
theorem rX5_lineOfRow_0 {x0 : Int} {x1 : Int} {h : vH} : vrun mX5_lineOfRow 0 [(1, x0), (0, x1), (9, 0)] [] h = vrun mX5_lineOfRow 2 [(1, x0), (0, x1), (0, 0)] [] h := by
  refine (rn_iconst (pc := 0) (dd bX5_lineOfRow dX5_lineOfRow_0) (by decide)).trans ?_
  refine (rn_istore_n (pc := 1) (dd bX5_lineOfRow dX5_lineOfRow_1) (Nat.le_of_ble_eq_true rfl) rfl).trans ?_
  rfl
theorem rX5_lineOfRow_2 {x0 : Int} {x1 : Int} {x2 : Int} {h : vH} (s1 : shPane h x0) (s2 : shText h) (p3 : ¬ (h 1201 4 0 ≤ x2) → (-2147483648) ≤ fX5_firstRow h x0 x2 + fX5_rowCount h x0 x2) (p4 : ¬ (h 1201 4 0 ≤ x2) → fX5_firstRow h x0 x2 + fX5_rowCount h x0 x2 < 2147483648) (p5 : ¬ (h 1201 4 0 ≤ x2) → fX5_firstRow h x0 x2 + fX5_rowCount h x0 x2 ≤ x1 → (-2147483648) ≤ x2 + 1) (p6 : ¬ (h 1201 4 0 ≤ x2) → fX5_firstRow h x0 x2 + fX5_rowCount h x0 x2 ≤ x1 → x2 + 1 < 2147483648) : vrun mX5_lineOfRow 2 [(1, x0), (0, x1), (0, x2)] [] h = if h 1201 4 0 ≤ x2 then some (.inl (some (0, 0)), h) else if fX5_firstRow h x0 x2 + fX5_rowCount h x0 x2 ≤ x1 then vrun mX5_lineOfRow 2 [(1, x0), (0, x1), (0, x2 + 1)] [] h else some (.inl (some (0, x2)), h) := by
  refine (rn_iload_n (pc := 2) (dd bX5_lineOfRow dX5_lineOfRow_2) rfl).trans ?_
  refine (rn_aload_n (pc := 3) (dd bX5_lineOfRow dX5_lineOfRow_3) rfl).trans ?_
  refine (rg_gf (pc := 4) (dd bX5_lineOfRow dX5_lineOfRow_4) (ci := 6) (j := 0) rfl rfl (key := 700) rfl (kc := 26) rfl s1.1 s1.2.1).trans ?_
  refine (rg_gf (pc := 7) (dd bX5_lineOfRow dX5_lineOfRow_7) (ci := 11) (j := 1) rfl rfl (key := 1201) rfl (kc := 31) rfl s2.1 rfl).trans ?_
  refine (rn_icmp_ge (t := 36) (pc := 10) (dd bX5_lineOfRow dX5_lineOfRow_10) rfl).trans (itec (fun c1 => ?_) (fun c1 => ?_))
  · refine (rn_iconst (pc := 36) (dd bX5_lineOfRow dX5_lineOfRow_36) (by decide)).trans ?_
    exact rn_ireturn (pc := 37) (dd bX5_lineOfRow dX5_lineOfRow_37) (Or.inl rfl)
  · refine (rn_iload_n (pc := 13) (dd bX5_lineOfRow dX5_lineOfRow_13) rfl).trans ?_
    refine (rn_aload_n (pc := 14) (dd bX5_lineOfRow dX5_lineOfRow_14) rfl).trans ?_
    refine (rn_iload_n (pc := 15) (dd bX5_lineOfRow dX5_lineOfRow_15) rfl).trans ?_
    refine (rg_virtual (pc := 16) (dd bX5_lineOfRow dX5_lineOfRow_16) rfl rfl (by decide) (kc := 26) rfl s1.1 (as := [(1, x0), (0, x2)]) rfl ⟨Nat.le_of_ble_eq_true rfl, Nat.le_of_ble_eq_true rfl, Nat.le_of_ble_eq_true rfl, Nat.le_of_ble_eq_true rfl⟩).trans ?_
    refine (vret_v (spX5_firstRow s1)).trans ?_
    refine (rn_aload_n (pc := 19) (dd bX5_lineOfRow dX5_lineOfRow_19) rfl).trans ?_
    refine (rn_iload_n (pc := 20) (dd bX5_lineOfRow dX5_lineOfRow_20) rfl).trans ?_
    refine (rg_virtual (pc := 21) (dd bX5_lineOfRow dX5_lineOfRow_21) rfl rfl (by decide) (kc := 26) rfl s1.1 (as := [(1, x0), (0, x2)]) rfl ⟨Nat.le_of_ble_eq_true rfl, Nat.le_of_ble_eq_true rfl, Nat.le_of_ble_eq_true rfl, Nat.le_of_ble_eq_true rfl⟩).trans ?_
    refine (vret_v (spX5_rowCount s1)).trans ?_
    refine (rg_iadd (pc := 24) (dd bX5_lineOfRow dX5_lineOfRow_24) (p3 c1) (p4 c1)).trans ?_
    refine (rn_icmp_ge (t := 30) (pc := 25) (dd bX5_lineOfRow dX5_lineOfRow_25) rfl).trans (itec (fun c2 => ?_) (fun c2 => ?_))
    · refine (rg_iinc (pc := 30) (dd bX5_lineOfRow dX5_lineOfRow_30) rfl (Nat.le_of_ble_eq_true rfl) (p5 c1 c2) (p6 c1 c2) rfl).trans ?_
      refine (rn_goto (t := 2) (pc := 33) (dd bX5_lineOfRow dX5_lineOfRow_33) rfl).trans ?_
      rfl
    · refine (rn_iload_n (pc := 28) (dd bX5_lineOfRow dX5_lineOfRow_28) rfl).trans ?_
      exact rn_ireturn (pc := 29) (dd bX5_lineOfRow dX5_lineOfRow_29) (Or.inl rfl)
theorem bX5_rowInLine : vmB mX5_rowInLine = cX5_rowInLine := rfl
theorem rX5_rowInLine_0 {x0 : Int} {x1 : Int} {x2 : Int} {h : vH} (s1 : shPane h x0) (p2 : (-2147483648) ≤ x1 - fX5_firstRow h x0 x2) (p3 : x1 - fX5_firstRow h x0 x2 < 2147483648) : vrun mX5_rowInLine 0 [(1, x0), (0, x1), (0, x2)] [] h = some (.inl (some (0, x1 - fX5_firstRow h x0 x2)), h) := by
  refine (rn_iload_n (pc := 0) (dd bX5_rowInLine dX5_rowInLine_0) rfl).trans ?_
  refine (rn_aload_n (pc := 1) (dd bX5_rowInLine dX5_rowInLine_1) rfl).trans ?_
  refine (rn_iload_n (pc := 2) (dd bX5_rowInLine dX5_rowInLine_2) rfl).trans ?_
  refine (rg_virtual (pc := 3) (dd bX5_rowInLine dX5_rowInLine_3) rfl rfl (by decide) (kc := 26) rfl s1.1 (as := [(1, x0), (0, x2)]) rfl ⟨Nat.le_of_ble_eq_true rfl, Nat.le_of_ble_eq_true rfl, Nat.le_of_ble_eq_true rfl, Nat.le_of_ble_eq_true rfl⟩).trans ?_
  refine (vret_v (spX5_firstRow s1)).trans ?_
  refine (rg_isub (pc := 6) (dd bX5_rowInLine dX5_rowInLine_6) p2 p3).trans ?_
  exact rn_ireturn (pc := 7) (dd bX5_rowInLine dX5_rowInLine_7) (Or.inl rfl)
theorem spX5_rowInLine {x0 : Int} {x1 : Int} {x2 : Int} {h : vH} (s1 : shPane h x0) (p2 : (-2147483648) ≤ x1 - fX5_firstRow h x0 x2) (p3 : x1 - fX5_firstRow h x0 x2 < 2147483648) : vcl mX5_rowInLine [(1, x0), (0, x1), (0, x2)] h = some (.inl (some (0, x1 - fX5_firstRow h x0 x2)), h) := by
  refine (show _ = _ from rX5_rowInLine_0 s1 p2 p3).trans ?_
  rfl
theorem bX5_turned : vmB mX5_turned = cX5_turned := rfl
theorem rX5_turned_0 {x0 : Int} {h : vH} (s1 : shPane h x0) : vrun mX5_turned 0 [(1, x0)] [] h = if h 716 x0 0 = 0 then vret vrun mX5_turned 15 [(1, x0)] [] (vcl mX0_find [(1, x0 + 15), (1, x0 + 5)] h) else some (.inl (some (1, x0 + 5)), h) := by
  refine (rn_aload_n (pc := 0) (dd bX5_turned dX5_turned_0) rfl).trans ?_
  refine (rg_gf (pc := 1) (dd bX5_turned dX5_turned_1) (ci := 6) (j := 16) rfl rfl (key := 716) rfl (kc := 26) rfl s1.1 rfl).trans ?_
  refine (rg_if_ne (t := 30) (pc := 4) (dd bX5_turned dX5_turned_4) rfl).trans (itec (fun c1 => ?_) (fun c1 => ?_))
  · refine (rn_aload_n (pc := 7) (dd bX5_turned dX5_turned_7) rfl).trans ?_
    refine (rg_gf (pc := 8) (dd bX5_turned dX5_turned_8) (ci := 6) (j := 3) rfl rfl (key := 703) rfl (kc := 26) rfl s1.1 s1.2.2.2.2.2.2.1).trans ?_
    refine (rn_aload_n (pc := 11) (dd bX5_turned dX5_turned_11) rfl).trans ?_
    refine (rg_gf (pc := 12) (dd bX5_turned dX5_turned_12) (ci := 6) (j := 2) rfl rfl (key := 702) rfl (kc := 26) rfl s1.1 s1.2.2.2.2.1).trans ?_
    exact rg_virtual (pc := 15) (dd bX5_turned dX5_turned_15) rfl rfl (by decide) (kc := 21) rfl s1.2.2.2.2.2.2.2.1.1 (as := [(1, x0 + 15), (1, x0 + 5)]) rfl ⟨Nat.le_of_ble_eq_true rfl, Nat.le_of_ble_eq_true rfl, Nat.le_of_ble_eq_true rfl, Nat.le_of_ble_eq_true rfl⟩
  · refine (rn_aload_n (pc := 30) (dd bX5_turned dX5_turned_30) rfl).trans ?_
    refine (rg_gf (pc := 31) (dd bX5_turned dX5_turned_31) (ci := 6) (j := 2) rfl rfl (key := 702) rfl (kc := 26) rfl s1.1 s1.2.2.2.2.1).trans ?_
    exact rn_areturn (pc := 34) (dd bX5_turned dX5_turned_34) rfl
theorem rX5_turned_18 {x0 : Int} {h : vH} (s1 : shPane h x0) : vrun mX5_turned 18 [(1, x0)] [] h = vret vrun mX5_turned 22 [(1, x0)] [] (vcl mX3_turnRows [(1, x0 + 5)] h) := by
  refine (rn_aload_n (pc := 18) (dd bX5_turned dX5_turned_18) rfl).trans ?_
  refine (rg_gf (pc := 19) (dd bX5_turned dX5_turned_19) (ci := 6) (j := 2) rfl rfl (key := 702) rfl (kc := 26) rfl s1.1 s1.2.2.2.2.1).trans ?_
  exact rg_virtual (pc := 22) (dd bX5_turned dX5_turned_22) rfl rfl (by decide) (kc := 24) rfl s1.2.2.2.2.2.1.1 (as := [(1, x0 + 5)]) rfl ⟨Nat.le_of_ble_eq_true rfl, Nat.le_of_ble_eq_true rfl, Nat.le_of_ble_eq_true rfl, Nat.le_of_ble_eq_true rfl⟩
theorem rX5_turned_25 {x0 : Int} {h : vH} (s1 : shPane h x0) : vrun mX5_turned 25 [(1, x0)] [] h = some (.inl (some (1, x0 + 5)), vup h 716 x0 0 1) := by
  refine (rn_aload_n (pc := 25) (dd bX5_turned dX5_turned_25) rfl).trans ?_
  refine (rn_iconst (pc := 26) (dd bX5_turned dX5_turned_26) (by decide)).trans ?_
  refine (rg_pf (pc := 27) (dd bX5_turned dX5_turned_27) (ci := 6) (j := 16) rfl (key := 716) rfl (kc := 26) rfl s1.1 rfl (fun _ => (by decide)) (by decide)).trans ?_
  refine (rn_aload_n (pc := 30) (dd bX5_turned dX5_turned_30) rfl).trans ?_
  refine (rg_gf (pc := 31) (dd bX5_turned dX5_turned_31) (ci := 6) (j := 2) rfl rfl (key := 702) rfl (kc := 26) rfl ((vup_k (by decide)).trans s1.1) ((vup_k (by decide)).trans s1.2.2.2.2.1)).trans ?_
  exact rn_areturn (pc := 34) (dd bX5_turned dX5_turned_34) rfl
theorem bX5_rowDown : vmB mX5_rowDown = cX5_rowDown := rfl
theorem rX5_rowDown_0 {x0 : Int} {x1 : Int} {x2 : Int} {x3 : Int} {h : vH} (s1 : shPane h x0) : vrun mX5_rowDown 0 [(1, x0), (0, x1), (0, x2), (0, x3), (9, 0)] [] h = vret vrun mX5_rowDown 2 [(1, x0), (0, x1), (0, x2), (0, x3), (9, 0)] [] (vcl mX5_measured [(1, x0), (0, x1)] h) := by
  refine (rn_aload_n (pc := 0) (dd bX5_rowDown dX5_rowDown_0) rfl).trans ?_
  refine (rn_iload_n (pc := 1) (dd bX5_rowDown dX5_rowDown_1) rfl).trans ?_
  exact rg_virtual (pc := 2) (dd bX5_rowDown dX5_rowDown_2) rfl rfl (by decide) (kc := 26) rfl s1.1 (as := [(1, x0), (0, x1)]) rfl ⟨Nat.le_of_ble_eq_true rfl, Nat.le_of_ble_eq_true rfl, Nat.le_of_ble_eq_true rfl, Nat.le_of_ble_eq_true rfl⟩
theorem rX5_rowDown_5 {x0 : Int} {x1 : Int} {x2 : Int} {x3 : Int} {y0 : Int} {h : vH} (s1 : shPane h x0) (s2 : shLayout h y0) : vrun mX5_rowDown 5 [(1, x0), (0, x1), (0, x2), (0, x3), (9, 0)] [(1, y0)] h = vret vrun mX5_rowDown 18 [(1, x0), (0, x1), (0, x2), (0, x3), (1, y0)] [(1, y0), (0, fX5_firstRow h x0 x1)] (vcl mX3_edgeAt [(1, y0), (0, x2), (0, x3)] h) := by
  refine (rn_astore (pc := 5) (dd bX5_rowDown dX5_rowDown_5) (Nat.le_of_ble_eq_true rfl) rfl).trans ?_
  refine (rn_aload_n (pc := 7) (dd bX5_rowDown dX5_rowDown_7) rfl).trans ?_
  refine (rn_iload_n (pc := 8) (dd bX5_rowDown dX5_rowDown_8) rfl).trans ?_
  refine (rg_virtual (pc := 9) (dd bX5_rowDown dX5_rowDown_9) rfl rfl (by decide) (kc := 26) rfl s1.1 (as := [(1, x0), (0, x1)]) rfl ⟨Nat.le_of_ble_eq_true rfl, Nat.le_of_ble_eq_true rfl, Nat.le_of_ble_eq_true rfl, Nat.le_of_ble_eq_true rfl⟩).trans ?_
  refine (vret_v (spX5_firstRow s1)).trans ?_
  refine (rn_aload (pc := 12) (dd bX5_rowDown dX5_rowDown_12) rfl).trans ?_
  refine (rn_aload (pc := 14) (dd bX5_rowDown dX5_rowDown_14) rfl).trans ?_
  refine (rn_iload_n (pc := 16) (dd bX5_rowDown dX5_rowDown_16) rfl).trans ?_
  refine (rn_iload_n (pc := 17) (dd bX5_rowDown dX5_rowDown_17) rfl).trans ?_
  exact rg_virtual (pc := 18) (dd bX5_rowDown dX5_rowDown_18) rfl rfl (by decide) (kc := 24) rfl s2.1 (as := [(1, y0), (0, x2), (0, x3)]) rfl ⟨Nat.le_of_ble_eq_true rfl, Nat.le_of_ble_eq_true rfl, Nat.le_of_ble_eq_true rfl, Nat.le_of_ble_eq_true rfl⟩
theorem rX5_rowDown_21 {x0 : Int} {x1 : Int} {x2 : Int} {x3 : Int} {x4 : Int} {y0 : Int} {y1 : Int} {y2 : Int} {h : vH} (s1 : shLayout h y1) : vrun mX5_rowDown 21 [(1, x0), (0, x1), (0, x2), (0, x3), (1, x4)] [(0, y0), (1, y1), (0, y2)] h = vret vrun mX5_rowDown 21 [(1, x0), (0, x1), (0, x2), (0, x3), (1, x4)] [(0, y2)] (vcl mX3_rowOfEdge [(1, y1), (0, y0)] h) := by
  exact rg_virtual (pc := 21) (dd bX5_rowDown dX5_rowDown_21) rfl rfl (by decide) (kc := 24) rfl s1.1 (as := [(1, y1), (0, y0)]) rfl ⟨Nat.le_of_ble_eq_true rfl, Nat.le_of_ble_eq_true rfl, Nat.le_of_ble_eq_true rfl, Nat.le_of_ble_eq_true rfl⟩
theorem rX5_rowDown_24 {x0 : Int} {x1 : Int} {x2 : Int} {x3 : Int} {x4 : Int} {y0 : Int} {y1 : Int} {h : vH} (p1 : (-2147483648) ≤ y1 + y0) (p2 : y1 + y0 < 2147483648) : vrun mX5_rowDown 24 [(1, x0), (0, x1), (0, x2), (0, x3), (1, x4)] [(0, y0), (0, y1)] h = some (.inl (some (0, y1 + y0)), h) := by
  refine (rg_iadd (pc := 24) (dd bX5_rowDown dX5_rowDown_24) p1 p2).trans ?_
  exact rn_ireturn (pc := 25) (dd bX5_rowDown dX5_rowDown_25) (Or.inl rfl)
theorem bX5_columnDown : vmB mX5_columnDown = cX5_columnDown := rfl
theorem rX5_columnDown_0 {x0 : Int} {x1 : Int} {x2 : Int} {x3 : Int} {h : vH} (s1 : shPane h x0) : vrun mX5_columnDown 0 [(1, x0), (0, x1), (0, x2), (0, x3), (9, 0)] [] h = vret vrun mX5_columnDown 2 [(1, x0), (0, x1), (0, x2), (0, x3), (9, 0)] [] (vcl mX5_measured [(1, x0), (0, x1)] h) := by
  refine (rn_aload_n (pc := 0) (dd bX5_columnDown dX5_columnDown_0) rfl).trans ?_
  refine (rn_iload_n (pc := 1) (dd bX5_columnDown dX5_columnDown_1) rfl).trans ?_
  exact rg_virtual (pc := 2) (dd bX5_columnDown dX5_columnDown_2) rfl rfl (by decide) (kc := 26) rfl s1.1 (as := [(1, x0), (0, x1)]) rfl ⟨Nat.le_of_ble_eq_true rfl, Nat.le_of_ble_eq_true rfl, Nat.le_of_ble_eq_true rfl, Nat.le_of_ble_eq_true rfl⟩
theorem rX5_columnDown_5 {x0 : Int} {x1 : Int} {x2 : Int} {x3 : Int} {y0 : Int} {h : vH} (s1 : shPane h x0) : vrun mX5_columnDown 5 [(1, x0), (0, x1), (0, x2), (0, x3), (9, 0)] [(1, y0)] h = vret vrun mX5_columnDown 7 [(1, x0), (0, x1), (0, x2), (0, x3), (9, 0)] [] (vcl mX5_turned [(1, x0)] h) := by
  refine (rn_pop (pc := 5) (dd bX5_columnDown dX5_columnDown_5) (by decide)).trans ?_
  refine (rn_aload_n (pc := 6) (dd bX5_columnDown dX5_columnDown_6) rfl).trans ?_
  exact rg_virtual (pc := 7) (dd bX5_columnDown dX5_columnDown_7) rfl rfl (by decide) (kc := 26) rfl s1.1 (as := [(1, x0)]) rfl ⟨Nat.le_of_ble_eq_true rfl, Nat.le_of_ble_eq_true rfl, Nat.le_of_ble_eq_true rfl, Nat.le_of_ble_eq_true rfl⟩
theorem rX5_columnDown_10 {x0 : Int} {x1 : Int} {x2 : Int} {x3 : Int} {y0 : Int} {h : vH} (s1 : shLayout h y0) : vrun mX5_columnDown 10 [(1, x0), (0, x1), (0, x2), (0, x3), (9, 0)] [(1, y0)] h = vret vrun mX5_columnDown 18 [(1, x0), (0, x1), (0, x2), (0, x3), (1, y0)] [(1, y0)] (vcl mX3_edgeAt [(1, y0), (0, x2), (0, x3)] h) := by
  refine (rn_astore (pc := 10) (dd bX5_columnDown dX5_columnDown_10) (Nat.le_of_ble_eq_true rfl) rfl).trans ?_
  refine (rn_aload (pc := 12) (dd bX5_columnDown dX5_columnDown_12) rfl).trans ?_
  refine (rn_aload (pc := 14) (dd bX5_columnDown dX5_columnDown_14) rfl).trans ?_
  refine (rn_iload_n (pc := 16) (dd bX5_columnDown dX5_columnDown_16) rfl).trans ?_
  refine (rn_iload_n (pc := 17) (dd bX5_columnDown dX5_columnDown_17) rfl).trans ?_
  exact rg_virtual (pc := 18) (dd bX5_columnDown dX5_columnDown_18) rfl rfl (by decide) (kc := 24) rfl s1.1 (as := [(1, y0), (0, x2), (0, x3)]) rfl ⟨Nat.le_of_ble_eq_true rfl, Nat.le_of_ble_eq_true rfl, Nat.le_of_ble_eq_true rfl, Nat.le_of_ble_eq_true rfl⟩
theorem rX5_columnDown_21 {x0 : Int} {x1 : Int} {x2 : Int} {x3 : Int} {x4 : Int} {y0 : Int} {y1 : Int} {h : vH} (s1 : shLayout h y1) (p2 : 0 ≤ y0) (p3 : y0 < 2147483648) (p4 : ¬ (y0 < 0) → y0 / 2 < 131 → 0 ≤ y0 / 2) (p5 : ¬ (y0 < 0) → y0 / 2 < 131 → (-2147483648) ≤ h 2 (y1 + 7) (y0 / 2) + y0) (p6 : ¬ (y0 < 0) → y0 / 2 < 131 → h 2 (y1 + 7) (y0 / 2) + y0 < 2147483648) (p7 : ¬ (y0 < 0) → y0 / 2 < 131 → 0 ≤ h 2 (y1 + 7) (y0 / 2) + y0) (p8 : ¬ (y0 < 0) → y0 / 2 < 131 → ¬ ((h 2 (y1 + 7) (y0 / 2) + y0) % 2 = 0) → (-2147483648) ≤ h 2 (y1 + 6) (y0 / 2) + h 2 (y1 + 5) (y0 / 2)) (p9 : ¬ (y0 < 0) → y0 / 2 < 131 → ¬ ((h 2 (y1 + 7) (y0 / 2) + y0) % 2 = 0) → h 2 (y1 + 6) (y0 / 2) + h 2 (y1 + 5) (y0 / 2) < 2147483648) : vrun mX5_columnDown 21 [(1, x0), (0, x1), (0, x2), (0, x3), (1, x4)] [(0, y0), (1, y1)] h = some (.inl (some (0, fX3_columnOfEdge h y1 y0)), h) := by
  refine (rg_virtual (pc := 21) (dd bX5_columnDown dX5_columnDown_21) rfl rfl (by decide) (kc := 24) rfl s1.1 (as := [(1, y1), (0, y0)]) rfl ⟨Nat.le_of_ble_eq_true rfl, Nat.le_of_ble_eq_true rfl, Nat.le_of_ble_eq_true rfl, Nat.le_of_ble_eq_true rfl⟩).trans ?_
  refine (vret_v (spX3_columnOfEdge p2 p3 s1 p4 p5 p6 p7 p8 p9)).trans ?_
  exact rn_ireturn (pc := 24) (dd bX5_columnDown dX5_columnDown_24) (Or.inl rfl)
theorem bX5_placeUp : vmB mX5_placeUp = cX5_placeUp := rfl
theorem rX5_placeUp_0 {x0 : Int} {x1 : Int} {x2 : Int} {h : vH} (s1 : shPane h x0) : vrun mX5_placeUp 0 [(1, x0), (0, x1), (0, x2), (9, 0)] [] h = vret vrun mX5_placeUp 2 [(1, x0), (0, x1), (0, x2), (9, 0)] [] (vcl mX5_lineOfRow [(1, x0), (0, x1)] h) := by
  refine (rn_aload_n (pc := 0) (dd bX5_placeUp dX5_placeUp_0) rfl).trans ?_
  refine (rn_iload_n (pc := 1) (dd bX5_placeUp dX5_placeUp_1) rfl).trans ?_
  exact rg_virtual (pc := 2) (dd bX5_placeUp dX5_placeUp_2) rfl rfl (by decide) (kc := 26) rfl s1.1 (as := [(1, x0), (0, x1)]) rfl ⟨Nat.le_of_ble_eq_true rfl, Nat.le_of_ble_eq_true rfl, Nat.le_of_ble_eq_true rfl, Nat.le_of_ble_eq_true rfl⟩
theorem rX5_placeUp_5 {x0 : Int} {x1 : Int} {x2 : Int} {y0 : Int} {h : vH} (s1 : shPane h x0) : vrun mX5_placeUp 5 [(1, x0), (0, x1), (0, x2), (9, 0)] [(0, y0)] h = vret vrun mX5_placeUp 8 [(1, x0), (0, x1), (0, x2), (0, y0)] [] (vcl mX5_measured [(1, x0), (0, y0)] h) := by
  refine (rn_istore_n (pc := 5) (dd bX5_placeUp dX5_placeUp_5) (Nat.le_of_ble_eq_true rfl) rfl).trans ?_
  refine (rn_aload_n (pc := 6) (dd bX5_placeUp dX5_placeUp_6) rfl).trans ?_
  refine (rn_iload_n (pc := 7) (dd bX5_placeUp dX5_placeUp_7) rfl).trans ?_
  exact rg_virtual (pc := 8) (dd bX5_placeUp dX5_placeUp_8) rfl rfl (by decide) (kc := 26) rfl s1.1 (as := [(1, x0), (0, y0)]) rfl ⟨Nat.le_of_ble_eq_true rfl, Nat.le_of_ble_eq_true rfl, Nat.le_of_ble_eq_true rfl, Nat.le_of_ble_eq_true rfl⟩
theorem rX5_placeUp_11 {x0 : Int} {x1 : Int} {x2 : Int} {x3 : Int} {y0 : Int} {h : vH} (s1 : shPane h x0) : vrun mX5_placeUp 11 [(1, x0), (0, x1), (0, x2), (0, x3)] [(1, y0)] h = vret vrun mX5_placeUp 13 [(1, x0), (0, x1), (0, x2), (0, x3)] [] (vcl mX5_turned [(1, x0)] h) := by
  refine (rn_pop (pc := 11) (dd bX5_placeUp dX5_placeUp_11) (by decide)).trans ?_
  refine (rn_aload_n (pc := 12) (dd bX5_placeUp dX5_placeUp_12) rfl).trans ?_
  exact rg_virtual (pc := 13) (dd bX5_placeUp dX5_placeUp_13) rfl rfl (by decide) (kc := 26) rfl s1.1 (as := [(1, x0)]) rfl ⟨Nat.le_of_ble_eq_true rfl, Nat.le_of_ble_eq_true rfl, Nat.le_of_ble_eq_true rfl, Nat.le_of_ble_eq_true rfl⟩
theorem rX5_placeUp_16 {x0 : Int} {x1 : Int} {x2 : Int} {x3 : Int} {y0 : Int} {h : vH} (s1 : shPane h x0) (p2 : (-2147483648) ≤ x1 - fX5_firstRow h x0 x3) (p3 : x1 - fX5_firstRow h x0 x3 < 2147483648) (s4 : shLayout h y0) : vrun mX5_placeUp 16 [(1, x0), (0, x1), (0, x2), (0, x3)] [(1, y0)] h = vret vrun mX5_placeUp 23 [(1, x0), (0, x1), (0, x2), (0, x3)] [] (vcl mX3_placeUp [(1, y0), (0, x1 - fX5_firstRow h x0 x3), (0, x2)] h) := by
  refine (rn_aload_n (pc := 16) (dd bX5_placeUp dX5_placeUp_16) rfl).trans ?_
  refine (rn_iload_n (pc := 17) (dd bX5_placeUp dX5_placeUp_17) rfl).trans ?_
  refine (rn_iload_n (pc := 18) (dd bX5_placeUp dX5_placeUp_18) rfl).trans ?_
  refine (rg_virtual (pc := 19) (dd bX5_placeUp dX5_placeUp_19) rfl rfl (by decide) (kc := 26) rfl s1.1 (as := [(1, x0), (0, x1), (0, x3)]) rfl ⟨Nat.le_of_ble_eq_true rfl, Nat.le_of_ble_eq_true rfl, Nat.le_of_ble_eq_true rfl, Nat.le_of_ble_eq_true rfl⟩).trans ?_
  refine (vret_v (spX5_rowInLine s1 p2 p3)).trans ?_
  refine (rn_iload_n (pc := 22) (dd bX5_placeUp dX5_placeUp_22) rfl).trans ?_
  exact rg_virtual (pc := 23) (dd bX5_placeUp dX5_placeUp_23) rfl rfl (by decide) (kc := 24) rfl s4.1 (as := [(1, y0), (0, x1 - fX5_firstRow h x0 x3), (0, x2)]) rfl ⟨Nat.le_of_ble_eq_true rfl, Nat.le_of_ble_eq_true rfl, Nat.le_of_ble_eq_true rfl, Nat.le_of_ble_eq_true rfl⟩
theorem rX5_placeUp_26 {x0 : Int} {x1 : Int} {x2 : Int} {x3 : Int} {y0 : Int} {h : vH} : vrun mX5_placeUp 26 [(1, x0), (0, x1), (0, x2), (0, x3)] [(0, y0)] h = some (.inl (some (0, y0)), h) := by
  exact rn_ireturn (pc := 26) (dd bX5_placeUp dX5_placeUp_26) (Or.inl rfl)
theorem bX5_marksOfRow : vmB mX5_marksOfRow = cX5_marksOfRow := rfl
theorem rX5_marksOfRow_0 {x0 : Int} {x1 : Int} {h : vH} (s1 : shPane h x0) : vrun mX5_marksOfRow 0 [(1, x0), (0, x1), (9, 0)] [] h = vret vrun mX5_marksOfRow 2 [(1, x0), (0, x1), (9, 0)] [] (vcl mX5_lineOfRow [(1, x0), (0, x1)] h) := by
  refine (rn_aload_n (pc := 0) (dd bX5_marksOfRow dX5_marksOfRow_0) rfl).trans ?_
  refine (rn_iload_n (pc := 1) (dd bX5_marksOfRow dX5_marksOfRow_1) rfl).trans ?_
  exact rg_virtual (pc := 2) (dd bX5_marksOfRow dX5_marksOfRow_2) rfl rfl (by decide) (kc := 26) rfl s1.1 (as := [(1, x0), (0, x1)]) rfl ⟨Nat.le_of_ble_eq_true rfl, Nat.le_of_ble_eq_true rfl, Nat.le_of_ble_eq_true rfl, Nat.le_of_ble_eq_true rfl⟩
theorem rX5_marksOfRow_5 {x0 : Int} {x1 : Int} {y0 : Int} {h : vH} (s1 : shPane h x0) : vrun mX5_marksOfRow 5 [(1, x0), (0, x1), (9, 0)] [(0, y0)] h = if x1 = fX5_firstRow h x0 y0 then vret vrun mX5_marksOfRow 28 [(1, x0), (0, x1), (0, y0)] [(0, y0), (0, y0), (1, 4)] (vcl mX2_closedEnd [(1, x0 + 1), (0, y0)] h) else some (.inl (some (0, 0)), h) := by
  refine (rn_istore_n (pc := 5) (dd bX5_marksOfRow dX5_marksOfRow_5) (Nat.le_of_ble_eq_true rfl) rfl).trans ?_
  refine (rn_iload_n (pc := 6) (dd bX5_marksOfRow dX5_marksOfRow_6) rfl).trans ?_
  refine (rn_aload_n (pc := 7) (dd bX5_marksOfRow dX5_marksOfRow_7) rfl).trans ?_
  refine (rn_iload_n (pc := 8) (dd bX5_marksOfRow dX5_marksOfRow_8) rfl).trans ?_
  refine (rg_virtual (pc := 9) (dd bX5_marksOfRow dX5_marksOfRow_9) rfl rfl (by decide) (kc := 26) rfl s1.1 (as := [(1, x0), (0, y0)]) rfl ⟨Nat.le_of_ble_eq_true rfl, Nat.le_of_ble_eq_true rfl, Nat.le_of_ble_eq_true rfl, Nat.le_of_ble_eq_true rfl⟩).trans ?_
  refine (vret_v (spX5_firstRow s1)).trans ?_
  refine (rn_icmp_eq (t := 17) (pc := 12) (dd bX5_marksOfRow dX5_marksOfRow_12) rfl).trans (itec (fun c1 => ?_) (fun c1 => ?_))
  · refine (rn_aload_n (pc := 17) (dd bX5_marksOfRow dX5_marksOfRow_17) rfl).trans ?_
    refine (rg_gf (pc := 18) (dd bX5_marksOfRow dX5_marksOfRow_18) (ci := 6) (j := 0) rfl rfl (key := 700) rfl (kc := 26) rfl s1.1 s1.2.1).trans ?_
    refine (rn_iload_n (pc := 21) (dd bX5_marksOfRow dX5_marksOfRow_21) rfl).trans ?_
    refine (rn_iload_n (pc := 22) (dd bX5_marksOfRow dX5_marksOfRow_22) rfl).trans ?_
    refine (rn_aload_n (pc := 23) (dd bX5_marksOfRow dX5_marksOfRow_23) rfl).trans ?_
    refine (rg_gf (pc := 24) (dd bX5_marksOfRow dX5_marksOfRow_24) (ci := 6) (j := 1) rfl rfl (key := 701) rfl (kc := 26) rfl s1.1 s1.2.2.1).trans ?_
    refine (rn_iload_n (pc := 27) (dd bX5_marksOfRow dX5_marksOfRow_27) rfl).trans ?_
    exact rg_virtual (pc := 28) (dd bX5_marksOfRow dX5_marksOfRow_28) rfl rfl (by decide) (kc := 23) rfl s1.2.2.2.1.1 (as := [(1, x0 + 1), (0, y0)]) rfl ⟨Nat.le_of_ble_eq_true rfl, Nat.le_of_ble_eq_true rfl, Nat.le_of_ble_eq_true rfl, Nat.le_of_ble_eq_true rfl⟩
  · refine (rn_iconst (pc := 15) (dd bX5_marksOfRow dX5_marksOfRow_15) (by decide)).trans ?_
    exact rn_ireturn (pc := 16) (dd bX5_marksOfRow dX5_marksOfRow_16) (Or.inl rfl)
theorem rX5_marksOfRow_31 {x0 : Int} {x1 : Int} {x2 : Int} {y0 : Int} {y1 : Int} {y2 : Int} {h : vH} (s1 : shText h) : vrun mX5_marksOfRow 31 [(1, x0), (0, x1), (0, x2)] [(0, y0), (0, y1), (0, y2), (1, 4)] h = vret vrun mX5_marksOfRow 34 [(1, x0), (0, x1), (0, x2)] [] (vcl mX10_markedFrom [(1, 4), (0, y2), (0, max y1 y0)] h) := by
  refine (rg_max (pc := 31) (dd bX5_marksOfRow dX5_marksOfRow_31) rfl ⟨Nat.le_of_ble_eq_true rfl, Nat.le_of_ble_eq_true rfl, Nat.le_of_ble_eq_true rfl⟩).trans ?_
  exact rg_virtual (pc := 34) (dd bX5_marksOfRow dX5_marksOfRow_34) rfl rfl (by decide) (kc := 31) rfl s1.1 (as := [(1, 4), (0, y2), (0, max y1 y0)]) rfl ⟨Nat.le_of_ble_eq_true rfl, Nat.le_of_ble_eq_true rfl, Nat.le_of_ble_eq_true rfl, Nat.le_of_ble_eq_true rfl⟩
theorem rX5_marksOfRow_37 {x0 : Int} {x1 : Int} {x2 : Int} {y0 : Int} {h : vH} : vrun mX5_marksOfRow 37 [(1, x0), (0, x1), (0, x2)] [(0, y0)] h = some (.inl (some (0, y0)), h) := by
  exact rn_ireturn (pc := 37) (dd bX5_marksOfRow dX5_marksOfRow_37) (Or.inl rfl)
theorem bX5_takenLine : vmB mX5_takenLine = cX5_takenLine := rfl
theorem rX5_takenLine_0 {x0 : Int} {x1 : Int} {h : vH} (s1 : shPlace h x1) : vrun mX5_takenLine 0 [(1, x0), (1, x1), (9, 0)] [] h = vrun mX5_takenLine 5 [(1, x0), (1, x1), (0, h 901 x1 0)] [] h := by
  refine (rn_aload_n (pc := 0) (dd bX5_takenLine dX5_takenLine_0) rfl).trans ?_
  refine (rg_gf (pc := 1) (dd bX5_takenLine dX5_takenLine_1) (ci := 8) (j := 1) rfl rfl (key := 901) rfl (kc := 28) rfl s1 rfl).trans ?_
  refine (rn_istore_n (pc := 4) (dd bX5_takenLine dX5_takenLine_4) (Nat.le_of_ble_eq_true rfl) rfl).trans ?_
  rfl
theorem rX5_takenLine_5 {x0 : Int} {x1 : Int} {x2 : Int} {h : vH} (s1 : shPane h x0) : vrun mX5_takenLine 5 [(1, x0), (1, x1), (0, x2)] [] h = if x2 ≤ 0 then some (.inl (some (0, x2)), h) else vret vrun mX5_takenLine 14 [(1, x0), (1, x1), (0, x2)] [] (vcl mX2_isVisible [(1, x0 + 1), (0, x2)] h) := by
  refine (rn_iload_n (pc := 5) (dd bX5_takenLine dX5_takenLine_5) rfl).trans ?_
  refine (rn_if_le (t := 26) (pc := 6) (dd bX5_takenLine dX5_takenLine_6) rfl).trans (itec (fun c1 => ?_) (fun c1 => ?_))
  · refine (rn_iload_n (pc := 26) (dd bX5_takenLine dX5_takenLine_26) rfl).trans ?_
    exact rn_ireturn (pc := 27) (dd bX5_takenLine dX5_takenLine_27) (Or.inl rfl)
  · refine (rn_aload_n (pc := 9) (dd bX5_takenLine dX5_takenLine_9) rfl).trans ?_
    refine (rg_gf (pc := 10) (dd bX5_takenLine dX5_takenLine_10) (ci := 6) (j := 1) rfl rfl (key := 701) rfl (kc := 26) rfl s1.1 s1.2.2.1).trans ?_
    refine (rn_iload_n (pc := 13) (dd bX5_takenLine dX5_takenLine_13) rfl).trans ?_
    exact rg_virtual (pc := 14) (dd bX5_takenLine dX5_takenLine_14) rfl rfl (by decide) (kc := 23) rfl s1.2.2.2.1.1 (as := [(1, x0 + 1), (0, x2)]) rfl ⟨Nat.le_of_ble_eq_true rfl, Nat.le_of_ble_eq_true rfl, Nat.le_of_ble_eq_true rfl, Nat.le_of_ble_eq_true rfl⟩
theorem rX5_takenLine_17 {x0 : Int} {x1 : Int} {x2 : Int} {y0 : Int} {h : vH} (p1 : y0 = 0 → (-2147483648) ≤ x2 + (-1)) (p2 : y0 = 0 → x2 + (-1) < 2147483648) : vrun mX5_takenLine 17 [(1, x0), (1, x1), (0, x2)] [(0, y0)] h = if y0 = 0 then vrun mX5_takenLine 5 [(1, x0), (1, x1), (0, x2 + (-1))] [] h else some (.inl (some (0, x2)), h) := by
  refine (rg_if_ne (t := 26) (pc := 17) (dd bX5_takenLine dX5_takenLine_17) rfl).trans (itec (fun c1 => ?_) (fun c1 => ?_))
  · refine (rg_iinc (pc := 20) (dd bX5_takenLine dX5_takenLine_20) rfl (Nat.le_of_ble_eq_true rfl) (p1 c1) (p2 c1) rfl).trans ?_
    refine (rn_goto (t := 5) (pc := 23) (dd bX5_takenLine dX5_takenLine_23) rfl).trans ?_
    rfl
  · refine (rn_iload_n (pc := 26) (dd bX5_takenLine dX5_takenLine_26) rfl).trans ?_
    exact rn_ireturn (pc := 27) (dd bX5_takenLine dX5_takenLine_27) (Or.inl rfl)
theorem bX5_takenAt : vmB mX5_takenAt = cX5_takenAt := rfl
theorem rX5_takenAt_0 {x0 : Int} {x1 : Int} {h : vH} (s1 : shPane h x0) : vrun mX5_takenAt 0 [(1, x0), (1, x1)] [] h = vret vrun mX5_takenAt 2 [(1, x0), (1, x1)] [] (vcl mX5_takenLine [(1, x0), (1, x1)] h) := by
  refine (rn_aload_n (pc := 0) (dd bX5_takenAt dX5_takenAt_0) rfl).trans ?_
  refine (rn_aload_n (pc := 1) (dd bX5_takenAt dX5_takenAt_1) rfl).trans ?_
  exact rg_virtual (pc := 2) (dd bX5_takenAt dX5_takenAt_2) rfl rfl (by decide) (kc := 26) rfl s1.1 (as := [(1, x0), (1, x1)]) rfl ⟨Nat.le_of_ble_eq_true rfl, Nat.le_of_ble_eq_true rfl, Nat.le_of_ble_eq_true rfl, Nat.le_of_ble_eq_true rfl⟩
theorem rX5_takenAt_5 {x0 : Int} {x1 : Int} {y0 : Int} {h : vH} (s1 : shPlace h x1) : vrun mX5_takenAt 5 [(1, x0), (1, x1)] [(0, y0)] h = some (.inl (some (0, (if y0 = h 901 x1 0 then h 902 x1 0 else 0))), h) := by
  refine (rn_aload_n (pc := 5) (dd bX5_takenAt dX5_takenAt_5) rfl).trans ?_
  refine (rg_gf (pc := 6) (dd bX5_takenAt dX5_takenAt_6) (ci := 8) (j := 1) rfl rfl (key := 901) rfl (kc := 28) rfl s1 rfl).trans ?_
  have e1 : vrun mX5_takenAt 9 [(1, x0), (1, x1)] [(0, h 901 x1 0), (0, y0)] h = vrun mX5_takenAt 20 [(1, x0), (1, x1)] [(0, (if y0 = h 901 x1 0 then h 902 x1 0 else 0))] h := by
    refine (rg_icmp_ne (t := 19) (pc := 9) (dd bX5_takenAt dX5_takenAt_9) rfl).trans ?_
    by_cases c1 : y0 = h 901 x1 0
    · refine (if_pos c1).trans ?_
      refine (rn_aload_n (pc := 12) (dd bX5_takenAt dX5_takenAt_12) rfl).trans ?_
      refine (rg_gf (pc := 13) (dd bX5_takenAt dX5_takenAt_13) (ci := 8) (j := 2) rfl rfl (key := 902) rfl (kc := 28) rfl s1 rfl).trans ?_
      refine (rn_goto (t := 20) (pc := 16) (dd bX5_takenAt dX5_takenAt_16) rfl).trans ?_
      refine Eq.trans (b := vrun mX5_takenAt 20 [(1, x0), (1, x1)] [(0, h 902 x1 0)] h) rfl ?_
      simp only [if_pos c1]
    · refine (if_neg c1).trans ?_
      refine (rn_iconst (pc := 19) (dd bX5_takenAt dX5_takenAt_19) (by decide)).trans ?_
      refine Eq.trans (b := vrun mX5_takenAt 20 [(1, x0), (1, x1)] [(0, 0)] h) rfl ?_
      simp only [if_neg c1]
  refine e1.trans ?_
  exact rn_ireturn (pc := 20) (dd bX5_takenAt dX5_takenAt_20) (Or.inl rfl)
theorem bX5_cursorColumn : vmB mX5_cursorColumn = cX5_cursorColumn := rfl
theorem rX5_cursorColumn_0 {x0 : Int} {h : vH} (s1 : shPane h x0) : vrun mX5_cursorColumn 0 [(1, x0)] [] h = vret vrun mX5_cursorColumn 6 [(1, x0)] [(1, x0)] (vcl mX5_takenLine [(1, x0), (1, x0 + 23)] h) := by
  refine (rn_aload_n (pc := 0) (dd bX5_cursorColumn dX5_cursorColumn_0) rfl).trans ?_
  refine (rn_aload_n (pc := 1) (dd bX5_cursorColumn dX5_cursorColumn_1) rfl).trans ?_
  refine (rn_aload_n (pc := 2) (dd bX5_cursorColumn dX5_cursorColumn_2) rfl).trans ?_
  refine (rg_gf (pc := 3) (dd bX5_cursorColumn dX5_cursorColumn_3) (ci := 6) (j := 4) rfl rfl (key := 704) rfl (kc := 26) rfl s1.1 s1.2.2.2.2.2.2.2.2.1).trans ?_
  exact rg_virtual (pc := 6) (dd bX5_cursorColumn dX5_cursorColumn_6) rfl rfl (by decide) (kc := 26) rfl s1.1 (as := [(1, x0), (1, x0 + 23)]) rfl ⟨Nat.le_of_ble_eq_true rfl, Nat.le_of_ble_eq_true rfl, Nat.le_of_ble_eq_true rfl, Nat.le_of_ble_eq_true rfl⟩
theorem rX5_cursorColumn_9 {x0 : Int} {y0 : Int} {y1 : Int} {h : vH} (s1 : shPane h x0) : vrun mX5_cursorColumn 9 [(1, x0)] [(0, y0), (1, y1)] h = vret vrun mX5_cursorColumn 14 [(1, x0)] [(0, y0), (1, y1)] (vcl mX5_takenAt [(1, x0), (1, x0 + 23)] h) := by
  refine (rn_aload_n (pc := 9) (dd bX5_cursorColumn dX5_cursorColumn_9) rfl).trans ?_
  refine (rn_aload_n (pc := 10) (dd bX5_cursorColumn dX5_cursorColumn_10) rfl).trans ?_
  refine (rg_gf (pc := 11) (dd bX5_cursorColumn dX5_cursorColumn_11) (ci := 6) (j := 4) rfl rfl (key := 704) rfl (kc := 26) rfl s1.1 s1.2.2.2.2.2.2.2.2.1).trans ?_
  exact rg_virtual (pc := 14) (dd bX5_cursorColumn dX5_cursorColumn_14) rfl rfl (by decide) (kc := 26) rfl s1.1 (as := [(1, x0), (1, x0 + 23)]) rfl ⟨Nat.le_of_ble_eq_true rfl, Nat.le_of_ble_eq_true rfl, Nat.le_of_ble_eq_true rfl, Nat.le_of_ble_eq_true rfl⟩
theorem rX5_cursorColumn_17 {x0 : Int} {y0 : Int} {y1 : Int} {y2 : Int} {h : vH} (s1 : shPane h y2) : vrun mX5_cursorColumn 17 [(1, x0)] [(0, y0), (0, y1), (1, y2)] h = vret vrun mX5_cursorColumn 18 [(1, x0)] [] (vcl mX5_columnDown [(1, y2), (0, y1), (0, y0), (0, 0)] h) := by
  refine (rn_iconst (pc := 17) (dd bX5_cursorColumn dX5_cursorColumn_17) (by decide)).trans ?_
  exact rg_virtual (pc := 18) (dd bX5_cursorColumn dX5_cursorColumn_18) rfl rfl (by decide) (kc := 26) rfl s1.1 (as := [(1, y2), (0, y1), (0, y0), (0, 0)]) rfl ⟨Nat.le_of_ble_eq_true rfl, Nat.le_of_ble_eq_true rfl, Nat.le_of_ble_eq_true rfl, Nat.le_of_ble_eq_true rfl⟩
theorem rX5_cursorColumn_21 {x0 : Int} {y0 : Int} {h : vH} : vrun mX5_cursorColumn 21 [(1, x0)] [(0, y0)] h = some (.inl (some (0, y0)), h) := by
  exact rn_ireturn (pc := 21) (dd bX5_cursorColumn dX5_cursorColumn_21) (Or.inl rfl)
theorem bX5_putCursor : vmB mX5_putCursor = cX5_putCursor := rfl
theorem rX5_putCursor_0 {x0 : Int} {x1 : Int} {x2 : Int} {h : vH} (s1 : shPane h x0) : vrun mX5_putCursor 0 [(1, x0), (0, x1), (0, x2)] [] h = vret vrun mX5_putCursor 6 [(1, x0), (0, x1), (0, x2)] [] (vcl mX7_set [(1, x0 + 23), (0, x1), (0, x2)] h) := by
  refine (rn_aload_n (pc := 0) (dd bX5_putCursor dX5_putCursor_0) rfl).trans ?_
  refine (rg_gf (pc := 1) (dd bX5_putCursor dX5_putCursor_1) (ci := 6) (j := 4) rfl rfl (key := 704) rfl (kc := 26) rfl s1.1 s1.2.2.2.2.2.2.2.2.1).trans ?_
  refine (rn_iload_n (pc := 4) (dd bX5_putCursor dX5_putCursor_4) rfl).trans ?_
  refine (rn_iload_n (pc := 5) (dd bX5_putCursor dX5_putCursor_5) rfl).trans ?_
  exact rg_virtual (pc := 6) (dd bX5_putCursor dX5_putCursor_6) rfl rfl (by decide) (kc := 28) rfl s1.2.2.2.2.2.2.2.2.2.1 (as := [(1, x0 + 23), (0, x1), (0, x2)]) rfl ⟨Nat.le_of_ble_eq_true rfl, Nat.le_of_ble_eq_true rfl, Nat.le_of_ble_eq_true rfl, Nat.le_of_ble_eq_true rfl⟩
theorem rX5_putCursor_9 {x0 : Int} {x1 : Int} {x2 : Int} {h : vH} (s1 : shPane h x0) : vrun mX5_putCursor 9 [(1, x0), (0, x1), (0, x2)] [] h = vret vrun mX5_putCursor 11 [(1, x0), (0, x1), (0, x2)] [(1, x0)] (vcl mX5_cursorColumn [(1, x0)] h) := by
  refine (rn_aload_n (pc := 9) (dd bX5_putCursor dX5_putCursor_9) rfl).trans ?_
  refine (rn_aload_n (pc := 10) (dd bX5_putCursor dX5_putCursor_10) rfl).trans ?_
  exact rg_virtual (pc := 11) (dd bX5_putCursor dX5_putCursor_11) rfl rfl (by decide) (kc := 26) rfl s1.1 (as := [(1, x0)]) rfl ⟨Nat.le_of_ble_eq_true rfl, Nat.le_of_ble_eq_true rfl, Nat.le_of_ble_eq_true rfl, Nat.le_of_ble_eq_true rfl⟩
theorem rX5_putCursor_14 {x0 : Int} {x1 : Int} {x2 : Int} {y0 : Int} {y1 : Int} {h : vH} (s1 : shPane h y1) : vrun mX5_putCursor 14 [(1, x0), (0, x1), (0, x2)] [(0, y0), (1, y1)] h = some (.inl none, vup h 707 y1 0 y0) := by
  refine (rg_pf (pc := 14) (dd bX5_putCursor dX5_putCursor_14) (ci := 6) (j := 7) rfl (key := 707) rfl (kc := 26) rfl s1.1 rfl (by intro z; cases z) (by decide)).trans ?_
  exact rn_return (pc := 17) (dd bX5_putCursor dX5_putCursor_17) rfl
theorem bX5_cursorRow : vmB mX5_cursorRow = cX5_cursorRow := rfl
theorem rX5_cursorRow_0 {x0 : Int} {h : vH} (s1 : shPane h x0) : vrun mX5_cursorRow 0 [(1, x0)] [] h = vret vrun mX5_cursorRow 6 [(1, x0)] [(1, x0)] (vcl mX5_takenLine [(1, x0), (1, x0 + 23)] h) := by
  refine (rn_aload_n (pc := 0) (dd bX5_cursorRow dX5_cursorRow_0) rfl).trans ?_
  refine (rn_aload_n (pc := 1) (dd bX5_cursorRow dX5_cursorRow_1) rfl).trans ?_
  refine (rn_aload_n (pc := 2) (dd bX5_cursorRow dX5_cursorRow_2) rfl).trans ?_
  refine (rg_gf (pc := 3) (dd bX5_cursorRow dX5_cursorRow_3) (ci := 6) (j := 4) rfl rfl (key := 704) rfl (kc := 26) rfl s1.1 s1.2.2.2.2.2.2.2.2.1).trans ?_
  exact rg_virtual (pc := 6) (dd bX5_cursorRow dX5_cursorRow_6) rfl rfl (by decide) (kc := 26) rfl s1.1 (as := [(1, x0), (1, x0 + 23)]) rfl ⟨Nat.le_of_ble_eq_true rfl, Nat.le_of_ble_eq_true rfl, Nat.le_of_ble_eq_true rfl, Nat.le_of_ble_eq_true rfl⟩
theorem rX5_cursorRow_9 {x0 : Int} {y0 : Int} {y1 : Int} {h : vH} (s1 : shPane h x0) : vrun mX5_cursorRow 9 [(1, x0)] [(0, y0), (1, y1)] h = vret vrun mX5_cursorRow 14 [(1, x0)] [(0, y0), (1, y1)] (vcl mX5_takenAt [(1, x0), (1, x0 + 23)] h) := by
  refine (rn_aload_n (pc := 9) (dd bX5_cursorRow dX5_cursorRow_9) rfl).trans ?_
  refine (rn_aload_n (pc := 10) (dd bX5_cursorRow dX5_cursorRow_10) rfl).trans ?_
  refine (rg_gf (pc := 11) (dd bX5_cursorRow dX5_cursorRow_11) (ci := 6) (j := 4) rfl rfl (key := 704) rfl (kc := 26) rfl s1.1 s1.2.2.2.2.2.2.2.2.1).trans ?_
  exact rg_virtual (pc := 14) (dd bX5_cursorRow dX5_cursorRow_14) rfl rfl (by decide) (kc := 26) rfl s1.1 (as := [(1, x0), (1, x0 + 23)]) rfl ⟨Nat.le_of_ble_eq_true rfl, Nat.le_of_ble_eq_true rfl, Nat.le_of_ble_eq_true rfl, Nat.le_of_ble_eq_true rfl⟩
theorem rX5_cursorRow_17 {x0 : Int} {y0 : Int} {y1 : Int} {y2 : Int} {h : vH} (s1 : shPane h y2) : vrun mX5_cursorRow 17 [(1, x0)] [(0, y0), (0, y1), (1, y2)] h = vret vrun mX5_cursorRow 18 [(1, x0)] [] (vcl mX5_rowDown [(1, y2), (0, y1), (0, y0), (0, 0)] h) := by
  refine (rn_iconst (pc := 17) (dd bX5_cursorRow dX5_cursorRow_17) (by decide)).trans ?_
  exact rg_virtual (pc := 18) (dd bX5_cursorRow dX5_cursorRow_18) rfl rfl (by decide) (kc := 26) rfl s1.1 (as := [(1, y2), (0, y1), (0, y0), (0, 0)]) rfl ⟨Nat.le_of_ble_eq_true rfl, Nat.le_of_ble_eq_true rfl, Nat.le_of_ble_eq_true rfl, Nat.le_of_ble_eq_true rfl⟩
theorem rX5_cursorRow_21 {x0 : Int} {y0 : Int} {h : vH} : vrun mX5_cursorRow 21 [(1, x0)] [(0, y0)] h = some (.inl (some (0, y0)), h) := by
  exact rn_ireturn (pc := 21) (dd bX5_cursorRow dX5_cursorRow_21) (Or.inl rfl)
theorem bX5_topRow : vmB mX5_topRow = cX5_topRow := rfl
theorem rX5_topRow_0 {x0 : Int} {h : vH} (s1 : shPane h x0) : vrun mX5_topRow 0 [(1, x0)] [] h = vret vrun mX5_topRow 6 [(1, x0)] [(1, x0)] (vcl mX5_takenLine [(1, x0), (1, x0 + 24)] h) := by
  refine (rn_aload_n (pc := 0) (dd bX5_topRow dX5_topRow_0) rfl).trans ?_
  refine (rn_aload_n (pc := 1) (dd bX5_topRow dX5_topRow_1) rfl).trans ?_
  refine (rn_aload_n (pc := 2) (dd bX5_topRow dX5_topRow_2) rfl).trans ?_
  refine (rg_gf (pc := 3) (dd bX5_topRow dX5_topRow_3) (ci := 6) (j := 5) rfl rfl (key := 705) rfl (kc := 26) rfl s1.1 s1.2.2.2.2.2.2.2.2.2.2.1).trans ?_
  exact rg_virtual (pc := 6) (dd bX5_topRow dX5_topRow_6) rfl rfl (by decide) (kc := 26) rfl s1.1 (as := [(1, x0), (1, x0 + 24)]) rfl ⟨Nat.le_of_ble_eq_true rfl, Nat.le_of_ble_eq_true rfl, Nat.le_of_ble_eq_true rfl, Nat.le_of_ble_eq_true rfl⟩
theorem rX5_topRow_9 {x0 : Int} {y0 : Int} {y1 : Int} {h : vH} (s1 : shPane h x0) : vrun mX5_topRow 9 [(1, x0)] [(0, y0), (1, y1)] h = vret vrun mX5_topRow 14 [(1, x0)] [(0, y0), (1, y1)] (vcl mX5_takenAt [(1, x0), (1, x0 + 24)] h) := by
  refine (rn_aload_n (pc := 9) (dd bX5_topRow dX5_topRow_9) rfl).trans ?_
  refine (rn_aload_n (pc := 10) (dd bX5_topRow dX5_topRow_10) rfl).trans ?_
  refine (rg_gf (pc := 11) (dd bX5_topRow dX5_topRow_11) (ci := 6) (j := 5) rfl rfl (key := 705) rfl (kc := 26) rfl s1.1 s1.2.2.2.2.2.2.2.2.2.2.1).trans ?_
  exact rg_virtual (pc := 14) (dd bX5_topRow dX5_topRow_14) rfl rfl (by decide) (kc := 26) rfl s1.1 (as := [(1, x0), (1, x0 + 24)]) rfl ⟨Nat.le_of_ble_eq_true rfl, Nat.le_of_ble_eq_true rfl, Nat.le_of_ble_eq_true rfl, Nat.le_of_ble_eq_true rfl⟩
theorem rX5_topRow_17 {x0 : Int} {y0 : Int} {y1 : Int} {y2 : Int} {h : vH} (s1 : shPane h y2) : vrun mX5_topRow 17 [(1, x0)] [(0, y0), (0, y1), (1, y2)] h = vret vrun mX5_topRow 18 [(1, x0)] [] (vcl mX5_rowDown [(1, y2), (0, y1), (0, y0), (0, 0)] h) := by
  refine (rn_iconst (pc := 17) (dd bX5_topRow dX5_topRow_17) (by decide)).trans ?_
  exact rg_virtual (pc := 18) (dd bX5_topRow dX5_topRow_18) rfl rfl (by decide) (kc := 26) rfl s1.1 (as := [(1, y2), (0, y1), (0, y0), (0, 0)]) rfl ⟨Nat.le_of_ble_eq_true rfl, Nat.le_of_ble_eq_true rfl, Nat.le_of_ble_eq_true rfl, Nat.le_of_ble_eq_true rfl⟩
theorem rX5_topRow_21 {x0 : Int} {y0 : Int} {h : vH} : vrun mX5_topRow 21 [(1, x0)] [(0, y0)] h = some (.inl (some (0, y0)), h) := by
  exact rn_ireturn (pc := 21) (dd bX5_topRow dX5_topRow_21) (Or.inl rfl)
theorem bX5_marginFor : vmB mX5_marginFor = cX5_marginFor := rfl
theorem rX5_marginFor_0 {x0 : Int} {x1 : Int} {h : vH} (s1 : shPane h x0) (p2 : (-2147483648) ≤ x1 - 1) (p3 : x1 - 1 < 2147483648) (p4 : 0 ≤ x1 - 1) : vrun mX5_marginFor 0 [(1, x0), (0, x1)] [] h = some (.inl (some (0, min (h 710 x0 0) ((x1 - 1) / 2))), h) := by
  refine (rn_aload_n (pc := 0) (dd bX5_marginFor dX5_marginFor_0) rfl).trans ?_
  refine (rg_gf (pc := 1) (dd bX5_marginFor dX5_marginFor_1) (ci := 6) (j := 10) rfl rfl (key := 710) rfl (kc := 26) rfl s1.1 rfl).trans ?_
  refine (rn_iload_n (pc := 4) (dd bX5_marginFor dX5_marginFor_4) rfl).trans ?_
  refine (rn_iconst (pc := 5) (dd bX5_marginFor dX5_marginFor_5) (by decide)).trans ?_
  refine (rg_isub (pc := 6) (dd bX5_marginFor dX5_marginFor_6) p2 p3).trans ?_
  refine (rn_iconst (pc := 7) (dd bX5_marginFor dX5_marginFor_7) (by decide)).trans ?_
  refine (rg_idiv (pc := 8) (dd bX5_marginFor dX5_marginFor_8) (by decide) p4 (by omega)).trans ?_
  refine (rg_min (pc := 9) (dd bX5_marginFor dX5_marginFor_9) rfl ⟨Nat.le_of_ble_eq_true rfl, Nat.le_of_ble_eq_true rfl, Nat.le_of_ble_eq_true rfl⟩).trans ?_
  exact rn_ireturn (pc := 12) (dd bX5_marginFor dX5_marginFor_12) (Or.inl rfl)
theorem spX5_marginFor {x0 : Int} {x1 : Int} {h : vH} (s1 : shPane h x0) (p2 : (-2147483648) ≤ x1 - 1) (p3 : x1 - 1 < 2147483648) (p4 : 0 ≤ x1 - 1) : vcl mX5_marginFor [(1, x0), (0, x1)] h = some (.inl (some (0, min (h 710 x0 0) ((x1 - 1) / 2))), h) := by
  refine (show _ = _ from rX5_marginFor_0 s1 p2 p3 p4).trans ?_
  rfl
theorem bX5_setTop : vmB mX5_setTop = cX5_setTop := rfl
theorem rX5_setTop_0 {x0 : Int} {x1 : Int} {h : vH} (s1 : shPane h x0) : vrun mX5_setTop 0 [(1, x0), (0, x1), (9, 0)] [] h = vret vrun mX5_setTop 2 [(1, x0), (0, x1), (9, 0)] [] (vcl mX5_lineOfRow [(1, x0), (0, x1)] h) := by
  refine (rn_aload_n (pc := 0) (dd bX5_setTop dX5_setTop_0) rfl).trans ?_
  refine (rn_iload_n (pc := 1) (dd bX5_setTop dX5_setTop_1) rfl).trans ?_
  exact rg_virtual (pc := 2) (dd bX5_setTop dX5_setTop_2) rfl rfl (by decide) (kc := 26) rfl s1.1 (as := [(1, x0), (0, x1)]) rfl ⟨Nat.le_of_ble_eq_true rfl, Nat.le_of_ble_eq_true rfl, Nat.le_of_ble_eq_true rfl, Nat.le_of_ble_eq_true rfl⟩
theorem rX5_setTop_5 {x0 : Int} {x1 : Int} {y0 : Int} {h : vH} (s1 : shPane h x0) : vrun mX5_setTop 5 [(1, x0), (0, x1), (9, 0)] [(0, y0)] h = vret vrun mX5_setTop 13 [(1, x0), (0, x1), (0, y0)] [(0, y0), (1, x0 + 24)] (vcl mX5_measured [(1, x0), (0, y0)] h) := by
  refine (rn_istore_n (pc := 5) (dd bX5_setTop dX5_setTop_5) (Nat.le_of_ble_eq_true rfl) rfl).trans ?_
  refine (rn_aload_n (pc := 6) (dd bX5_setTop dX5_setTop_6) rfl).trans ?_
  refine (rg_gf (pc := 7) (dd bX5_setTop dX5_setTop_7) (ci := 6) (j := 5) rfl rfl (key := 705) rfl (kc := 26) rfl s1.1 s1.2.2.2.2.2.2.2.2.2.2.1).trans ?_
  refine (rn_iload_n (pc := 10) (dd bX5_setTop dX5_setTop_10) rfl).trans ?_
  refine (rn_aload_n (pc := 11) (dd bX5_setTop dX5_setTop_11) rfl).trans ?_
  refine (rn_iload_n (pc := 12) (dd bX5_setTop dX5_setTop_12) rfl).trans ?_
  exact rg_virtual (pc := 13) (dd bX5_setTop dX5_setTop_13) rfl rfl (by decide) (kc := 26) rfl s1.1 (as := [(1, x0), (0, y0)]) rfl ⟨Nat.le_of_ble_eq_true rfl, Nat.le_of_ble_eq_true rfl, Nat.le_of_ble_eq_true rfl, Nat.le_of_ble_eq_true rfl⟩
theorem rX5_setTop_16 {x0 : Int} {x1 : Int} {x2 : Int} {y0 : Int} {y1 : Int} {y2 : Int} {h : vH} (s1 : shPane h x0) (p2 : (-2147483648) ≤ x1 - fX5_firstRow h x0 x2) (p3 : x1 - fX5_firstRow h x0 x2 < 2147483648) (s4 : shLayout h y0) : vrun mX5_setTop 16 [(1, x0), (0, x1), (0, x2)] [(1, y0), (0, y1), (1, y2)] h = vret vrun mX5_setTop 22 [(1, x0), (0, x1), (0, x2)] [(0, y1), (1, y2)] (vcl mX3_firstPlace [(1, y0), (0, x1 - fX5_firstRow h x0 x2)] h) := by
  refine (rn_aload_n (pc := 16) (dd bX5_setTop dX5_setTop_16) rfl).trans ?_
  refine (rn_iload_n (pc := 17) (dd bX5_setTop dX5_setTop_17) rfl).trans ?_
  refine (rn_iload_n (pc := 18) (dd bX5_setTop dX5_setTop_18) rfl).trans ?_
  refine (rg_virtual (pc := 19) (dd bX5_setTop dX5_setTop_19) rfl rfl (by decide) (kc := 26) rfl s1.1 (as := [(1, x0), (0, x1), (0, x2)]) rfl ⟨Nat.le_of_ble_eq_true rfl, Nat.le_of_ble_eq_true rfl, Nat.le_of_ble_eq_true rfl, Nat.le_of_ble_eq_true rfl⟩).trans ?_
  refine (vret_v (spX5_rowInLine s1 p2 p3)).trans ?_
  exact rg_virtual (pc := 22) (dd bX5_setTop dX5_setTop_22) rfl rfl (by decide) (kc := 24) rfl s4.1 (as := [(1, y0), (0, x1 - fX5_firstRow h x0 x2)]) rfl ⟨Nat.le_of_ble_eq_true rfl, Nat.le_of_ble_eq_true rfl, Nat.le_of_ble_eq_true rfl, Nat.le_of_ble_eq_true rfl⟩
theorem rX5_setTop_25 {x0 : Int} {x1 : Int} {x2 : Int} {y0 : Int} {y1 : Int} {y2 : Int} {h : vH} (s1 : shPlace h y2) : vrun mX5_setTop 25 [(1, x0), (0, x1), (0, x2)] [(0, y0), (0, y1), (1, y2)] h = vret vrun mX5_setTop 25 [(1, x0), (0, x1), (0, x2)] [] (vcl mX7_set [(1, y2), (0, y1), (0, y0)] h) := by
  exact rg_virtual (pc := 25) (dd bX5_setTop dX5_setTop_25) rfl rfl (by decide) (kc := 28) rfl s1 (as := [(1, y2), (0, y1), (0, y0)]) rfl ⟨Nat.le_of_ble_eq_true rfl, Nat.le_of_ble_eq_true rfl, Nat.le_of_ble_eq_true rfl, Nat.le_of_ble_eq_true rfl⟩
theorem rX5_setTop_28 {x0 : Int} {x1 : Int} {x2 : Int} {h : vH} : vrun mX5_setTop 28 [(1, x0), (0, x1), (0, x2)] [] h = some (.inl none, h) := by
  exact rn_return (pc := 28) (dd bX5_setTop dX5_setTop_28) rfl
theorem bX5_follow : vmB mX5_follow = cX5_follow := rfl
theorem rX5_follow_0 {x0 : Int} {x1 : Int} {h : vH} (s1 : shPane h x0) : vrun mX5_follow 0 [(1, x0), (0, x1), (9, 0), (9, 0), (9, 0)] [] h = vret vrun mX5_follow 1 [(1, x0), (0, x1), (9, 0), (9, 0), (9, 0)] [] (vcl mX5_cursorRow [(1, x0)] h) := by
  refine (rn_aload_n (pc := 0) (dd bX5_follow dX5_follow_0) rfl).trans ?_
  exact rg_virtual (pc := 1) (dd bX5_follow dX5_follow_1) rfl rfl (by decide) (kc := 26) rfl s1.1 (as := [(1, x0)]) rfl ⟨Nat.le_of_ble_eq_true rfl, Nat.le_of_ble_eq_true rfl, Nat.le_of_ble_eq_true rfl, Nat.le_of_ble_eq_true rfl⟩
theorem rX5_follow_4 {x0 : Int} {x1 : Int} {y0 : Int} {h : vH} (s1 : shPane h x0) : vrun mX5_follow 4 [(1, x0), (0, x1), (9, 0), (9, 0), (9, 0)] [(0, y0)] h = vret vrun mX5_follow 6 [(1, x0), (0, x1), (0, y0), (9, 0), (9, 0)] [] (vcl mX5_topRow [(1, x0)] h) := by
  refine (rn_istore_n (pc := 4) (dd bX5_follow dX5_follow_4) (Nat.le_of_ble_eq_true rfl) rfl).trans ?_
  refine (rn_aload_n (pc := 5) (dd bX5_follow dX5_follow_5) rfl).trans ?_
  exact rg_virtual (pc := 6) (dd bX5_follow dX5_follow_6) rfl rfl (by decide) (kc := 26) rfl s1.1 (as := [(1, x0)]) rfl ⟨Nat.le_of_ble_eq_true rfl, Nat.le_of_ble_eq_true rfl, Nat.le_of_ble_eq_true rfl, Nat.le_of_ble_eq_true rfl⟩
theorem rX5_follow_9 {x0 : Int} {x1 : Int} {x2 : Int} {y0 : Int} {h : vH} (s1 : shPane h x0) (p2 : (-2147483648) ≤ x1 - 1) (p3 : x1 - 1 < 2147483648) (p4 : 0 ≤ x1 - 1) (p5 : (-2147483648) ≤ y0 + min (h 710 x0 0) ((x1 - 1) / 2)) (p6 : y0 + min (h 710 x0 0) ((x1 - 1) / 2) < 2147483648) (p7 : y0 + min (h 710 x0 0) ((x1 - 1) / 2) ≤ x2 → (-2147483648) ≤ y0 + x1) (p8 : y0 + min (h 710 x0 0) ((x1 - 1) / 2) ≤ x2 → y0 + x1 < 2147483648) (p9 : y0 + min (h 710 x0 0) ((x1 - 1) / 2) ≤ x2 → (-2147483648) ≤ y0 + x1 - 1) (p10 : y0 + min (h 710 x0 0) ((x1 - 1) / 2) ≤ x2 → (-2147483648) ≤ y0 + x1 - 1 - min (h 710 x0 0) ((x1 - 1) / 2)) (p11 : y0 + min (h 710 x0 0) ((x1 - 1) / 2) ≤ x2 → y0 + x1 - 1 - min (h 710 x0 0) ((x1 - 1) / 2) < 2147483648) (p12 : y0 + min (h 710 x0 0) ((x1 - 1) / 2) ≤ x2 → ¬ (x2 ≤ y0 + x1 - 1 - min (h 710 x0 0) ((x1 - 1) / 2)) → (-2147483648) ≤ x2 + min (h 710 x0 0) ((x1 - 1) / 2)) (p13 : y0 + min (h 710 x0 0) ((x1 - 1) / 2) ≤ x2 → ¬ (x2 ≤ y0 + x1 - 1 - min (h 710 x0 0) ((x1 - 1) / 2)) → x2 + min (h 710 x0 0) ((x1 - 1) / 2) < 2147483648) (p14 : y0 + min (h 710 x0 0) ((x1 - 1) / 2) ≤ x2 → ¬ (x2 ≤ y0 + x1 - 1 - min (h 710 x0 0) ((x1 - 1) / 2)) → (-2147483648) ≤ x2 + min (h 710 x0 0) ((x1 - 1) / 2) - x1) (p15 : y0 + min (h 710 x0 0) ((x1 - 1) / 2) ≤ x2 → ¬ (x2 ≤ y0 + x1 - 1 - min (h 710 x0 0) ((x1 - 1) / 2)) → x2 + min (h 710 x0 0) ((x1 - 1) / 2) - x1 < 2147483648) (p16 : y0 + min (h 710 x0 0) ((x1 - 1) / 2) ≤ x2 → ¬ (x2 ≤ y0 + x1 - 1 - min (h 710 x0 0) ((x1 - 1) / 2)) → x2 + min (h 710 x0 0) ((x1 - 1) / 2) - x1 + 1 < 2147483648) (p17 : ¬ (y0 + min (h 710 x0 0) ((x1 - 1) / 2) ≤ x2) → (-2147483648) ≤ x2 - min (h 710 x0 0) ((x1 - 1) / 2)) (p18 : ¬ (y0 + min (h 710 x0 0) ((x1 - 1) / 2) ≤ x2) → x2 - min (h 710 x0 0) ((x1 - 1) / 2) < 2147483648) : vrun mX5_follow 9 [(1, x0), (0, x1), (0, x2), (9, 0), (9, 0)] [(0, y0)] h = if y0 + min (h 710 x0 0) ((x1 - 1) / 2) ≤ x2 then if x2 ≤ y0 + x1 - 1 - min (h 710 x0 0) ((x1 - 1) / 2) then some (.inl none, h) else vret vrun mX5_follow 65 [(1, x0), (0, x1), (0, x2), (0, y0), (0, min (h 710 x0 0) ((x1 - 1) / 2))] [] (vcl mX5_setTop [(1, x0), (0, max 0 (x2 + min (h 710 x0 0) ((x1 - 1) / 2) - x1 + 1))] h) else vret vrun mX5_follow 34 [(1, x0), (0, x1), (0, x2), (0, y0), (0, min (h 710 x0 0) ((x1 - 1) / 2))] [] (vcl mX5_setTop [(1, x0), (0, max 0 (x2 - min (h 710 x0 0) ((x1 - 1) / 2)))] h) := by
  refine (rn_istore_n (pc := 9) (dd bX5_follow dX5_follow_9) (Nat.le_of_ble_eq_true rfl) rfl).trans ?_
  refine (rn_aload_n (pc := 10) (dd bX5_follow dX5_follow_10) rfl).trans ?_
  refine (rn_iload_n (pc := 11) (dd bX5_follow dX5_follow_11) rfl).trans ?_
  refine (rg_virtual (pc := 12) (dd bX5_follow dX5_follow_12) rfl rfl (by decide) (kc := 26) rfl s1.1 (as := [(1, x0), (0, x1)]) rfl ⟨Nat.le_of_ble_eq_true rfl, Nat.le_of_ble_eq_true rfl, Nat.le_of_ble_eq_true rfl, Nat.le_of_ble_eq_true rfl⟩).trans ?_
  refine (vret_v (spX5_marginFor s1 p2 p3 p4)).trans ?_
  refine (rn_istore (pc := 15) (dd bX5_follow dX5_follow_15) (Nat.le_of_ble_eq_true rfl) rfl).trans ?_
  refine (rn_iload_n (pc := 17) (dd bX5_follow dX5_follow_17) rfl).trans ?_
  refine (rn_iload_n (pc := 18) (dd bX5_follow dX5_follow_18) rfl).trans ?_
  refine (rn_iload (pc := 19) (dd bX5_follow dX5_follow_19) rfl).trans ?_
  refine (rg_iadd (pc := 21) (dd bX5_follow dX5_follow_21) p5 p6).trans ?_
  refine (rn_icmp_ge (t := 40) (pc := 22) (dd bX5_follow dX5_follow_22) rfl).trans (itec (fun c1 => ?_) (fun c1 => ?_))
  · refine (rn_iload_n (pc := 40) (dd bX5_follow dX5_follow_40) rfl).trans ?_
    refine (rn_iload_n (pc := 41) (dd bX5_follow dX5_follow_41) rfl).trans ?_
    refine (rn_iload_n (pc := 42) (dd bX5_follow dX5_follow_42) rfl).trans ?_
    refine (rg_iadd (pc := 43) (dd bX5_follow dX5_follow_43) (p7 c1) (p8 c1)).trans ?_
    refine (rn_iconst (pc := 44) (dd bX5_follow dX5_follow_44) (by decide)).trans ?_
    refine (rg_isub (pc := 45) (dd bX5_follow dX5_follow_45) (p9 c1) (by have z0 := p7 c1; have z1 := p8 c1; have z2 := p9 c1; omega)).trans ?_
    refine (rn_iload (pc := 46) (dd bX5_follow dX5_follow_46) rfl).trans ?_
    refine (rg_isub (pc := 48) (dd bX5_follow dX5_follow_48) (p10 c1) (p11 c1)).trans ?_
    refine (rn_icmp_le (t := 68) (pc := 49) (dd bX5_follow dX5_follow_49) rfl).trans (itec (fun c2 => ?_) (fun c2 => ?_))
    · exact rn_return (pc := 68) (dd bX5_follow dX5_follow_68) rfl
    · refine (rn_aload_n (pc := 52) (dd bX5_follow dX5_follow_52) rfl).trans ?_
      refine (rn_iconst (pc := 53) (dd bX5_follow dX5_follow_53) (by decide)).trans ?_
      refine (rn_iload_n (pc := 54) (dd bX5_follow dX5_follow_54) rfl).trans ?_
      refine (rn_iload (pc := 55) (dd bX5_follow dX5_follow_55) rfl).trans ?_
      refine (rg_iadd (pc := 57) (dd bX5_follow dX5_follow_57) (p12 c1 c2) (p13 c1 c2)).trans ?_
      refine (rn_iload_n (pc := 58) (dd bX5_follow dX5_follow_58) rfl).trans ?_
      refine (rg_isub (pc := 59) (dd bX5_follow dX5_follow_59) (p14 c1 c2) (p15 c1 c2)).trans ?_
      refine (rn_iconst (pc := 60) (dd bX5_follow dX5_follow_60) (by decide)).trans ?_
      refine (rg_iadd (pc := 61) (dd bX5_follow dX5_follow_61) (by have z0 := p12 c1 c2; have z1 := p13 c1 c2; have z2 := p14 c1 c2; have z3 := p15 c1 c2; omega) (p16 c1 c2)).trans ?_
      refine (rg_max (pc := 62) (dd bX5_follow dX5_follow_62) rfl ⟨Nat.le_of_ble_eq_true rfl, Nat.le_of_ble_eq_true rfl, Nat.le_of_ble_eq_true rfl⟩).trans ?_
      exact rg_virtual (pc := 65) (dd bX5_follow dX5_follow_65) rfl rfl (by decide) (kc := 26) rfl s1.1 (as := [(1, x0), (0, max 0 (x2 + min (h 710 x0 0) ((x1 - 1) / 2) - x1 + 1))]) rfl ⟨Nat.le_of_ble_eq_true rfl, Nat.le_of_ble_eq_true rfl, Nat.le_of_ble_eq_true rfl, Nat.le_of_ble_eq_true rfl⟩
  · refine (rn_aload_n (pc := 25) (dd bX5_follow dX5_follow_25) rfl).trans ?_
    refine (rn_iconst (pc := 26) (dd bX5_follow dX5_follow_26) (by decide)).trans ?_
    refine (rn_iload_n (pc := 27) (dd bX5_follow dX5_follow_27) rfl).trans ?_
    refine (rn_iload (pc := 28) (dd bX5_follow dX5_follow_28) rfl).trans ?_
    refine (rg_isub (pc := 30) (dd bX5_follow dX5_follow_30) (p17 c1) (p18 c1)).trans ?_
    refine (rg_max (pc := 31) (dd bX5_follow dX5_follow_31) rfl ⟨Nat.le_of_ble_eq_true rfl, Nat.le_of_ble_eq_true rfl, Nat.le_of_ble_eq_true rfl⟩).trans ?_
    exact rg_virtual (pc := 34) (dd bX5_follow dX5_follow_34) rfl rfl (by decide) (kc := 26) rfl s1.1 (as := [(1, x0), (0, max 0 (x2 - min (h 710 x0 0) ((x1 - 1) / 2)))]) rfl ⟨Nat.le_of_ble_eq_true rfl, Nat.le_of_ble_eq_true rfl, Nat.le_of_ble_eq_true rfl, Nat.le_of_ble_eq_true rfl⟩
theorem rX5_follow_68 {x0 : Int} {x1 : Int} {x2 : Int} {x3 : Int} {x4 : Int} {h : vH} : vrun mX5_follow 68 [(1, x0), (0, x1), (0, x2), (0, x3), (0, x4)] [] h = some (.inl none, h) := by
  exact rn_return (pc := 68) (dd bX5_follow dX5_follow_68) rfl
theorem rX5_follow_37 {x0 : Int} {x1 : Int} {x2 : Int} {x3 : Int} {x4 : Int} {h : vH} : vrun mX5_follow 37 [(1, x0), (0, x1), (0, x2), (0, x3), (0, x4)] [] h = some (.inl none, h) := by
  refine (rn_goto (t := 68) (pc := 37) (dd bX5_follow dX5_follow_37) rfl).trans ?_
  exact rn_return (pc := 68) (dd bX5_follow dX5_follow_68) rfl
theorem bX5_aimLeft : vmB mX5_aimLeft = cX5_aimLeft := rfl
theorem rX5_aimLeft_0 {x0 : Int} {h : vH} (s1 : shPane h x0) : vrun mX5_aimLeft 0 [(1, x0), (9, 0), (9, 0)] [] h = vret vrun mX5_aimLeft 8 [(1, x0), (9, 0), (9, 0)] [] (vcl mX5_measured [(1, x0), (0, h 901 (x0 + 25) 0)] h) := by
  refine (rn_aload_n (pc := 0) (dd bX5_aimLeft dX5_aimLeft_0) rfl).trans ?_
  refine (rn_aload_n (pc := 1) (dd bX5_aimLeft dX5_aimLeft_1) rfl).trans ?_
  refine (rg_gf (pc := 2) (dd bX5_aimLeft dX5_aimLeft_2) (ci := 6) (j := 6) rfl rfl (key := 706) rfl (kc := 26) rfl s1.1 s1.2.2.2.2.2.2.2.2.2.2.2.2.1).trans ?_
  refine (rg_gf (pc := 5) (dd bX5_aimLeft dX5_aimLeft_5) (ci := 8) (j := 1) rfl rfl (key := 901) rfl (kc := 28) rfl s1.2.2.2.2.2.2.2.2.2.2.2.2.2.1 rfl).trans ?_
  exact rg_virtual (pc := 8) (dd bX5_aimLeft dX5_aimLeft_8) rfl rfl (by decide) (kc := 26) rfl s1.1 (as := [(1, x0), (0, h 901 (x0 + 25) 0)]) rfl ⟨Nat.le_of_ble_eq_true rfl, Nat.le_of_ble_eq_true rfl, Nat.le_of_ble_eq_true rfl, Nat.le_of_ble_eq_true rfl⟩
theorem rX5_aimLeft_11 {x0 : Int} {y0 : Int} {h : vH} (s1 : shPane h x0) (s2 : shLayout h y0) : vrun mX5_aimLeft 11 [(1, x0), (9, 0), (9, 0)] [(1, y0)] h = vret vrun mX5_aimLeft 18 [(1, x0), (9, 0), (9, 0)] [] (vcl mX3_shownAhead [(1, y0), (0, h 902 (x0 + 25) 0)] h) := by
  refine (rn_aload_n (pc := 11) (dd bX5_aimLeft dX5_aimLeft_11) rfl).trans ?_
  refine (rg_gf (pc := 12) (dd bX5_aimLeft dX5_aimLeft_12) (ci := 6) (j := 6) rfl rfl (key := 706) rfl (kc := 26) rfl s1.1 s1.2.2.2.2.2.2.2.2.2.2.2.2.1).trans ?_
  refine (rg_gf (pc := 15) (dd bX5_aimLeft dX5_aimLeft_15) (ci := 8) (j := 2) rfl rfl (key := 902) rfl (kc := 28) rfl s1.2.2.2.2.2.2.2.2.2.2.2.2.2.1 rfl).trans ?_
  exact rg_virtual (pc := 18) (dd bX5_aimLeft dX5_aimLeft_18) rfl rfl (by decide) (kc := 24) rfl s2.1 (as := [(1, y0), (0, h 902 (x0 + 25) 0)]) rfl ⟨Nat.le_of_ble_eq_true rfl, Nat.le_of_ble_eq_true rfl, Nat.le_of_ble_eq_true rfl, Nat.le_of_ble_eq_true rfl⟩
theorem rX5_aimLeft_21 {x0 : Int} {y0 : Int} {h : vH} (s1 : shPane h x0) (p2 : y0 = (-1) → (-2147483648) ≤ h 901 (x0 + 25) 0 - 1) (p3 : y0 = (-1) → h 901 (x0 + 25) 0 - 1 < 2147483648) : vrun mX5_aimLeft 21 [(1, x0), (9, 0), (9, 0)] [(0, y0)] h = if y0 = (-1) then vrun mX5_aimLeft 53 [(1, x0), (0, y0), (0, h 901 (x0 + 25) 0 - 1)] [] h else vret vrun mX5_aimLeft 39 [(1, x0), (0, y0), (9, 0)] [] (vcl mX7_set [(1, x0 + 25), (0, h 901 (x0 + 25) 0), (0, y0)] h) := by
  refine (rn_istore_n (pc := 21) (dd bX5_aimLeft dX5_aimLeft_21) (Nat.le_of_ble_eq_true rfl) rfl).trans ?_
  refine (rn_iload_n (pc := 22) (dd bX5_aimLeft dX5_aimLeft_22) rfl).trans ?_
  refine (rn_iconst (pc := 23) (dd bX5_aimLeft dX5_aimLeft_23) (by decide)).trans ?_
  refine (rn_icmp_eq (t := 43) (pc := 24) (dd bX5_aimLeft dX5_aimLeft_24) rfl).trans (itec (fun c1 => ?_) (fun c1 => ?_))
  · refine (rn_aload_n (pc := 43) (dd bX5_aimLeft dX5_aimLeft_43) rfl).trans ?_
    refine (rg_gf (pc := 44) (dd bX5_aimLeft dX5_aimLeft_44) (ci := 6) (j := 6) rfl rfl (key := 706) rfl (kc := 26) rfl s1.1 s1.2.2.2.2.2.2.2.2.2.2.2.2.1).trans ?_
    refine (rg_gf (pc := 47) (dd bX5_aimLeft dX5_aimLeft_47) (ci := 8) (j := 1) rfl rfl (key := 901) rfl (kc := 28) rfl s1.2.2.2.2.2.2.2.2.2.2.2.2.2.1 rfl).trans ?_
    refine (rn_iconst (pc := 50) (dd bX5_aimLeft dX5_aimLeft_50) (by decide)).trans ?_
    refine (rg_isub (pc := 51) (dd bX5_aimLeft dX5_aimLeft_51) (p2 c1) (p3 c1)).trans ?_
    refine (rn_istore_n (pc := 52) (dd bX5_aimLeft dX5_aimLeft_52) (Nat.le_of_ble_eq_true rfl) rfl).trans ?_
    rfl
  · refine (rn_aload_n (pc := 27) (dd bX5_aimLeft dX5_aimLeft_27) rfl).trans ?_
    refine (rg_gf (pc := 28) (dd bX5_aimLeft dX5_aimLeft_28) (ci := 6) (j := 6) rfl rfl (key := 706) rfl (kc := 26) rfl s1.1 s1.2.2.2.2.2.2.2.2.2.2.2.2.1).trans ?_
    refine (rn_aload_n (pc := 31) (dd bX5_aimLeft dX5_aimLeft_31) rfl).trans ?_
    refine (rg_gf (pc := 32) (dd bX5_aimLeft dX5_aimLeft_32) (ci := 6) (j := 6) rfl rfl (key := 706) rfl (kc := 26) rfl s1.1 s1.2.2.2.2.2.2.2.2.2.2.2.2.1).trans ?_
    refine (rg_gf (pc := 35) (dd bX5_aimLeft dX5_aimLeft_35) (ci := 8) (j := 1) rfl rfl (key := 901) rfl (kc := 28) rfl s1.2.2.2.2.2.2.2.2.2.2.2.2.2.1 rfl).trans ?_
    refine (rn_iload_n (pc := 38) (dd bX5_aimLeft dX5_aimLeft_38) rfl).trans ?_
    exact rg_virtual (pc := 39) (dd bX5_aimLeft dX5_aimLeft_39) rfl rfl (by decide) (kc := 28) rfl s1.2.2.2.2.2.2.2.2.2.2.2.2.2.1 (as := [(1, x0 + 25), (0, h 901 (x0 + 25) 0), (0, y0)]) rfl ⟨Nat.le_of_ble_eq_true rfl, Nat.le_of_ble_eq_true rfl, Nat.le_of_ble_eq_true rfl, Nat.le_of_ble_eq_true rfl⟩
theorem rX5_aimLeft_53 {x0 : Int} {x1 : Int} {x2 : Int} {h : vH} (s1 : shPane h x0) (p2 : ¬ (x2 < 0) → fX5_rowCount h x0 x2 ≤ 0 → x2 + (-1) < 2147483648) (s3 : shText h) (s4 : ¬ (x2 < 0) → ¬ (fX5_rowCount h x0 x2 ≤ 0) → shLine h (fX10_at h x2)) : vrun mX5_aimLeft 53 [(1, x0), (0, x1), (0, x2)] [] h = if x2 < 0 then some (.inl none, h) else if fX5_rowCount h x0 x2 ≤ 0 then vrun mX5_aimLeft 53 [(1, x0), (0, x1), (0, x2 + (-1))] [] h else vret vrun mX5_aimLeft 81 [(1, x0), (0, x1), (0, x2)] [] (vcl mX7_set [(1, x0 + 25), (0, x2), (0, h 601 (fX10_at h x2) 0)] h) := by
  refine (rn_iload_n (pc := 53) (dd bX5_aimLeft dX5_aimLeft_53) rfl).trans ?_
  refine (rn_if_lt (t := 91) (pc := 54) (dd bX5_aimLeft dX5_aimLeft_54) rfl).trans (itec (fun c1 => ?_) (fun c1 => ?_))
  · exact rn_return (pc := 91) (dd bX5_aimLeft dX5_aimLeft_91) rfl
  · refine (rn_aload_n (pc := 57) (dd bX5_aimLeft dX5_aimLeft_57) rfl).trans ?_
    refine (rn_iload_n (pc := 58) (dd bX5_aimLeft dX5_aimLeft_58) rfl).trans ?_
    refine (rg_virtual (pc := 59) (dd bX5_aimLeft dX5_aimLeft_59) rfl rfl (by decide) (kc := 26) rfl s1.1 (as := [(1, x0), (0, x2)]) rfl ⟨Nat.le_of_ble_eq_true rfl, Nat.le_of_ble_eq_true rfl, Nat.le_of_ble_eq_true rfl, Nat.le_of_ble_eq_true rfl⟩).trans ?_
    refine (vret_v (spX5_rowCount s1)).trans ?_
    refine (rn_if_le (t := 85) (pc := 62) (dd bX5_aimLeft dX5_aimLeft_62) rfl).trans (itec (fun c2 => ?_) (fun c2 => ?_))
    · refine (rg_iinc (pc := 85) (dd bX5_aimLeft dX5_aimLeft_85) rfl (Nat.le_of_ble_eq_true rfl) (by omega) (p2 c1 c2) rfl).trans ?_
      refine (rn_goto (t := 53) (pc := 88) (dd bX5_aimLeft dX5_aimLeft_88) rfl).trans ?_
      rfl
    · refine (rn_aload_n (pc := 65) (dd bX5_aimLeft dX5_aimLeft_65) rfl).trans ?_
      refine (rg_gf (pc := 66) (dd bX5_aimLeft dX5_aimLeft_66) (ci := 6) (j := 6) rfl rfl (key := 706) rfl (kc := 26) rfl s1.1 s1.2.2.2.2.2.2.2.2.2.2.2.2.1).trans ?_
      refine (rn_iload_n (pc := 69) (dd bX5_aimLeft dX5_aimLeft_69) rfl).trans ?_
      refine (rn_aload_n (pc := 70) (dd bX5_aimLeft dX5_aimLeft_70) rfl).trans ?_
      refine (rg_gf (pc := 71) (dd bX5_aimLeft dX5_aimLeft_71) (ci := 6) (j := 0) rfl rfl (key := 700) rfl (kc := 26) rfl s1.1 s1.2.1).trans ?_
      refine (rn_iload_n (pc := 74) (dd bX5_aimLeft dX5_aimLeft_74) rfl).trans ?_
      refine (rg_virtual (pc := 75) (dd bX5_aimLeft dX5_aimLeft_75) rfl rfl (by decide) (kc := 31) rfl s3.1 (as := [(1, 4), (0, x2)]) rfl ⟨Nat.le_of_ble_eq_true rfl, Nat.le_of_ble_eq_true rfl, Nat.le_of_ble_eq_true rfl, Nat.le_of_ble_eq_true rfl⟩).trans ?_
      refine (vret_v (spX10_at s3)).trans ?_
      refine (rg_gf (pc := 78) (dd bX5_aimLeft dX5_aimLeft_78) (ci := 5) (j := 1) rfl rfl (key := 601) rfl (kc := 25) rfl (s4 c1 c2).1 rfl).trans ?_
      exact rg_virtual (pc := 81) (dd bX5_aimLeft dX5_aimLeft_81) rfl rfl (by decide) (kc := 28) rfl s1.2.2.2.2.2.2.2.2.2.2.2.2.2.1 (as := [(1, x0 + 25), (0, x2), (0, h 601 (fX10_at h x2) 0)]) rfl ⟨Nat.le_of_ble_eq_true rfl, Nat.le_of_ble_eq_true rfl, Nat.le_of_ble_eq_true rfl, Nat.le_of_ble_eq_true rfl⟩
theorem rX5_aimLeft_42 {x0 : Int} {x1 : Int} {h : vH} : vrun mX5_aimLeft 42 [(1, x0), (0, x1), (9, 0)] [] h = some (.inl none, h) := by
  exact rn_return (pc := 42) (dd bX5_aimLeft dX5_aimLeft_42) rfl
theorem rX5_aimLeft_84 {x0 : Int} {x1 : Int} {x2 : Int} {h : vH} : vrun mX5_aimLeft 84 [(1, x0), (0, x1), (0, x2)] [] h = some (.inl none, h) := by
  exact rn_return (pc := 84) (dd bX5_aimLeft dX5_aimLeft_84) rfl
theorem bX5_aimRight : vmB mX5_aimRight = cX5_aimRight := rfl
theorem rX5_aimRight_0 {x0 : Int} {h : vH} (s1 : shPane h x0) : vrun mX5_aimRight 0 [(1, x0), (9, 0), (9, 0)] [] h = vret vrun mX5_aimRight 8 [(1, x0), (9, 0), (9, 0)] [] (vcl mX5_measured [(1, x0), (0, h 901 (x0 + 25) 0)] h) := by
  refine (rn_aload_n (pc := 0) (dd bX5_aimRight dX5_aimRight_0) rfl).trans ?_
  refine (rn_aload_n (pc := 1) (dd bX5_aimRight dX5_aimRight_1) rfl).trans ?_
  refine (rg_gf (pc := 2) (dd bX5_aimRight dX5_aimRight_2) (ci := 6) (j := 6) rfl rfl (key := 706) rfl (kc := 26) rfl s1.1 s1.2.2.2.2.2.2.2.2.2.2.2.2.1).trans ?_
  refine (rg_gf (pc := 5) (dd bX5_aimRight dX5_aimRight_5) (ci := 8) (j := 1) rfl rfl (key := 901) rfl (kc := 28) rfl s1.2.2.2.2.2.2.2.2.2.2.2.2.2.1 rfl).trans ?_
  exact rg_virtual (pc := 8) (dd bX5_aimRight dX5_aimRight_8) rfl rfl (by decide) (kc := 26) rfl s1.1 (as := [(1, x0), (0, h 901 (x0 + 25) 0)]) rfl ⟨Nat.le_of_ble_eq_true rfl, Nat.le_of_ble_eq_true rfl, Nat.le_of_ble_eq_true rfl, Nat.le_of_ble_eq_true rfl⟩
theorem rX5_aimRight_11 {x0 : Int} {y0 : Int} {h : vH} (s1 : shPane h x0) (s2 : shLayout h y0) : vrun mX5_aimRight 11 [(1, x0), (9, 0), (9, 0)] [(1, y0)] h = vret vrun mX5_aimRight 18 [(1, x0), (9, 0), (9, 0)] [] (vcl mX3_shownBehind [(1, y0), (0, h 902 (x0 + 25) 0)] h) := by
  refine (rn_aload_n (pc := 11) (dd bX5_aimRight dX5_aimRight_11) rfl).trans ?_
  refine (rg_gf (pc := 12) (dd bX5_aimRight dX5_aimRight_12) (ci := 6) (j := 6) rfl rfl (key := 706) rfl (kc := 26) rfl s1.1 s1.2.2.2.2.2.2.2.2.2.2.2.2.1).trans ?_
  refine (rg_gf (pc := 15) (dd bX5_aimRight dX5_aimRight_15) (ci := 8) (j := 2) rfl rfl (key := 902) rfl (kc := 28) rfl s1.2.2.2.2.2.2.2.2.2.2.2.2.2.1 rfl).trans ?_
  exact rg_virtual (pc := 18) (dd bX5_aimRight dX5_aimRight_18) rfl rfl (by decide) (kc := 24) rfl s2.1 (as := [(1, y0), (0, h 902 (x0 + 25) 0)]) rfl ⟨Nat.le_of_ble_eq_true rfl, Nat.le_of_ble_eq_true rfl, Nat.le_of_ble_eq_true rfl, Nat.le_of_ble_eq_true rfl⟩
theorem rX5_aimRight_21 {x0 : Int} {y0 : Int} {h : vH} (s1 : shPane h x0) (p2 : y0 = (-1) → (-2147483648) ≤ h 901 (x0 + 25) 0 + 1) (p3 : y0 = (-1) → h 901 (x0 + 25) 0 + 1 < 2147483648) : vrun mX5_aimRight 21 [(1, x0), (9, 0), (9, 0)] [(0, y0)] h = if y0 = (-1) then vrun mX5_aimRight 53 [(1, x0), (0, y0), (0, h 901 (x0 + 25) 0 + 1)] [] h else vret vrun mX5_aimRight 39 [(1, x0), (0, y0), (9, 0)] [] (vcl mX7_set [(1, x0 + 25), (0, h 901 (x0 + 25) 0), (0, y0)] h) := by
  refine (rn_istore_n (pc := 21) (dd bX5_aimRight dX5_aimRight_21) (Nat.le_of_ble_eq_true rfl) rfl).trans ?_
  refine (rn_iload_n (pc := 22) (dd bX5_aimRight dX5_aimRight_22) rfl).trans ?_
  refine (rn_iconst (pc := 23) (dd bX5_aimRight dX5_aimRight_23) (by decide)).trans ?_
  refine (rn_icmp_eq (t := 43) (pc := 24) (dd bX5_aimRight dX5_aimRight_24) rfl).trans (itec (fun c1 => ?_) (fun c1 => ?_))
  · refine (rn_aload_n (pc := 43) (dd bX5_aimRight dX5_aimRight_43) rfl).trans ?_
    refine (rg_gf (pc := 44) (dd bX5_aimRight dX5_aimRight_44) (ci := 6) (j := 6) rfl rfl (key := 706) rfl (kc := 26) rfl s1.1 s1.2.2.2.2.2.2.2.2.2.2.2.2.1).trans ?_
    refine (rg_gf (pc := 47) (dd bX5_aimRight dX5_aimRight_47) (ci := 8) (j := 1) rfl rfl (key := 901) rfl (kc := 28) rfl s1.2.2.2.2.2.2.2.2.2.2.2.2.2.1 rfl).trans ?_
    refine (rn_iconst (pc := 50) (dd bX5_aimRight dX5_aimRight_50) (by decide)).trans ?_
    refine (rg_iadd (pc := 51) (dd bX5_aimRight dX5_aimRight_51) (p2 c1) (p3 c1)).trans ?_
    refine (rn_istore_n (pc := 52) (dd bX5_aimRight dX5_aimRight_52) (Nat.le_of_ble_eq_true rfl) rfl).trans ?_
    rfl
  · refine (rn_aload_n (pc := 27) (dd bX5_aimRight dX5_aimRight_27) rfl).trans ?_
    refine (rg_gf (pc := 28) (dd bX5_aimRight dX5_aimRight_28) (ci := 6) (j := 6) rfl rfl (key := 706) rfl (kc := 26) rfl s1.1 s1.2.2.2.2.2.2.2.2.2.2.2.2.1).trans ?_
    refine (rn_aload_n (pc := 31) (dd bX5_aimRight dX5_aimRight_31) rfl).trans ?_
    refine (rg_gf (pc := 32) (dd bX5_aimRight dX5_aimRight_32) (ci := 6) (j := 6) rfl rfl (key := 706) rfl (kc := 26) rfl s1.1 s1.2.2.2.2.2.2.2.2.2.2.2.2.1).trans ?_
    refine (rg_gf (pc := 35) (dd bX5_aimRight dX5_aimRight_35) (ci := 8) (j := 1) rfl rfl (key := 901) rfl (kc := 28) rfl s1.2.2.2.2.2.2.2.2.2.2.2.2.2.1 rfl).trans ?_
    refine (rn_iload_n (pc := 38) (dd bX5_aimRight dX5_aimRight_38) rfl).trans ?_
    exact rg_virtual (pc := 39) (dd bX5_aimRight dX5_aimRight_39) rfl rfl (by decide) (kc := 28) rfl s1.2.2.2.2.2.2.2.2.2.2.2.2.2.1 (as := [(1, x0 + 25), (0, h 901 (x0 + 25) 0), (0, y0)]) rfl ⟨Nat.le_of_ble_eq_true rfl, Nat.le_of_ble_eq_true rfl, Nat.le_of_ble_eq_true rfl, Nat.le_of_ble_eq_true rfl⟩
theorem rX5_aimRight_53 {x0 : Int} {x1 : Int} {x2 : Int} {h : vH} (s1 : shPane h x0) (s2 : shText h) (p3 : ¬ (h 1201 4 0 ≤ x2) → fX5_rowCount h x0 x2 ≤ 0 → (-2147483648) ≤ x2 + 1) (p4 : ¬ (h 1201 4 0 ≤ x2) → fX5_rowCount h x0 x2 ≤ 0 → x2 + 1 < 2147483648) : vrun mX5_aimRight 53 [(1, x0), (0, x1), (0, x2)] [] h = if h 1201 4 0 ≤ x2 then some (.inl none, h) else if fX5_rowCount h x0 x2 ≤ 0 then vrun mX5_aimRight 53 [(1, x0), (0, x1), (0, x2 + 1)] [] h else vret vrun mX5_aimRight 79 [(1, x0), (0, x1), (0, x2)] [(0, x2), (1, x0 + 25)] (vcl mX5_measured [(1, x0), (0, x2)] h) := by
  refine (rn_iload_n (pc := 53) (dd bX5_aimRight dX5_aimRight_53) rfl).trans ?_
  refine (rn_aload_n (pc := 54) (dd bX5_aimRight dX5_aimRight_54) rfl).trans ?_
  refine (rg_gf (pc := 55) (dd bX5_aimRight dX5_aimRight_55) (ci := 6) (j := 0) rfl rfl (key := 700) rfl (kc := 26) rfl s1.1 s1.2.1).trans ?_
  refine (rg_gf (pc := 58) (dd bX5_aimRight dX5_aimRight_58) (ci := 11) (j := 1) rfl rfl (key := 1201) rfl (kc := 31) rfl s2.1 rfl).trans ?_
  refine (rn_icmp_ge (t := 96) (pc := 61) (dd bX5_aimRight dX5_aimRight_61) rfl).trans (itec (fun c1 => ?_) (fun c1 => ?_))
  · exact rn_return (pc := 96) (dd bX5_aimRight dX5_aimRight_96) rfl
  · refine (rn_aload_n (pc := 64) (dd bX5_aimRight dX5_aimRight_64) rfl).trans ?_
    refine (rn_iload_n (pc := 65) (dd bX5_aimRight dX5_aimRight_65) rfl).trans ?_
    refine (rg_virtual (pc := 66) (dd bX5_aimRight dX5_aimRight_66) rfl rfl (by decide) (kc := 26) rfl s1.1 (as := [(1, x0), (0, x2)]) rfl ⟨Nat.le_of_ble_eq_true rfl, Nat.le_of_ble_eq_true rfl, Nat.le_of_ble_eq_true rfl, Nat.le_of_ble_eq_true rfl⟩).trans ?_
    refine (vret_v (spX5_rowCount s1)).trans ?_
    refine (rn_if_le (t := 90) (pc := 69) (dd bX5_aimRight dX5_aimRight_69) rfl).trans (itec (fun c2 => ?_) (fun c2 => ?_))
    · refine (rg_iinc (pc := 90) (dd bX5_aimRight dX5_aimRight_90) rfl (Nat.le_of_ble_eq_true rfl) (p3 c1 c2) (p4 c1 c2) rfl).trans ?_
      refine (rn_goto (t := 53) (pc := 93) (dd bX5_aimRight dX5_aimRight_93) rfl).trans ?_
      rfl
    · refine (rn_aload_n (pc := 72) (dd bX5_aimRight dX5_aimRight_72) rfl).trans ?_
      refine (rg_gf (pc := 73) (dd bX5_aimRight dX5_aimRight_73) (ci := 6) (j := 6) rfl rfl (key := 706) rfl (kc := 26) rfl s1.1 s1.2.2.2.2.2.2.2.2.2.2.2.2.1).trans ?_
      refine (rn_iload_n (pc := 76) (dd bX5_aimRight dX5_aimRight_76) rfl).trans ?_
      refine (rn_aload_n (pc := 77) (dd bX5_aimRight dX5_aimRight_77) rfl).trans ?_
      refine (rn_iload_n (pc := 78) (dd bX5_aimRight dX5_aimRight_78) rfl).trans ?_
      exact rg_virtual (pc := 79) (dd bX5_aimRight dX5_aimRight_79) rfl rfl (by decide) (kc := 26) rfl s1.1 (as := [(1, x0), (0, x2)]) rfl ⟨Nat.le_of_ble_eq_true rfl, Nat.le_of_ble_eq_true rfl, Nat.le_of_ble_eq_true rfl, Nat.le_of_ble_eq_true rfl⟩
theorem rX5_aimRight_42 {x0 : Int} {x1 : Int} {h : vH} : vrun mX5_aimRight 42 [(1, x0), (0, x1), (9, 0)] [] h = some (.inl none, h) := by
  exact rn_return (pc := 42) (dd bX5_aimRight dX5_aimRight_42) rfl
theorem rX5_aimRight_82 {x0 : Int} {x1 : Int} {x2 : Int} {y0 : Int} {y1 : Int} {y2 : Int} {h : vH} (s1 : shLayout h y0) : vrun mX5_aimRight 82 [(1, x0), (0, x1), (0, x2)] [(1, y0), (0, y1), (1, y2)] h = vret vrun mX5_aimRight 83 [(1, x0), (0, x1), (0, x2)] [(0, y1), (1, y2)] (vcl mX3_shownBehind [(1, y0), (0, (-1))] h) := by
  refine (rn_iconst (pc := 82) (dd bX5_aimRight dX5_aimRight_82) (by decide)).trans ?_
  exact rg_virtual (pc := 83) (dd bX5_aimRight dX5_aimRight_83) rfl rfl (by decide) (kc := 24) rfl s1.1 (as := [(1, y0), (0, (-1))]) rfl ⟨Nat.le_of_ble_eq_true rfl, Nat.le_of_ble_eq_true rfl, Nat.le_of_ble_eq_true rfl, Nat.le_of_ble_eq_true rfl⟩
theorem rX5_aimRight_86 {x0 : Int} {x1 : Int} {x2 : Int} {y0 : Int} {y1 : Int} {y2 : Int} {h : vH} (s1 : shPlace h y2) : vrun mX5_aimRight 86 [(1, x0), (0, x1), (0, x2)] [(0, y0), (0, y1), (1, y2)] h = vret vrun mX5_aimRight 86 [(1, x0), (0, x1), (0, x2)] [] (vcl mX7_set [(1, y2), (0, y1), (0, y0)] h) := by
  exact rg_virtual (pc := 86) (dd bX5_aimRight dX5_aimRight_86) rfl rfl (by decide) (kc := 28) rfl s1 (as := [(1, y2), (0, y1), (0, y0)]) rfl ⟨Nat.le_of_ble_eq_true rfl, Nat.le_of_ble_eq_true rfl, Nat.le_of_ble_eq_true rfl, Nat.le_of_ble_eq_true rfl⟩
theorem rX5_aimRight_89 {x0 : Int} {x1 : Int} {x2 : Int} {h : vH} : vrun mX5_aimRight 89 [(1, x0), (0, x1), (0, x2)] [] h = some (.inl none, h) := by
  exact rn_return (pc := 89) (dd bX5_aimRight dX5_aimRight_89) rfl
theorem bX5_aimInRow : vmB mX5_aimInRow = cX5_aimInRow := rfl
theorem rX5_aimInRow_0 {x0 : Int} {x1 : Int} {h : vH} (s1 : shPane h x0) : vrun mX5_aimInRow 0 [(1, x0), (0, x1), (9, 0), (9, 0), (9, 0)] [] h = vret vrun mX5_aimInRow 17 [(1, x0), (0, x1), (9, 0), (9, 0), (9, 0)] [(1, x0)] (vcl mX5_rowDown [(1, x0), (0, h 901 (x0 + 25) 0), (0, h 902 (x0 + 25) 0), (0, 0)] h) := by
  refine (rn_aload_n (pc := 0) (dd bX5_aimInRow dX5_aimInRow_0) rfl).trans ?_
  refine (rn_aload_n (pc := 1) (dd bX5_aimInRow dX5_aimInRow_1) rfl).trans ?_
  refine (rn_aload_n (pc := 2) (dd bX5_aimInRow dX5_aimInRow_2) rfl).trans ?_
  refine (rg_gf (pc := 3) (dd bX5_aimInRow dX5_aimInRow_3) (ci := 6) (j := 6) rfl rfl (key := 706) rfl (kc := 26) rfl s1.1 s1.2.2.2.2.2.2.2.2.2.2.2.2.1).trans ?_
  refine (rg_gf (pc := 6) (dd bX5_aimInRow dX5_aimInRow_6) (ci := 8) (j := 1) rfl rfl (key := 901) rfl (kc := 28) rfl s1.2.2.2.2.2.2.2.2.2.2.2.2.2.1 rfl).trans ?_
  refine (rn_aload_n (pc := 9) (dd bX5_aimInRow dX5_aimInRow_9) rfl).trans ?_
  refine (rg_gf (pc := 10) (dd bX5_aimInRow dX5_aimInRow_10) (ci := 6) (j := 6) rfl rfl (key := 706) rfl (kc := 26) rfl s1.1 s1.2.2.2.2.2.2.2.2.2.2.2.2.1).trans ?_
  refine (rg_gf (pc := 13) (dd bX5_aimInRow dX5_aimInRow_13) (ci := 8) (j := 2) rfl rfl (key := 902) rfl (kc := 28) rfl s1.2.2.2.2.2.2.2.2.2.2.2.2.2.1 rfl).trans ?_
  refine (rn_iconst (pc := 16) (dd bX5_aimInRow dX5_aimInRow_16) (by decide)).trans ?_
  exact rg_virtual (pc := 17) (dd bX5_aimInRow dX5_aimInRow_17) rfl rfl (by decide) (kc := 26) rfl s1.1 (as := [(1, x0), (0, h 901 (x0 + 25) 0), (0, h 902 (x0 + 25) 0), (0, 0)]) rfl ⟨Nat.le_of_ble_eq_true rfl, Nat.le_of_ble_eq_true rfl, Nat.le_of_ble_eq_true rfl, Nat.le_of_ble_eq_true rfl⟩
theorem rX5_aimInRow_20 {x0 : Int} {x1 : Int} {y0 : Int} {y1 : Int} {h : vH} (s1 : shPane h x0) (s2 : shPane h y1) (p3 : (-2147483648) ≤ y0 - fX5_firstRow h y1 (h 901 (x0 + 25) 0)) (p4 : y0 - fX5_firstRow h y1 (h 901 (x0 + 25) 0) < 2147483648) : vrun mX5_aimInRow 20 [(1, x0), (0, x1), (9, 0), (9, 0), (9, 0)] [(0, y0), (1, y1)] h = vret vrun mX5_aimInRow 39 [(1, x0), (0, x1), (0, y0 - fX5_firstRow h y1 (h 901 (x0 + 25) 0)), (9, 0), (9, 0)] [] (vcl mX5_measured [(1, x0), (0, h 901 (x0 + 25) 0)] h) := by
  refine (rn_aload_n (pc := 20) (dd bX5_aimInRow dX5_aimInRow_20) rfl).trans ?_
  refine (rg_gf (pc := 21) (dd bX5_aimInRow dX5_aimInRow_21) (ci := 6) (j := 6) rfl rfl (key := 706) rfl (kc := 26) rfl s1.1 s1.2.2.2.2.2.2.2.2.2.2.2.2.1).trans ?_
  refine (rg_gf (pc := 24) (dd bX5_aimInRow dX5_aimInRow_24) (ci := 8) (j := 1) rfl rfl (key := 901) rfl (kc := 28) rfl s1.2.2.2.2.2.2.2.2.2.2.2.2.2.1 rfl).trans ?_
  refine (rg_virtual (pc := 27) (dd bX5_aimInRow dX5_aimInRow_27) rfl rfl (by decide) (kc := 26) rfl s2.1 (as := [(1, y1), (0, y0), (0, h 901 (x0 + 25) 0)]) rfl ⟨Nat.le_of_ble_eq_true rfl, Nat.le_of_ble_eq_true rfl, Nat.le_of_ble_eq_true rfl, Nat.le_of_ble_eq_true rfl⟩).trans ?_
  refine (vret_v (spX5_rowInLine s2 p3 p4)).trans ?_
  refine (rn_istore_n (pc := 30) (dd bX5_aimInRow dX5_aimInRow_30) (Nat.le_of_ble_eq_true rfl) rfl).trans ?_
  refine (rn_aload_n (pc := 31) (dd bX5_aimInRow dX5_aimInRow_31) rfl).trans ?_
  refine (rn_aload_n (pc := 32) (dd bX5_aimInRow dX5_aimInRow_32) rfl).trans ?_
  refine (rg_gf (pc := 33) (dd bX5_aimInRow dX5_aimInRow_33) (ci := 6) (j := 6) rfl rfl (key := 706) rfl (kc := 26) rfl s1.1 s1.2.2.2.2.2.2.2.2.2.2.2.2.1).trans ?_
  refine (rg_gf (pc := 36) (dd bX5_aimInRow dX5_aimInRow_36) (ci := 8) (j := 1) rfl rfl (key := 901) rfl (kc := 28) rfl s1.2.2.2.2.2.2.2.2.2.2.2.2.2.1 rfl).trans ?_
  exact rg_virtual (pc := 39) (dd bX5_aimInRow dX5_aimInRow_39) rfl rfl (by decide) (kc := 26) rfl s1.1 (as := [(1, x0), (0, h 901 (x0 + 25) 0)]) rfl ⟨Nat.le_of_ble_eq_true rfl, Nat.le_of_ble_eq_true rfl, Nat.le_of_ble_eq_true rfl, Nat.le_of_ble_eq_true rfl⟩
theorem rX5_aimInRow_42 {x0 : Int} {x1 : Int} {x2 : Int} {y0 : Int} {h : vH} (s1 : shLayout h y0) : vrun mX5_aimInRow 42 [(1, x0), (0, x1), (0, x2), (9, 0), (9, 0)] [(1, y0)] h = if x1 = 4 then vret vrun mX5_aimInRow 50 [(1, x0), (0, x1), (0, x2), (1, y0), (9, 0)] [] (vcl mX3_firstPlace [(1, y0), (0, x2)] h) else vret vrun mX5_aimInRow 58 [(1, x0), (0, x1), (0, x2), (1, y0), (9, 0)] [] (vcl mX3_lastPlace [(1, y0), (0, x2)] h) := by
  refine (rn_astore_n (pc := 42) (dd bX5_aimInRow dX5_aimInRow_42) (Nat.le_of_ble_eq_true rfl) rfl).trans ?_
  refine (rn_iload_n (pc := 43) (dd bX5_aimInRow dX5_aimInRow_43) rfl).trans ?_
  refine (rn_iconst (pc := 44) (dd bX5_aimInRow dX5_aimInRow_44) (by decide)).trans ?_
  refine (rg_icmp_ne (t := 56) (pc := 45) (dd bX5_aimInRow dX5_aimInRow_45) rfl).trans (itec (fun c1 => ?_) (fun c1 => ?_))
  · refine (rn_aload_n (pc := 48) (dd bX5_aimInRow dX5_aimInRow_48) rfl).trans ?_
    refine (rn_iload_n (pc := 49) (dd bX5_aimInRow dX5_aimInRow_49) rfl).trans ?_
    exact rg_virtual (pc := 50) (dd bX5_aimInRow dX5_aimInRow_50) rfl rfl (by decide) (kc := 24) rfl s1.1 (as := [(1, y0), (0, x2)]) rfl ⟨Nat.le_of_ble_eq_true rfl, Nat.le_of_ble_eq_true rfl, Nat.le_of_ble_eq_true rfl, Nat.le_of_ble_eq_true rfl⟩
  · refine (rn_aload_n (pc := 56) (dd bX5_aimInRow dX5_aimInRow_56) rfl).trans ?_
    refine (rn_iload_n (pc := 57) (dd bX5_aimInRow dX5_aimInRow_57) rfl).trans ?_
    exact rg_virtual (pc := 58) (dd bX5_aimInRow dX5_aimInRow_58) rfl rfl (by decide) (kc := 24) rfl s1.1 (as := [(1, y0), (0, x2)]) rfl ⟨Nat.le_of_ble_eq_true rfl, Nat.le_of_ble_eq_true rfl, Nat.le_of_ble_eq_true rfl, Nat.le_of_ble_eq_true rfl⟩
theorem rX5_aimInRow_53 {x0 : Int} {x1 : Int} {x2 : Int} {x3 : Int} {y0 : Int} {h : vH} (s1 : shPane h x0) : vrun mX5_aimInRow 53 [(1, x0), (0, x1), (0, x2), (1, x3), (9, 0)] [(0, y0)] h = if y0 = (-1) then some (.inl none, h) else vret vrun mX5_aimInRow 82 [(1, x0), (0, x1), (0, x2), (1, x3), (0, y0)] [] (vcl mX7_set [(1, x0 + 25), (0, h 901 (x0 + 25) 0), (0, y0)] h) := by
  refine (rn_goto (t := 61) (pc := 53) (dd bX5_aimInRow dX5_aimInRow_53) rfl).trans ?_
  refine (rn_istore (pc := 61) (dd bX5_aimInRow dX5_aimInRow_61) (Nat.le_of_ble_eq_true rfl) rfl).trans ?_
  refine (rn_iload (pc := 63) (dd bX5_aimInRow dX5_aimInRow_63) rfl).trans ?_
  refine (rn_iconst (pc := 65) (dd bX5_aimInRow dX5_aimInRow_65) (by decide)).trans ?_
  refine (rn_icmp_eq (t := 85) (pc := 66) (dd bX5_aimInRow dX5_aimInRow_66) rfl).trans (itec (fun c1 => ?_) (fun c1 => ?_))
  · exact rn_return (pc := 85) (dd bX5_aimInRow dX5_aimInRow_85) rfl
  · refine (rn_aload_n (pc := 69) (dd bX5_aimInRow dX5_aimInRow_69) rfl).trans ?_
    refine (rg_gf (pc := 70) (dd bX5_aimInRow dX5_aimInRow_70) (ci := 6) (j := 6) rfl rfl (key := 706) rfl (kc := 26) rfl s1.1 s1.2.2.2.2.2.2.2.2.2.2.2.2.1).trans ?_
    refine (rn_aload_n (pc := 73) (dd bX5_aimInRow dX5_aimInRow_73) rfl).trans ?_
    refine (rg_gf (pc := 74) (dd bX5_aimInRow dX5_aimInRow_74) (ci := 6) (j := 6) rfl rfl (key := 706) rfl (kc := 26) rfl s1.1 s1.2.2.2.2.2.2.2.2.2.2.2.2.1).trans ?_
    refine (rg_gf (pc := 77) (dd bX5_aimInRow dX5_aimInRow_77) (ci := 8) (j := 1) rfl rfl (key := 901) rfl (kc := 28) rfl s1.2.2.2.2.2.2.2.2.2.2.2.2.2.1 rfl).trans ?_
    refine (rn_iload (pc := 80) (dd bX5_aimInRow dX5_aimInRow_80) rfl).trans ?_
    exact rg_virtual (pc := 82) (dd bX5_aimInRow dX5_aimInRow_82) rfl rfl (by decide) (kc := 28) rfl s1.2.2.2.2.2.2.2.2.2.2.2.2.2.1 (as := [(1, x0 + 25), (0, h 901 (x0 + 25) 0), (0, y0)]) rfl ⟨Nat.le_of_ble_eq_true rfl, Nat.le_of_ble_eq_true rfl, Nat.le_of_ble_eq_true rfl, Nat.le_of_ble_eq_true rfl⟩
theorem rX5_aimInRow_61 {x0 : Int} {x1 : Int} {x2 : Int} {x3 : Int} {y0 : Int} {h : vH} (s1 : shPane h x0) : vrun mX5_aimInRow 61 [(1, x0), (0, x1), (0, x2), (1, x3), (9, 0)] [(0, y0)] h = if y0 = (-1) then some (.inl none, h) else vret vrun mX5_aimInRow 82 [(1, x0), (0, x1), (0, x2), (1, x3), (0, y0)] [] (vcl mX7_set [(1, x0 + 25), (0, h 901 (x0 + 25) 0), (0, y0)] h) := by
  refine (rn_istore (pc := 61) (dd bX5_aimInRow dX5_aimInRow_61) (Nat.le_of_ble_eq_true rfl) rfl).trans ?_
  refine (rn_iload (pc := 63) (dd bX5_aimInRow dX5_aimInRow_63) rfl).trans ?_
  refine (rn_iconst (pc := 65) (dd bX5_aimInRow dX5_aimInRow_65) (by decide)).trans ?_
  refine (rn_icmp_eq (t := 85) (pc := 66) (dd bX5_aimInRow dX5_aimInRow_66) rfl).trans (itec (fun c1 => ?_) (fun c1 => ?_))
  · exact rn_return (pc := 85) (dd bX5_aimInRow dX5_aimInRow_85) rfl
  · refine (rn_aload_n (pc := 69) (dd bX5_aimInRow dX5_aimInRow_69) rfl).trans ?_
    refine (rg_gf (pc := 70) (dd bX5_aimInRow dX5_aimInRow_70) (ci := 6) (j := 6) rfl rfl (key := 706) rfl (kc := 26) rfl s1.1 s1.2.2.2.2.2.2.2.2.2.2.2.2.1).trans ?_
    refine (rn_aload_n (pc := 73) (dd bX5_aimInRow dX5_aimInRow_73) rfl).trans ?_
    refine (rg_gf (pc := 74) (dd bX5_aimInRow dX5_aimInRow_74) (ci := 6) (j := 6) rfl rfl (key := 706) rfl (kc := 26) rfl s1.1 s1.2.2.2.2.2.2.2.2.2.2.2.2.1).trans ?_
    refine (rg_gf (pc := 77) (dd bX5_aimInRow dX5_aimInRow_77) (ci := 8) (j := 1) rfl rfl (key := 901) rfl (kc := 28) rfl s1.2.2.2.2.2.2.2.2.2.2.2.2.2.1 rfl).trans ?_
    refine (rn_iload (pc := 80) (dd bX5_aimInRow dX5_aimInRow_80) rfl).trans ?_
    exact rg_virtual (pc := 82) (dd bX5_aimInRow dX5_aimInRow_82) rfl rfl (by decide) (kc := 28) rfl s1.2.2.2.2.2.2.2.2.2.2.2.2.2.1 (as := [(1, x0 + 25), (0, h 901 (x0 + 25) 0), (0, y0)]) rfl ⟨Nat.le_of_ble_eq_true rfl, Nat.le_of_ble_eq_true rfl, Nat.le_of_ble_eq_true rfl, Nat.le_of_ble_eq_true rfl⟩
theorem rX5_aimInRow_85 {x0 : Int} {x1 : Int} {x2 : Int} {x3 : Int} {x4 : Int} {h : vH} : vrun mX5_aimInRow 85 [(1, x0), (0, x1), (0, x2), (1, x3), (0, x4)] [] h = some (.inl none, h) := by
  exact rn_return (pc := 85) (dd bX5_aimInRow dX5_aimInRow_85) rfl
theorem bX5_rowOfMove : vmB mX5_rowOfMove = cX5_rowOfMove := rfl
theorem rX5_rowOfMove_0 {x0 : Int} {x1 : Int} {x2 : Int} {h : vH} (s1 : shPane h x0) : vrun mX5_rowOfMove 0 [(1, x0), (0, x1), (0, x2), (9, 0), (9, 0), (9, 0)] [] h = vret vrun mX5_rowOfMove 16 [(1, x0), (0, x1), (0, x2), (9, 0), (9, 0), (9, 0)] [] (vcl mX5_rowDown [(1, x0), (0, h 901 (x0 + 25) 0), (0, h 902 (x0 + 25) 0), (0, 0)] h) := by
  refine (rn_aload_n (pc := 0) (dd bX5_rowOfMove dX5_rowOfMove_0) rfl).trans ?_
  refine (rn_aload_n (pc := 1) (dd bX5_rowOfMove dX5_rowOfMove_1) rfl).trans ?_
  refine (rg_gf (pc := 2) (dd bX5_rowOfMove dX5_rowOfMove_2) (ci := 6) (j := 6) rfl rfl (key := 706) rfl (kc := 26) rfl s1.1 s1.2.2.2.2.2.2.2.2.2.2.2.2.1).trans ?_
  refine (rg_gf (pc := 5) (dd bX5_rowOfMove dX5_rowOfMove_5) (ci := 8) (j := 1) rfl rfl (key := 901) rfl (kc := 28) rfl s1.2.2.2.2.2.2.2.2.2.2.2.2.2.1 rfl).trans ?_
  refine (rn_aload_n (pc := 8) (dd bX5_rowOfMove dX5_rowOfMove_8) rfl).trans ?_
  refine (rg_gf (pc := 9) (dd bX5_rowOfMove dX5_rowOfMove_9) (ci := 6) (j := 6) rfl rfl (key := 706) rfl (kc := 26) rfl s1.1 s1.2.2.2.2.2.2.2.2.2.2.2.2.1).trans ?_
  refine (rg_gf (pc := 12) (dd bX5_rowOfMove dX5_rowOfMove_12) (ci := 8) (j := 2) rfl rfl (key := 902) rfl (kc := 28) rfl s1.2.2.2.2.2.2.2.2.2.2.2.2.2.1 rfl).trans ?_
  refine (rn_iconst (pc := 15) (dd bX5_rowOfMove dX5_rowOfMove_15) (by decide)).trans ?_
  exact rg_virtual (pc := 16) (dd bX5_rowOfMove dX5_rowOfMove_16) rfl rfl (by decide) (kc := 26) rfl s1.1 (as := [(1, x0), (0, h 901 (x0 + 25) 0), (0, h 902 (x0 + 25) 0), (0, 0)]) rfl ⟨Nat.le_of_ble_eq_true rfl, Nat.le_of_ble_eq_true rfl, Nat.le_of_ble_eq_true rfl, Nat.le_of_ble_eq_true rfl⟩
theorem rX5_rowOfMove_19 {x0 : Int} {x1 : Int} {x2 : Int} {y0 : Int} {h : vH} (p1 : x1 = 2 ∨ x1 = 6 → (-2147483648) ≤ y0 - (if x1 = 2 then 1 else (if x1 = 3 then 1 else x2))) (p2 : x1 = 2 ∨ x1 = 6 → y0 - (if x1 = 2 then 1 else (if x1 = 3 then 1 else x2)) < 2147483648) (s3 : shPane h x0) (p4 : ¬ (x1 = 2 ∨ x1 = 6) → (-2147483648) ≤ h 713 x0 0 - 1) (p5 : ¬ (x1 = 2 ∨ x1 = 6) → h 713 x0 0 - 1 < 2147483648) (p6 : ¬ (x1 = 2 ∨ x1 = 6) → (-2147483648) ≤ y0 + (if x1 = 2 then 1 else (if x1 = 3 then 1 else x2))) (p7 : ¬ (x1 = 2 ∨ x1 = 6) → y0 + (if x1 = 2 then 1 else (if x1 = 3 then 1 else x2)) < 2147483648) : vrun mX5_rowOfMove 19 [(1, x0), (0, x1), (0, x2), (9, 0), (9, 0), (9, 0)] [(0, y0)] h = some (.inl (some (0, (if x1 = 2 ∨ x1 = 6 then max 0 (y0 - (if x1 = 2 then 1 else (if x1 = 3 then 1 else x2))) else min (h 713 x0 0 - 1) (y0 + (if x1 = 2 then 1 else (if x1 = 3 then 1 else x2)))))), h) := by
  refine (rn_istore_n (pc := 19) (dd bX5_rowOfMove dX5_rowOfMove_19) (Nat.le_of_ble_eq_true rfl) rfl).trans ?_
  refine (rn_iload_n (pc := 20) (dd bX5_rowOfMove dX5_rowOfMove_20) rfl).trans ?_
  refine (rn_iconst (pc := 21) (dd bX5_rowOfMove dX5_rowOfMove_21) (by decide)).trans ?_
  have e2 : vrun mX5_rowOfMove 22 [(1, x0), (0, x1), (0, x2), (0, y0), (9, 0), (9, 0)] [(0, 2), (0, x1)] h = vrun mX5_rowOfMove 35 [(1, x0), (0, x1), (0, x2), (0, y0), (9, 0), (9, 0)] [(0, (if x1 = 2 then 1 else (if x1 = 3 then 1 else x2)))] h := by
    refine (rn_icmp_eq (t := 30) (pc := 22) (dd bX5_rowOfMove dX5_rowOfMove_22) rfl).trans ?_
    by_cases c1 : x1 = 2
    · refine (if_pos c1).trans ?_
      refine (rn_iconst (pc := 30) (dd bX5_rowOfMove dX5_rowOfMove_30) (by decide)).trans ?_
      refine (rn_goto (t := 35) (pc := 31) (dd bX5_rowOfMove dX5_rowOfMove_31) rfl).trans ?_
      refine Eq.trans (b := vrun mX5_rowOfMove 35 [(1, x0), (0, x1), (0, x2), (0, y0), (9, 0), (9, 0)] [(0, 1)] h) rfl ?_
      simp only [if_pos c1]
    · refine (if_neg c1).trans ?_
      refine (rn_iload_n (pc := 25) (dd bX5_rowOfMove dX5_rowOfMove_25) rfl).trans ?_
      refine (rn_iconst (pc := 26) (dd bX5_rowOfMove dX5_rowOfMove_26) (by decide)).trans ?_
      have e1 : vrun mX5_rowOfMove 27 [(1, x0), (0, x1), (0, x2), (0, y0), (9, 0), (9, 0)] [(0, 3), (0, x1)] h = vrun mX5_rowOfMove 35 [(1, x0), (0, x1), (0, x2), (0, y0), (9, 0), (9, 0)] [(0, (if x1 = 3 then 1 else x2))] h := by
        refine (rg_icmp_ne (t := 34) (pc := 27) (dd bX5_rowOfMove dX5_rowOfMove_27) rfl).trans ?_
        by_cases c2 : x1 = 3
        · refine (if_pos c2).trans ?_
          refine (rn_iconst (pc := 30) (dd bX5_rowOfMove dX5_rowOfMove_30) (by decide)).trans ?_
          refine (rn_goto (t := 35) (pc := 31) (dd bX5_rowOfMove dX5_rowOfMove_31) rfl).trans ?_
          refine Eq.trans (b := vrun mX5_rowOfMove 35 [(1, x0), (0, x1), (0, x2), (0, y0), (9, 0), (9, 0)] [(0, 1)] h) rfl ?_
          simp only [if_pos c2]
        · refine (if_neg c2).trans ?_
          refine (rn_iload_n (pc := 34) (dd bX5_rowOfMove dX5_rowOfMove_34) rfl).trans ?_
          refine Eq.trans (b := vrun mX5_rowOfMove 35 [(1, x0), (0, x1), (0, x2), (0, y0), (9, 0), (9, 0)] [(0, x2)] h) rfl ?_
          simp only [if_neg c2]
      refine e1.trans ?_
      refine Eq.trans (b := vrun mX5_rowOfMove 35 [(1, x0), (0, x1), (0, x2), (0, y0), (9, 0), (9, 0)] [(0, (if x1 = 3 then 1 else x2))] h) rfl ?_
      simp only [if_neg c1]
  refine e2.trans ?_
  refine (rn_istore (pc := 35) (dd bX5_rowOfMove dX5_rowOfMove_35) (Nat.le_of_ble_eq_true rfl) rfl).trans ?_
  refine (rn_iload_n (pc := 37) (dd bX5_rowOfMove dX5_rowOfMove_37) rfl).trans ?_
  refine (rn_iconst (pc := 38) (dd bX5_rowOfMove dX5_rowOfMove_38) (by decide)).trans ?_
  have e4 : vrun mX5_rowOfMove 39 [(1, x0), (0, x1), (0, x2), (0, y0), (0, (if x1 = 2 then 1 else (if x1 = 3 then 1 else x2))), (9, 0)] [(0, 2), (0, x1)] h = vrun mX5_rowOfMove 53 [(1, x0), (0, x1), (0, x2), (0, y0), (0, (if x1 = 2 then 1 else (if x1 = 3 then 1 else x2))), (9, 0)] [(0, (if x1 = 2 ∨ x1 = 6 then 1 else 0))] h := by
    refine (rn_icmp_eq (t := 48) (pc := 39) (dd bX5_rowOfMove dX5_rowOfMove_39) rfl).trans ?_
    by_cases c3 : x1 = 2
    · refine (if_pos c3).trans ?_
      refine (rn_iconst (pc := 48) (dd bX5_rowOfMove dX5_rowOfMove_48) (by decide)).trans ?_
      refine (rn_goto (t := 53) (pc := 49) (dd bX5_rowOfMove dX5_rowOfMove_49) rfl).trans ?_
      refine Eq.trans (b := vrun mX5_rowOfMove 53 [(1, x0), (0, x1), (0, x2), (0, y0), (0, (if x1 = 2 then 1 else (if x1 = 3 then 1 else x2))), (9, 0)] [(0, 1)] h) rfl ?_
      simp only [c3, true_or, false_or, or_true, or_false, true_and, false_and, and_true, and_false, not_true_eq_false, not_false_eq_true, ne_eq, if_true, if_false, ↓reduceIte]
    · refine (if_neg c3).trans ?_
      refine (rn_iload_n (pc := 42) (dd bX5_rowOfMove dX5_rowOfMove_42) rfl).trans ?_
      refine (rn_bipush (pc := 43) (dd bX5_rowOfMove dX5_rowOfMove_43) (by decide)).trans ?_
      have e3 : vrun mX5_rowOfMove 45 [(1, x0), (0, x1), (0, x2), (0, y0), (0, (if x1 = 2 then 1 else (if x1 = 3 then 1 else x2))), (9, 0)] [(0, 6), (0, x1)] h = vrun mX5_rowOfMove 53 [(1, x0), (0, x1), (0, x2), (0, y0), (0, (if x1 = 2 then 1 else (if x1 = 3 then 1 else x2))), (9, 0)] [(0, (if x1 = 6 then 1 else 0))] h := by
        refine (rg_icmp_ne (t := 52) (pc := 45) (dd bX5_rowOfMove dX5_rowOfMove_45) rfl).trans ?_
        by_cases c4 : x1 = 6
        · refine (if_pos c4).trans ?_
          refine (rn_iconst (pc := 48) (dd bX5_rowOfMove dX5_rowOfMove_48) (by decide)).trans ?_
          refine (rn_goto (t := 53) (pc := 49) (dd bX5_rowOfMove dX5_rowOfMove_49) rfl).trans ?_
          refine Eq.trans (b := vrun mX5_rowOfMove 53 [(1, x0), (0, x1), (0, x2), (0, y0), (0, (if x1 = 2 then 1 else (if x1 = 3 then 1 else x2))), (9, 0)] [(0, 1)] h) rfl ?_
          simp only [c4, true_or, false_or, or_true, or_false, true_and, false_and, and_true, and_false, not_true_eq_false, not_false_eq_true, ne_eq, if_true, if_false, ↓reduceIte]
        · refine (if_neg c4).trans ?_
          refine (rn_iconst (pc := 52) (dd bX5_rowOfMove dX5_rowOfMove_52) (by decide)).trans ?_
          refine Eq.trans (b := vrun mX5_rowOfMove 53 [(1, x0), (0, x1), (0, x2), (0, y0), (0, (if x1 = 2 then 1 else (if x1 = 3 then 1 else x2))), (9, 0)] [(0, 0)] h) rfl ?_
          simp only [c4, true_or, false_or, or_true, or_false, true_and, false_and, and_true, and_false, not_true_eq_false, not_false_eq_true, ne_eq, if_true, if_false, ↓reduceIte]
      refine e3.trans ?_
      refine Eq.trans (b := vrun mX5_rowOfMove 53 [(1, x0), (0, x1), (0, x2), (0, y0), (0, (if x1 = 2 then 1 else (if x1 = 3 then 1 else x2))), (9, 0)] [(0, (if x1 = 6 then 1 else 0))] h) rfl ?_
      simp only [c3, true_or, false_or, or_true, or_false, true_and, false_and, and_true, and_false, not_true_eq_false, not_false_eq_true, ne_eq, if_true, if_false, ↓reduceIte]
  refine e4.trans ?_
  refine (rn_istore (pc := 53) (dd bX5_rowOfMove dX5_rowOfMove_53) (Nat.le_of_ble_eq_true rfl) rfl).trans ?_
  refine (rn_iload (pc := 55) (dd bX5_rowOfMove dX5_rowOfMove_55) rfl).trans ?_
  have e5 : vrun mX5_rowOfMove 57 [(1, x0), (0, x1), (0, x2), (0, y0), (0, (if x1 = 2 then 1 else (if x1 = 3 then 1 else x2))), (0, (if x1 = 2 ∨ x1 = 6 then 1 else 0))] [(0, (if x1 = 2 ∨ x1 = 6 then 1 else 0))] h = vrun mX5_rowOfMove 84 [(1, x0), (0, x1), (0, x2), (0, y0), (0, (if x1 = 2 then 1 else (if x1 = 3 then 1 else x2))), (0, (if x1 = 2 ∨ x1 = 6 then 1 else 0))] [(0, (if x1 = 2 ∨ x1 = 6 then max 0 (y0 - (if x1 = 2 then 1 else (if x1 = 3 then 1 else x2))) else min (h 713 x0 0 - 1) (y0 + (if x1 = 2 then 1 else (if x1 = 3 then 1 else x2)))))] h := by
    refine (rg_beq (t := 71) (pc := 57) (dd bX5_rowOfMove dX5_rowOfMove_57) rfl).trans ?_
    by_cases c5 : x1 = 2 ∨ x1 = 6
    · refine (if_pos c5).trans ?_
      refine (rn_iconst (pc := 60) (dd bX5_rowOfMove dX5_rowOfMove_60) (by decide)).trans ?_
      refine (rn_iload_n (pc := 61) (dd bX5_rowOfMove dX5_rowOfMove_61) rfl).trans ?_
      refine (rn_iload (pc := 62) (dd bX5_rowOfMove dX5_rowOfMove_62) rfl).trans ?_
      refine (rg_isub (pc := 64) (dd bX5_rowOfMove dX5_rowOfMove_64) (p1 c5) (p2 c5)).trans ?_
      refine (rg_max (pc := 65) (dd bX5_rowOfMove dX5_rowOfMove_65) rfl ⟨Nat.le_of_ble_eq_true rfl, Nat.le_of_ble_eq_true rfl, Nat.le_of_ble_eq_true rfl⟩).trans ?_
      refine (rn_goto (t := 84) (pc := 68) (dd bX5_rowOfMove dX5_rowOfMove_68) rfl).trans ?_
      refine Eq.trans (b := vrun mX5_rowOfMove 84 [(1, x0), (0, x1), (0, x2), (0, y0), (0, (if x1 = 2 then 1 else (if x1 = 3 then 1 else x2))), (0, (if x1 = 2 ∨ x1 = 6 then 1 else 0))] [(0, max 0 (y0 - (if x1 = 2 then 1 else (if x1 = 3 then 1 else x2))))] h) rfl ?_
      simp only [if_pos c5]
    · refine (if_neg c5).trans ?_
      refine (rn_aload_n (pc := 71) (dd bX5_rowOfMove dX5_rowOfMove_71) rfl).trans ?_
      refine (rg_gf (pc := 72) (dd bX5_rowOfMove dX5_rowOfMove_72) (ci := 6) (j := 13) rfl rfl (key := 713) rfl (kc := 26) rfl s3.1 rfl).trans ?_
      refine (rn_iconst (pc := 75) (dd bX5_rowOfMove dX5_rowOfMove_75) (by decide)).trans ?_
      refine (rg_isub (pc := 76) (dd bX5_rowOfMove dX5_rowOfMove_76) (p4 c5) (p5 c5)).trans ?_
      refine (rn_iload_n (pc := 77) (dd bX5_rowOfMove dX5_rowOfMove_77) rfl).trans ?_
      refine (rn_iload (pc := 78) (dd bX5_rowOfMove dX5_rowOfMove_78) rfl).trans ?_
      refine (rg_iadd (pc := 80) (dd bX5_rowOfMove dX5_rowOfMove_80) (p6 c5) (p7 c5)).trans ?_
      refine (rg_min (pc := 81) (dd bX5_rowOfMove dX5_rowOfMove_81) rfl ⟨Nat.le_of_ble_eq_true rfl, Nat.le_of_ble_eq_true rfl, Nat.le_of_ble_eq_true rfl⟩).trans ?_
      refine Eq.trans (b := vrun mX5_rowOfMove 84 [(1, x0), (0, x1), (0, x2), (0, y0), (0, (if x1 = 2 then 1 else (if x1 = 3 then 1 else x2))), (0, (if x1 = 2 ∨ x1 = 6 then 1 else 0))] [(0, min (h 713 x0 0 - 1) (y0 + (if x1 = 2 then 1 else (if x1 = 3 then 1 else x2))))] h) rfl ?_
      simp only [if_neg c5]
  refine e5.trans ?_
  exact rn_ireturn (pc := 84) (dd bX5_rowOfMove dX5_rowOfMove_84) (Or.inl rfl)
theorem bX5_aimAtRow : vmB mX5_aimAtRow = cX5_aimAtRow := rfl
theorem rX5_aimAtRow_0 {x0 : Int} {x1 : Int} {h : vH} (s1 : shPane h x0) : vrun mX5_aimAtRow 0 [(1, x0), (0, x1)] [] h = vret vrun mX5_aimAtRow 17 [(1, x0), (0, x1)] [(0, x1)] (vcl mX5_rowDown [(1, x0), (0, h 901 (x0 + 25) 0), (0, h 902 (x0 + 25) 0), (0, 0)] h) := by
  refine (rn_iload_n (pc := 0) (dd bX5_aimAtRow dX5_aimAtRow_0) rfl).trans ?_
  refine (rn_aload_n (pc := 1) (dd bX5_aimAtRow dX5_aimAtRow_1) rfl).trans ?_
  refine (rn_aload_n (pc := 2) (dd bX5_aimAtRow dX5_aimAtRow_2) rfl).trans ?_
  refine (rg_gf (pc := 3) (dd bX5_aimAtRow dX5_aimAtRow_3) (ci := 6) (j := 6) rfl rfl (key := 706) rfl (kc := 26) rfl s1.1 s1.2.2.2.2.2.2.2.2.2.2.2.2.1).trans ?_
  refine (rg_gf (pc := 6) (dd bX5_aimAtRow dX5_aimAtRow_6) (ci := 8) (j := 1) rfl rfl (key := 901) rfl (kc := 28) rfl s1.2.2.2.2.2.2.2.2.2.2.2.2.2.1 rfl).trans ?_
  refine (rn_aload_n (pc := 9) (dd bX5_aimAtRow dX5_aimAtRow_9) rfl).trans ?_
  refine (rg_gf (pc := 10) (dd bX5_aimAtRow dX5_aimAtRow_10) (ci := 6) (j := 6) rfl rfl (key := 706) rfl (kc := 26) rfl s1.1 s1.2.2.2.2.2.2.2.2.2.2.2.2.1).trans ?_
  refine (rg_gf (pc := 13) (dd bX5_aimAtRow dX5_aimAtRow_13) (ci := 8) (j := 2) rfl rfl (key := 902) rfl (kc := 28) rfl s1.2.2.2.2.2.2.2.2.2.2.2.2.2.1 rfl).trans ?_
  refine (rn_iconst (pc := 16) (dd bX5_aimAtRow dX5_aimAtRow_16) (by decide)).trans ?_
  exact rg_virtual (pc := 17) (dd bX5_aimAtRow dX5_aimAtRow_17) rfl rfl (by decide) (kc := 26) rfl s1.1 (as := [(1, x0), (0, h 901 (x0 + 25) 0), (0, h 902 (x0 + 25) 0), (0, 0)]) rfl ⟨Nat.le_of_ble_eq_true rfl, Nat.le_of_ble_eq_true rfl, Nat.le_of_ble_eq_true rfl, Nat.le_of_ble_eq_true rfl⟩
theorem rX5_aimAtRow_20 {x0 : Int} {x1 : Int} {y0 : Int} {y1 : Int} {h : vH} (s1 : shPane h x0) : vrun mX5_aimAtRow 20 [(1, x0), (0, x1)] [(0, y0), (0, y1)] h = if y1 = y0 then some (.inl none, h) else vret vrun mX5_aimAtRow 29 [(1, x0), (0, x1)] [(1, x0 + 25)] (vcl mX5_lineOfRow [(1, x0), (0, x1)] h) := by
  refine (rn_icmp_eq (t := 44) (pc := 20) (dd bX5_aimAtRow dX5_aimAtRow_20) rfl).trans (itec (fun c1 => ?_) (fun c1 => ?_))
  · exact rn_return (pc := 44) (dd bX5_aimAtRow dX5_aimAtRow_44) rfl
  · refine (rn_aload_n (pc := 23) (dd bX5_aimAtRow dX5_aimAtRow_23) rfl).trans ?_
    refine (rg_gf (pc := 24) (dd bX5_aimAtRow dX5_aimAtRow_24) (ci := 6) (j := 6) rfl rfl (key := 706) rfl (kc := 26) rfl s1.1 s1.2.2.2.2.2.2.2.2.2.2.2.2.1).trans ?_
    refine (rn_aload_n (pc := 27) (dd bX5_aimAtRow dX5_aimAtRow_27) rfl).trans ?_
    refine (rn_iload_n (pc := 28) (dd bX5_aimAtRow dX5_aimAtRow_28) rfl).trans ?_
    exact rg_virtual (pc := 29) (dd bX5_aimAtRow dX5_aimAtRow_29) rfl rfl (by decide) (kc := 26) rfl s1.1 (as := [(1, x0), (0, x1)]) rfl ⟨Nat.le_of_ble_eq_true rfl, Nat.le_of_ble_eq_true rfl, Nat.le_of_ble_eq_true rfl, Nat.le_of_ble_eq_true rfl⟩
theorem rX5_aimAtRow_32 {x0 : Int} {x1 : Int} {y0 : Int} {y1 : Int} {h : vH} (s1 : shPane h x0) : vrun mX5_aimAtRow 32 [(1, x0), (0, x1)] [(0, y0), (1, y1)] h = vret vrun mX5_aimAtRow 38 [(1, x0), (0, x1)] [(0, y0), (1, y1)] (vcl mX5_placeUp [(1, x0), (0, x1), (0, h 707 x0 0)] h) := by
  refine (rn_aload_n (pc := 32) (dd bX5_aimAtRow dX5_aimAtRow_32) rfl).trans ?_
  refine (rn_iload_n (pc := 33) (dd bX5_aimAtRow dX5_aimAtRow_33) rfl).trans ?_
  refine (rn_aload_n (pc := 34) (dd bX5_aimAtRow dX5_aimAtRow_34) rfl).trans ?_
  refine (rg_gf (pc := 35) (dd bX5_aimAtRow dX5_aimAtRow_35) (ci := 6) (j := 7) rfl rfl (key := 707) rfl (kc := 26) rfl s1.1 rfl).trans ?_
  exact rg_virtual (pc := 38) (dd bX5_aimAtRow dX5_aimAtRow_38) rfl rfl (by decide) (kc := 26) rfl s1.1 (as := [(1, x0), (0, x1), (0, h 707 x0 0)]) rfl ⟨Nat.le_of_ble_eq_true rfl, Nat.le_of_ble_eq_true rfl, Nat.le_of_ble_eq_true rfl, Nat.le_of_ble_eq_true rfl⟩
theorem rX5_aimAtRow_41 {x0 : Int} {x1 : Int} {y0 : Int} {y1 : Int} {y2 : Int} {h : vH} (s1 : shPlace h y2) : vrun mX5_aimAtRow 41 [(1, x0), (0, x1)] [(0, y0), (0, y1), (1, y2)] h = vret vrun mX5_aimAtRow 41 [(1, x0), (0, x1)] [] (vcl mX7_set [(1, y2), (0, y1), (0, y0)] h) := by
  exact rg_virtual (pc := 41) (dd bX5_aimAtRow dX5_aimAtRow_41) rfl rfl (by decide) (kc := 28) rfl s1 (as := [(1, y2), (0, y1), (0, y0)]) rfl ⟨Nat.le_of_ble_eq_true rfl, Nat.le_of_ble_eq_true rfl, Nat.le_of_ble_eq_true rfl, Nat.le_of_ble_eq_true rfl⟩
theorem rX5_aimAtRow_44 {x0 : Int} {x1 : Int} {h : vH} : vrun mX5_aimAtRow 44 [(1, x0), (0, x1)] [] h = some (.inl none, h) := by
  exact rn_return (pc := 44) (dd bX5_aimAtRow dX5_aimAtRow_44) rfl
theorem bX5_takeGoal : vmB mX5_takeGoal = cX5_takeGoal := rfl
theorem rX5_takeGoal_0 {x0 : Int} {h : vH} (s1 : shPane h x0) : vrun mX5_takeGoal 0 [(1, x0)] [] h = vret vrun mX5_takeGoal 9 [(1, x0)] [(1, x0 + 25)] (vcl mX5_takenLine [(1, x0), (1, x0 + 23)] h) := by
  refine (rn_aload_n (pc := 0) (dd bX5_takeGoal dX5_takeGoal_0) rfl).trans ?_
  refine (rg_gf (pc := 1) (dd bX5_takeGoal dX5_takeGoal_1) (ci := 6) (j := 6) rfl rfl (key := 706) rfl (kc := 26) rfl s1.1 s1.2.2.2.2.2.2.2.2.2.2.2.2.1).trans ?_
  refine (rn_aload_n (pc := 4) (dd bX5_takeGoal dX5_takeGoal_4) rfl).trans ?_
  refine (rn_aload_n (pc := 5) (dd bX5_takeGoal dX5_takeGoal_5) rfl).trans ?_
  refine (rg_gf (pc := 6) (dd bX5_takeGoal dX5_takeGoal_6) (ci := 6) (j := 4) rfl rfl (key := 704) rfl (kc := 26) rfl s1.1 s1.2.2.2.2.2.2.2.2.1).trans ?_
  exact rg_virtual (pc := 9) (dd bX5_takeGoal dX5_takeGoal_9) rfl rfl (by decide) (kc := 26) rfl s1.1 (as := [(1, x0), (1, x0 + 23)]) rfl ⟨Nat.le_of_ble_eq_true rfl, Nat.le_of_ble_eq_true rfl, Nat.le_of_ble_eq_true rfl, Nat.le_of_ble_eq_true rfl⟩
theorem rX5_takeGoal_12 {x0 : Int} {y0 : Int} {y1 : Int} {h : vH} (s1 : shPane h x0) : vrun mX5_takeGoal 12 [(1, x0)] [(0, y0), (1, y1)] h = vret vrun mX5_takeGoal 17 [(1, x0)] [(0, y0), (1, y1)] (vcl mX5_takenAt [(1, x0), (1, x0 + 23)] h) := by
  refine (rn_aload_n (pc := 12) (dd bX5_takeGoal dX5_takeGoal_12) rfl).trans ?_
  refine (rn_aload_n (pc := 13) (dd bX5_takeGoal dX5_takeGoal_13) rfl).trans ?_
  refine (rg_gf (pc := 14) (dd bX5_takeGoal dX5_takeGoal_14) (ci := 6) (j := 4) rfl rfl (key := 704) rfl (kc := 26) rfl s1.1 s1.2.2.2.2.2.2.2.2.1).trans ?_
  exact rg_virtual (pc := 17) (dd bX5_takeGoal dX5_takeGoal_17) rfl rfl (by decide) (kc := 26) rfl s1.1 (as := [(1, x0), (1, x0 + 23)]) rfl ⟨Nat.le_of_ble_eq_true rfl, Nat.le_of_ble_eq_true rfl, Nat.le_of_ble_eq_true rfl, Nat.le_of_ble_eq_true rfl⟩
theorem rX5_takeGoal_20 {x0 : Int} {y0 : Int} {y1 : Int} {y2 : Int} {h : vH} (s1 : shPlace h y2) (s2 : shPane h x0) : vrun mX5_takeGoal 20 [(1, x0)] [(0, y0), (0, y1), (1, y2)] h = if fX7_isAt h y2 y1 y0 = 0 then vret vrun mX5_takeGoal 46 [(1, x0)] [] (vcl mX7_set [(1, x0 + 23), (0, h 901 (x0 + 25) 0), (0, h 902 (x0 + 25) 0)] h) else some (.inl (some (0, 0)), h) := by
  refine (rg_virtual (pc := 20) (dd bX5_takeGoal dX5_takeGoal_20) rfl rfl (by decide) (kc := 28) rfl s1 (as := [(1, y2), (0, y1), (0, y0)]) rfl ⟨Nat.le_of_ble_eq_true rfl, Nat.le_of_ble_eq_true rfl, Nat.le_of_ble_eq_true rfl, Nat.le_of_ble_eq_true rfl⟩).trans ?_
  refine (vret_v (spX7_isAt s1)).trans ?_
  refine (rn_if_eq (t := 28) (pc := 23) (dd bX5_takeGoal dX5_takeGoal_23) rfl).trans (itec (fun c1 => ?_) (fun c1 => ?_))
  · refine (rn_aload_n (pc := 28) (dd bX5_takeGoal dX5_takeGoal_28) rfl).trans ?_
    refine (rg_gf (pc := 29) (dd bX5_takeGoal dX5_takeGoal_29) (ci := 6) (j := 4) rfl rfl (key := 704) rfl (kc := 26) rfl s2.1 s2.2.2.2.2.2.2.2.2.1).trans ?_
    refine (rn_aload_n (pc := 32) (dd bX5_takeGoal dX5_takeGoal_32) rfl).trans ?_
    refine (rg_gf (pc := 33) (dd bX5_takeGoal dX5_takeGoal_33) (ci := 6) (j := 6) rfl rfl (key := 706) rfl (kc := 26) rfl s2.1 s2.2.2.2.2.2.2.2.2.2.2.2.2.1).trans ?_
    refine (rg_gf (pc := 36) (dd bX5_takeGoal dX5_takeGoal_36) (ci := 8) (j := 1) rfl rfl (key := 901) rfl (kc := 28) rfl s2.2.2.2.2.2.2.2.2.2.2.2.2.2.1 rfl).trans ?_
    refine (rn_aload_n (pc := 39) (dd bX5_takeGoal dX5_takeGoal_39) rfl).trans ?_
    refine (rg_gf (pc := 40) (dd bX5_takeGoal dX5_takeGoal_40) (ci := 6) (j := 6) rfl rfl (key := 706) rfl (kc := 26) rfl s2.1 s2.2.2.2.2.2.2.2.2.2.2.2.2.1).trans ?_
    refine (rg_gf (pc := 43) (dd bX5_takeGoal dX5_takeGoal_43) (ci := 8) (j := 2) rfl rfl (key := 902) rfl (kc := 28) rfl s2.2.2.2.2.2.2.2.2.2.2.2.2.2.1 rfl).trans ?_
    exact rg_virtual (pc := 46) (dd bX5_takeGoal dX5_takeGoal_46) rfl rfl (by decide) (kc := 28) rfl s2.2.2.2.2.2.2.2.2.2.1 (as := [(1, x0 + 23), (0, h 901 (x0 + 25) 0), (0, h 902 (x0 + 25) 0)]) rfl ⟨Nat.le_of_ble_eq_true rfl, Nat.le_of_ble_eq_true rfl, Nat.le_of_ble_eq_true rfl, Nat.le_of_ble_eq_true rfl⟩
  · refine (rn_iconst (pc := 26) (dd bX5_takeGoal dX5_takeGoal_26) (by decide)).trans ?_
    exact rn_ireturn (pc := 27) (dd bX5_takeGoal dX5_takeGoal_27) (Or.inr ⟨rfl, (by decide)⟩)
theorem rX5_takeGoal_49 {x0 : Int} {h : vH} : vrun mX5_takeGoal 49 [(1, x0)] [] h = some (.inl (some (0, 1)), h) := by
  refine (rn_iconst (pc := 49) (dd bX5_takeGoal dX5_takeGoal_49) (by decide)).trans ?_
  exact rn_ireturn (pc := 50) (dd bX5_takeGoal dX5_takeGoal_50) (Or.inr ⟨rfl, (by decide)⟩)
theorem bX5_go : vmB mX5_go = cX5_go := rfl
theorem rX5_go_0 {x0 : Int} {x1 : Int} {x2 : Int} {h : vH} (s1 : shPane h x0) : vrun mX5_go 0 [(1, x0), (0, x1), (0, x2), (9, 0)] [] h = vret vrun mX5_go 9 [(1, x0), (0, x1), (0, x2), (9, 0)] [(1, x0 + 25)] (vcl mX5_takenLine [(1, x0), (1, x0 + 23)] h) := by
  refine (rn_aload_n (pc := 0) (dd bX5_go dX5_go_0) rfl).trans ?_
  refine (rg_gf (pc := 1) (dd bX5_go dX5_go_1) (ci := 6) (j := 6) rfl rfl (key := 706) rfl (kc := 26) rfl s1.1 s1.2.2.2.2.2.2.2.2.2.2.2.2.1).trans ?_
  refine (rn_aload_n (pc := 4) (dd bX5_go dX5_go_4) rfl).trans ?_
  refine (rn_aload_n (pc := 5) (dd bX5_go dX5_go_5) rfl).trans ?_
  refine (rg_gf (pc := 6) (dd bX5_go dX5_go_6) (ci := 6) (j := 4) rfl rfl (key := 704) rfl (kc := 26) rfl s1.1 s1.2.2.2.2.2.2.2.2.1).trans ?_
  exact rg_virtual (pc := 9) (dd bX5_go dX5_go_9) rfl rfl (by decide) (kc := 26) rfl s1.1 (as := [(1, x0), (1, x0 + 23)]) rfl ⟨Nat.le_of_ble_eq_true rfl, Nat.le_of_ble_eq_true rfl, Nat.le_of_ble_eq_true rfl, Nat.le_of_ble_eq_true rfl⟩
theorem rX5_go_12 {x0 : Int} {x1 : Int} {x2 : Int} {y0 : Int} {y1 : Int} {h : vH} (s1 : shPane h x0) : vrun mX5_go 12 [(1, x0), (0, x1), (0, x2), (9, 0)] [(0, y0), (1, y1)] h = vret vrun mX5_go 17 [(1, x0), (0, x1), (0, x2), (9, 0)] [(0, y0), (1, y1)] (vcl mX5_takenAt [(1, x0), (1, x0 + 23)] h) := by
  refine (rn_aload_n (pc := 12) (dd bX5_go dX5_go_12) rfl).trans ?_
  refine (rn_aload_n (pc := 13) (dd bX5_go dX5_go_13) rfl).trans ?_
  refine (rg_gf (pc := 14) (dd bX5_go dX5_go_14) (ci := 6) (j := 4) rfl rfl (key := 704) rfl (kc := 26) rfl s1.1 s1.2.2.2.2.2.2.2.2.1).trans ?_
  exact rg_virtual (pc := 17) (dd bX5_go dX5_go_17) rfl rfl (by decide) (kc := 26) rfl s1.1 (as := [(1, x0), (1, x0 + 23)]) rfl ⟨Nat.le_of_ble_eq_true rfl, Nat.le_of_ble_eq_true rfl, Nat.le_of_ble_eq_true rfl, Nat.le_of_ble_eq_true rfl⟩
theorem rX5_go_20 {x0 : Int} {x1 : Int} {x2 : Int} {y0 : Int} {y1 : Int} {y2 : Int} {h : vH} (s1 : shPlace h y2) : vrun mX5_go 20 [(1, x0), (0, x1), (0, x2), (9, 0)] [(0, y0), (0, y1), (1, y2)] h = vret vrun mX5_go 20 [(1, x0), (0, x1), (0, x2), (9, 0)] [] (vcl mX7_set [(1, y2), (0, y1), (0, y0)] h) := by
  exact rg_virtual (pc := 20) (dd bX5_go dX5_go_20) rfl rfl (by decide) (kc := 28) rfl s1 (as := [(1, y2), (0, y1), (0, y0)]) rfl ⟨Nat.le_of_ble_eq_true rfl, Nat.le_of_ble_eq_true rfl, Nat.le_of_ble_eq_true rfl, Nat.le_of_ble_eq_true rfl⟩
theorem rX5_go_23 {x0 : Int} {x1 : Int} {x2 : Int} {h : vH} (s1 : shPane h x0) : vrun mX5_go 23 [(1, x0), (0, x1), (0, x2), (9, 0)] [] h = if x1 = 0 then vret vrun mX5_go 28 [(1, x0), (0, x1), (0, x2), (9, 0)] [] (vcl mX5_aimLeft [(1, x0)] h) else if x1 = 1 then vret vrun mX5_go 40 [(1, x0), (0, x1), (0, x2), (9, 0)] [] (vcl mX5_aimRight [(1, x0)] h) else if x1 = 4 then vret vrun mX5_go 58 [(1, x0), (0, x1), (0, x2), (9, 0)] [] (vcl mX5_aimInRow [(1, x0), (0, x1)] h) else if x1 = 5 then vret vrun mX5_go 58 [(1, x0), (0, x1), (0, x2), (9, 0)] [] (vcl mX5_aimInRow [(1, x0), (0, x1)] h) else vret vrun mX5_go 68 [(1, x0), (0, x1), (0, x2), (9, 0)] [(1, x0)] (vcl mX5_rowOfMove [(1, x0), (0, x1), (0, x2)] h) := by
  refine (rn_iload_n (pc := 23) (dd bX5_go dX5_go_23) rfl).trans ?_
  refine (rg_if_ne (t := 34) (pc := 24) (dd bX5_go dX5_go_24) rfl).trans (itec (fun c1 => ?_) (fun c1 => ?_))
  · refine (rn_aload_n (pc := 27) (dd bX5_go dX5_go_27) rfl).trans ?_
    exact rg_virtual (pc := 28) (dd bX5_go dX5_go_28) rfl rfl (by decide) (kc := 26) rfl s1.1 (as := [(1, x0)]) rfl ⟨Nat.le_of_ble_eq_true rfl, Nat.le_of_ble_eq_true rfl, Nat.le_of_ble_eq_true rfl, Nat.le_of_ble_eq_true rfl⟩
  · refine (rn_iload_n (pc := 34) (dd bX5_go dX5_go_34) rfl).trans ?_
    refine (rn_iconst (pc := 35) (dd bX5_go dX5_go_35) (by decide)).trans ?_
    refine (rg_icmp_ne (t := 46) (pc := 36) (dd bX5_go dX5_go_36) rfl).trans (itec (fun c2 => ?_) (fun c2 => ?_))
    · refine (rn_aload_n (pc := 39) (dd bX5_go dX5_go_39) rfl).trans ?_
      exact rg_virtual (pc := 40) (dd bX5_go dX5_go_40) rfl rfl (by decide) (kc := 26) rfl s1.1 (as := [(1, x0)]) rfl ⟨Nat.le_of_ble_eq_true rfl, Nat.le_of_ble_eq_true rfl, Nat.le_of_ble_eq_true rfl, Nat.le_of_ble_eq_true rfl⟩
    · refine (rn_iload_n (pc := 46) (dd bX5_go dX5_go_46) rfl).trans ?_
      refine (rn_iconst (pc := 47) (dd bX5_go dX5_go_47) (by decide)).trans ?_
      refine (rn_icmp_eq (t := 56) (pc := 48) (dd bX5_go dX5_go_48) rfl).trans (itec (fun c3 => ?_) (fun c3 => ?_))
      · refine (rn_aload_n (pc := 56) (dd bX5_go dX5_go_56) rfl).trans ?_
        refine (rn_iload_n (pc := 57) (dd bX5_go dX5_go_57) rfl).trans ?_
        exact rg_virtual (pc := 58) (dd bX5_go dX5_go_58) rfl rfl (by decide) (kc := 26) rfl s1.1 (as := [(1, x0), (0, x1)]) rfl ⟨Nat.le_of_ble_eq_true rfl, Nat.le_of_ble_eq_true rfl, Nat.le_of_ble_eq_true rfl, Nat.le_of_ble_eq_true rfl⟩
      · refine (rn_iload_n (pc := 51) (dd bX5_go dX5_go_51) rfl).trans ?_
        refine (rn_iconst (pc := 52) (dd bX5_go dX5_go_52) (by decide)).trans ?_
        refine (rg_icmp_ne (t := 64) (pc := 53) (dd bX5_go dX5_go_53) rfl).trans (itec (fun c4 => ?_) (fun c4 => ?_))
        · refine (rn_aload_n (pc := 56) (dd bX5_go dX5_go_56) rfl).trans ?_
          refine (rn_iload_n (pc := 57) (dd bX5_go dX5_go_57) rfl).trans ?_
          exact rg_virtual (pc := 58) (dd bX5_go dX5_go_58) rfl rfl (by decide) (kc := 26) rfl s1.1 (as := [(1, x0), (0, x1)]) rfl ⟨Nat.le_of_ble_eq_true rfl, Nat.le_of_ble_eq_true rfl, Nat.le_of_ble_eq_true rfl, Nat.le_of_ble_eq_true rfl⟩
        · refine (rn_aload_n (pc := 64) (dd bX5_go dX5_go_64) rfl).trans ?_
          refine (rn_aload_n (pc := 65) (dd bX5_go dX5_go_65) rfl).trans ?_
          refine (rn_iload_n (pc := 66) (dd bX5_go dX5_go_66) rfl).trans ?_
          refine (rn_iload_n (pc := 67) (dd bX5_go dX5_go_67) rfl).trans ?_
          exact rg_virtual (pc := 68) (dd bX5_go dX5_go_68) rfl rfl (by decide) (kc := 26) rfl s1.1 (as := [(1, x0), (0, x1), (0, x2)]) rfl ⟨Nat.le_of_ble_eq_true rfl, Nat.le_of_ble_eq_true rfl, Nat.le_of_ble_eq_true rfl, Nat.le_of_ble_eq_true rfl⟩
theorem rX5_go_31 {x0 : Int} {x1 : Int} {x2 : Int} {h : vH} (s1 : shPane h x0) : vrun mX5_go 31 [(1, x0), (0, x1), (0, x2), (9, 0)] [] h = vret vrun mX5_go 75 [(1, x0), (0, x1), (0, x2), (9, 0)] [] (vcl mX5_takeGoal [(1, x0)] h) := by
  refine (rn_goto (t := 74) (pc := 31) (dd bX5_go dX5_go_31) rfl).trans ?_
  refine (rn_aload_n (pc := 74) (dd bX5_go dX5_go_74) rfl).trans ?_
  exact rg_virtual (pc := 75) (dd bX5_go dX5_go_75) rfl rfl (by decide) (kc := 26) rfl s1.1 (as := [(1, x0)]) rfl ⟨Nat.le_of_ble_eq_true rfl, Nat.le_of_ble_eq_true rfl, Nat.le_of_ble_eq_true rfl, Nat.le_of_ble_eq_true rfl⟩
theorem rX5_go_43 {x0 : Int} {x1 : Int} {x2 : Int} {h : vH} (s1 : shPane h x0) : vrun mX5_go 43 [(1, x0), (0, x1), (0, x2), (9, 0)] [] h = vret vrun mX5_go 75 [(1, x0), (0, x1), (0, x2), (9, 0)] [] (vcl mX5_takeGoal [(1, x0)] h) := by
  refine (rn_goto (t := 74) (pc := 43) (dd bX5_go dX5_go_43) rfl).trans ?_
  refine (rn_aload_n (pc := 74) (dd bX5_go dX5_go_74) rfl).trans ?_
  exact rg_virtual (pc := 75) (dd bX5_go dX5_go_75) rfl rfl (by decide) (kc := 26) rfl s1.1 (as := [(1, x0)]) rfl ⟨Nat.le_of_ble_eq_true rfl, Nat.le_of_ble_eq_true rfl, Nat.le_of_ble_eq_true rfl, Nat.le_of_ble_eq_true rfl⟩
theorem rX5_go_61 {x0 : Int} {x1 : Int} {x2 : Int} {h : vH} (s1 : shPane h x0) : vrun mX5_go 61 [(1, x0), (0, x1), (0, x2), (9, 0)] [] h = vret vrun mX5_go 75 [(1, x0), (0, x1), (0, x2), (9, 0)] [] (vcl mX5_takeGoal [(1, x0)] h) := by
  refine (rn_goto (t := 74) (pc := 61) (dd bX5_go dX5_go_61) rfl).trans ?_
  refine (rn_aload_n (pc := 74) (dd bX5_go dX5_go_74) rfl).trans ?_
  exact rg_virtual (pc := 75) (dd bX5_go dX5_go_75) rfl rfl (by decide) (kc := 26) rfl s1.1 (as := [(1, x0)]) rfl ⟨Nat.le_of_ble_eq_true rfl, Nat.le_of_ble_eq_true rfl, Nat.le_of_ble_eq_true rfl, Nat.le_of_ble_eq_true rfl⟩
theorem rX5_go_71 {x0 : Int} {x1 : Int} {x2 : Int} {y0 : Int} {y1 : Int} {h : vH} (s1 : shPane h y1) : vrun mX5_go 71 [(1, x0), (0, x1), (0, x2), (9, 0)] [(0, y0), (1, y1)] h = vret vrun mX5_go 71 [(1, x0), (0, x1), (0, x2), (9, 0)] [] (vcl mX5_aimAtRow [(1, y1), (0, y0)] h) := by
  exact rg_virtual (pc := 71) (dd bX5_go dX5_go_71) rfl rfl (by decide) (kc := 26) rfl s1.1 (as := [(1, y1), (0, y0)]) rfl ⟨Nat.le_of_ble_eq_true rfl, Nat.le_of_ble_eq_true rfl, Nat.le_of_ble_eq_true rfl, Nat.le_of_ble_eq_true rfl⟩
theorem rX5_go_78 {x0 : Int} {x1 : Int} {x2 : Int} {y0 : Int} {h : vH} (s1 : shPane h x0) (p2 : ¬ (x1 = 0) → ¬ (x1 = 1) → ¬ (x1 = 4) → ¬ (x1 = 5) → y0 = 0 ∨ y0 = 1) : vrun mX5_go 78 [(1, x0), (0, x1), (0, x2), (9, 0)] [(0, y0)] h = if x1 = 0 then vret vrun mX5_go 100 [(1, x0), (0, x1), (0, x2), (0, y0)] [(1, x0)] (vcl mX5_cursorColumn [(1, x0)] h) else if x1 = 1 then vret vrun mX5_go 100 [(1, x0), (0, x1), (0, x2), (0, y0)] [(1, x0)] (vcl mX5_cursorColumn [(1, x0)] h) else if x1 = 4 then vret vrun mX5_go 100 [(1, x0), (0, x1), (0, x2), (0, y0)] [(1, x0)] (vcl mX5_cursorColumn [(1, x0)] h) else if x1 = 5 then vret vrun mX5_go 100 [(1, x0), (0, x1), (0, x2), (0, y0)] [(1, x0)] (vcl mX5_cursorColumn [(1, x0)] h) else some (.inl (some (0, y0)), h) := by
  refine (rn_istore_n (pc := 78) (dd bX5_go dX5_go_78) (Nat.le_of_ble_eq_true rfl) rfl).trans ?_
  refine (rn_iload_n (pc := 79) (dd bX5_go dX5_go_79) rfl).trans ?_
  refine (rn_if_eq (t := 98) (pc := 80) (dd bX5_go dX5_go_80) rfl).trans (itec (fun c1 => ?_) (fun c1 => ?_))
  · refine (rn_aload_n (pc := 98) (dd bX5_go dX5_go_98) rfl).trans ?_
    refine (rn_aload_n (pc := 99) (dd bX5_go dX5_go_99) rfl).trans ?_
    exact rg_virtual (pc := 100) (dd bX5_go dX5_go_100) rfl rfl (by decide) (kc := 26) rfl s1.1 (as := [(1, x0)]) rfl ⟨Nat.le_of_ble_eq_true rfl, Nat.le_of_ble_eq_true rfl, Nat.le_of_ble_eq_true rfl, Nat.le_of_ble_eq_true rfl⟩
  · refine (rn_iload_n (pc := 83) (dd bX5_go dX5_go_83) rfl).trans ?_
    refine (rn_iconst (pc := 84) (dd bX5_go dX5_go_84) (by decide)).trans ?_
    refine (rn_icmp_eq (t := 98) (pc := 85) (dd bX5_go dX5_go_85) rfl).trans (itec (fun c2 => ?_) (fun c2 => ?_))
    · refine (rn_aload_n (pc := 98) (dd bX5_go dX5_go_98) rfl).trans ?_
      refine (rn_aload_n (pc := 99) (dd bX5_go dX5_go_99) rfl).trans ?_
      exact rg_virtual (pc := 100) (dd bX5_go dX5_go_100) rfl rfl (by decide) (kc := 26) rfl s1.1 (as := [(1, x0)]) rfl ⟨Nat.le_of_ble_eq_true rfl, Nat.le_of_ble_eq_true rfl, Nat.le_of_ble_eq_true rfl, Nat.le_of_ble_eq_true rfl⟩
    · refine (rn_iload_n (pc := 88) (dd bX5_go dX5_go_88) rfl).trans ?_
      refine (rn_iconst (pc := 89) (dd bX5_go dX5_go_89) (by decide)).trans ?_
      refine (rn_icmp_eq (t := 98) (pc := 90) (dd bX5_go dX5_go_90) rfl).trans (itec (fun c3 => ?_) (fun c3 => ?_))
      · refine (rn_aload_n (pc := 98) (dd bX5_go dX5_go_98) rfl).trans ?_
        refine (rn_aload_n (pc := 99) (dd bX5_go dX5_go_99) rfl).trans ?_
        exact rg_virtual (pc := 100) (dd bX5_go dX5_go_100) rfl rfl (by decide) (kc := 26) rfl s1.1 (as := [(1, x0)]) rfl ⟨Nat.le_of_ble_eq_true rfl, Nat.le_of_ble_eq_true rfl, Nat.le_of_ble_eq_true rfl, Nat.le_of_ble_eq_true rfl⟩
      · refine (rn_iload_n (pc := 93) (dd bX5_go dX5_go_93) rfl).trans ?_
        refine (rn_iconst (pc := 94) (dd bX5_go dX5_go_94) (by decide)).trans ?_
        refine (rg_icmp_ne (t := 106) (pc := 95) (dd bX5_go dX5_go_95) rfl).trans (itec (fun c4 => ?_) (fun c4 => ?_))
        · refine (rn_aload_n (pc := 98) (dd bX5_go dX5_go_98) rfl).trans ?_
          refine (rn_aload_n (pc := 99) (dd bX5_go dX5_go_99) rfl).trans ?_
          exact rg_virtual (pc := 100) (dd bX5_go dX5_go_100) rfl rfl (by decide) (kc := 26) rfl s1.1 (as := [(1, x0)]) rfl ⟨Nat.le_of_ble_eq_true rfl, Nat.le_of_ble_eq_true rfl, Nat.le_of_ble_eq_true rfl, Nat.le_of_ble_eq_true rfl⟩
        · refine (rn_iload_n (pc := 106) (dd bX5_go dX5_go_106) rfl).trans ?_
          exact rn_ireturn (pc := 107) (dd bX5_go dX5_go_107) (Or.inr ⟨rfl, (p2 c1 c2 c3 c4)⟩)
theorem rX5_go_74 {x0 : Int} {x1 : Int} {x2 : Int} {h : vH} (s1 : shPane h x0) : vrun mX5_go 74 [(1, x0), (0, x1), (0, x2), (9, 0)] [] h = vret vrun mX5_go 75 [(1, x0), (0, x1), (0, x2), (9, 0)] [] (vcl mX5_takeGoal [(1, x0)] h) := by
  refine (rn_aload_n (pc := 74) (dd bX5_go dX5_go_74) rfl).trans ?_
  exact rg_virtual (pc := 75) (dd bX5_go dX5_go_75) rfl rfl (by decide) (kc := 26) rfl s1.1 (as := [(1, x0)]) rfl ⟨Nat.le_of_ble_eq_true rfl, Nat.le_of_ble_eq_true rfl, Nat.le_of_ble_eq_true rfl, Nat.le_of_ble_eq_true rfl⟩
theorem rX5_go_103 {x0 : Int} {x1 : Int} {x2 : Int} {x3 : Int} {y0 : Int} {y1 : Int} {h : vH} (s1 : shPane h y1) (p2 : x3 = 0 ∨ x3 = 1) : vrun mX5_go 103 [(1, x0), (0, x1), (0, x2), (0, x3)] [(0, y0), (1, y1)] h = some (.inl (some (0, x3)), vup h 707 y1 0 y0) := by
  refine (rg_pf (pc := 103) (dd bX5_go dX5_go_103) (ci := 6) (j := 7) rfl (key := 707) rfl (kc := 26) rfl s1.1 rfl (by intro z; cases z) (by decide)).trans ?_
  refine (rn_iload_n (pc := 106) (dd bX5_go dX5_go_106) rfl).trans ?_
  exact rn_ireturn (pc := 107) (dd bX5_go dX5_go_107) (Or.inr ⟨rfl, p2⟩)
theorem bX5_takePicture : vmB mX5_takePicture = cX5_takePicture := rfl
theorem rX5_takePicture_0 {x0 : Int} {x1 : Int} {x2 : Int} {x3 : Int} {h : vH} (s1 : shPicture h x1) : vrun mX5_takePicture 0 [(1, x0), (1, x1), (0, x2), (0, x3), (9, 0), (9, 0)] [] h = vret vrun mX5_takePicture 1 [(1, x0), (1, x1), (0, x2), (0, x3), (9, 0), (9, 0)] [] (vcl mX6_start [(1, x1)] h) := by
  refine (rn_aload_n (pc := 0) (dd bX5_takePicture dX5_takePicture_0) rfl).trans ?_
  exact rg_virtual (pc := 1) (dd bX5_takePicture dX5_takePicture_1) rfl rfl (by decide) (kc := 27) rfl s1.1 (as := [(1, x1)]) rfl ⟨Nat.le_of_ble_eq_true rfl, Nat.le_of_ble_eq_true rfl, Nat.le_of_ble_eq_true rfl, Nat.le_of_ble_eq_true rfl⟩
theorem rX5_takePicture_4 {x0 : Int} {x1 : Int} {x2 : Int} {x3 : Int} {h : vH} : vrun mX5_takePicture 4 [(1, x0), (1, x1), (0, x2), (0, x3), (9, 0), (9, 0)] [] h = vrun mX5_takePicture 7 [(1, x0), (1, x1), (0, x2), (0, x3), (0, x2), (9, 0)] [] h := by
  refine (rn_iload_n (pc := 4) (dd bX5_takePicture dX5_takePicture_4) rfl).trans ?_
  refine (rn_istore (pc := 5) (dd bX5_takePicture dX5_takePicture_5) (Nat.le_of_ble_eq_true rfl) rfl).trans ?_
  rfl
theorem rX5_takePicture_7 {x0 : Int} {x1 : Int} {x2 : Int} {x3 : Int} {x4 : Int} {v5 : vv} {h : vH} (p1 : (-2147483648) ≤ x2 + x3) (p2 : x2 + x3 < 2147483648) (s3 : shPane h x0) (s4 : shPicture h x1) : vrun mX5_takePicture 7 [(1, x0), (1, x1), (0, x2), (0, x3), (0, x4), v5] [] h = if x2 + x3 ≤ x4 then some (.inl none, h) else if h 713 x0 0 ≤ x4 then vret vrun mX5_takePicture 65 [(1, x0), (1, x1), (0, x2), (0, x3), (0, x4), v5] [] (vcl mX6_addNothing [(1, x1)] h) else vret vrun mX5_takePicture 27 [(1, x0), (1, x1), (0, x2), (0, x3), (0, x4), v5] [] (vcl mX5_lineOfRow [(1, x0), (0, x4)] h) := by
  refine (rn_iload (pc := 7) (dd bX5_takePicture dX5_takePicture_7) rfl).trans ?_
  refine (rn_iload_n (pc := 9) (dd bX5_takePicture dX5_takePicture_9) rfl).trans ?_
  refine (rn_iload_n (pc := 10) (dd bX5_takePicture dX5_takePicture_10) rfl).trans ?_
  refine (rg_iadd (pc := 11) (dd bX5_takePicture dX5_takePicture_11) p1 p2).trans ?_
  refine (rn_icmp_ge (t := 74) (pc := 12) (dd bX5_takePicture dX5_takePicture_12) rfl).trans (itec (fun c1 => ?_) (fun c1 => ?_))
  · exact rn_return (pc := 74) (dd bX5_takePicture dX5_takePicture_74) rfl
  · refine (rn_iload (pc := 15) (dd bX5_takePicture dX5_takePicture_15) rfl).trans ?_
    refine (rn_aload_n (pc := 17) (dd bX5_takePicture dX5_takePicture_17) rfl).trans ?_
    refine (rg_gf (pc := 18) (dd bX5_takePicture dX5_takePicture_18) (ci := 6) (j := 13) rfl rfl (key := 713) rfl (kc := 26) rfl s3.1 rfl).trans ?_
    refine (rn_icmp_ge (t := 64) (pc := 21) (dd bX5_takePicture dX5_takePicture_21) rfl).trans (itec (fun c2 => ?_) (fun c2 => ?_))
    · refine (rn_aload_n (pc := 64) (dd bX5_takePicture dX5_takePicture_64) rfl).trans ?_
      exact rg_virtual (pc := 65) (dd bX5_takePicture dX5_takePicture_65) rfl rfl (by decide) (kc := 27) rfl s4.1 (as := [(1, x1)]) rfl ⟨Nat.le_of_ble_eq_true rfl, Nat.le_of_ble_eq_true rfl, Nat.le_of_ble_eq_true rfl, Nat.le_of_ble_eq_true rfl⟩
    · refine (rn_aload_n (pc := 24) (dd bX5_takePicture dX5_takePicture_24) rfl).trans ?_
      refine (rn_iload (pc := 25) (dd bX5_takePicture dX5_takePicture_25) rfl).trans ?_
      exact rg_virtual (pc := 27) (dd bX5_takePicture dX5_takePicture_27) rfl rfl (by decide) (kc := 26) rfl s3.1 (as := [(1, x0), (0, x4)]) rfl ⟨Nat.le_of_ble_eq_true rfl, Nat.le_of_ble_eq_true rfl, Nat.le_of_ble_eq_true rfl, Nat.le_of_ble_eq_true rfl⟩
theorem rX5_takePicture_68 {x0 : Int} {x1 : Int} {x2 : Int} {x3 : Int} {x4 : Int} {v5 : vv} {h : vH} (p1 : (-2147483648) ≤ x4 + 1) (p2 : x4 + 1 < 2147483648) : vrun mX5_takePicture 68 [(1, x0), (1, x1), (0, x2), (0, x3), (0, x4), v5] [] h = vrun mX5_takePicture 7 [(1, x0), (1, x1), (0, x2), (0, x3), (0, x4 + 1), v5] [] h := by
  refine (rg_iinc (pc := 68) (dd bX5_takePicture dX5_takePicture_68) rfl (Nat.le_of_ble_eq_true rfl) p1 p2 rfl).trans ?_
  refine (rn_goto (t := 7) (pc := 71) (dd bX5_takePicture dX5_takePicture_71) rfl).trans ?_
  rfl
theorem rX5_takePicture_30 {x0 : Int} {x1 : Int} {x2 : Int} {x3 : Int} {x4 : Int} {v5 : vv} {y0 : Int} {h : vH} (s1 : shPane h x0) : vrun mX5_takePicture 30 [(1, x0), (1, x1), (0, x2), (0, x3), (0, x4), v5] [(0, y0)] h = vret vrun mX5_takePicture 35 [(1, x0), (1, x1), (0, x2), (0, x3), (0, x4), (0, y0)] [] (vcl mX5_measured [(1, x0), (0, y0)] h) := by
  refine (rn_istore (pc := 30) (dd bX5_takePicture dX5_takePicture_30) (Nat.le_of_ble_eq_true rfl) rfl).trans ?_
  refine (rn_aload_n (pc := 32) (dd bX5_takePicture dX5_takePicture_32) rfl).trans ?_
  refine (rn_iload (pc := 33) (dd bX5_takePicture dX5_takePicture_33) rfl).trans ?_
  exact rg_virtual (pc := 35) (dd bX5_takePicture dX5_takePicture_35) rfl rfl (by decide) (kc := 26) rfl s1.1 (as := [(1, x0), (0, y0)]) rfl ⟨Nat.le_of_ble_eq_true rfl, Nat.le_of_ble_eq_true rfl, Nat.le_of_ble_eq_true rfl, Nat.le_of_ble_eq_true rfl⟩
theorem rX5_takePicture_38 {x0 : Int} {x1 : Int} {x2 : Int} {x3 : Int} {x4 : Int} {x5 : Int} {y0 : Int} {h : vH} (s1 : shPane h x0) : vrun mX5_takePicture 38 [(1, x0), (1, x1), (0, x2), (0, x3), (0, x4), (0, x5)] [(1, y0)] h = vret vrun mX5_takePicture 41 [(1, x0), (1, x1), (0, x2), (0, x3), (0, x4), (0, x5)] [(1, x1)] (vcl mX5_turned [(1, x0)] h) := by
  refine (rn_pop (pc := 38) (dd bX5_takePicture dX5_takePicture_38) (by decide)).trans ?_
  refine (rn_aload_n (pc := 39) (dd bX5_takePicture dX5_takePicture_39) rfl).trans ?_
  refine (rn_aload_n (pc := 40) (dd bX5_takePicture dX5_takePicture_40) rfl).trans ?_
  exact rg_virtual (pc := 41) (dd bX5_takePicture dX5_takePicture_41) rfl rfl (by decide) (kc := 26) rfl s1.1 (as := [(1, x0)]) rfl ⟨Nat.le_of_ble_eq_true rfl, Nat.le_of_ble_eq_true rfl, Nat.le_of_ble_eq_true rfl, Nat.le_of_ble_eq_true rfl⟩
theorem rX5_takePicture_44 {x0 : Int} {x1 : Int} {x2 : Int} {x3 : Int} {x4 : Int} {x5 : Int} {y0 : Int} {y1 : Int} {h : vH} (s1 : shPane h x0) (p2 : (-2147483648) ≤ x4 - fX5_firstRow h x0 x5) (p3 : x4 - fX5_firstRow h x0 x5 < 2147483648) : vrun mX5_takePicture 44 [(1, x0), (1, x1), (0, x2), (0, x3), (0, x4), (0, x5)] [(1, y0), (1, y1)] h = vret vrun mX5_takePicture 55 [(1, x0), (1, x1), (0, x2), (0, x3), (0, x4), (0, x5)] [(0, x4 - fX5_firstRow h x0 x5), (1, y0), (1, y1)] (vcl mX5_marksOfRow [(1, x0), (0, x4)] h) := by
  refine (rn_aload_n (pc := 44) (dd bX5_takePicture dX5_takePicture_44) rfl).trans ?_
  refine (rn_iload (pc := 45) (dd bX5_takePicture dX5_takePicture_45) rfl).trans ?_
  refine (rn_iload (pc := 47) (dd bX5_takePicture dX5_takePicture_47) rfl).trans ?_
  refine (rg_virtual (pc := 49) (dd bX5_takePicture dX5_takePicture_49) rfl rfl (by decide) (kc := 26) rfl s1.1 (as := [(1, x0), (0, x4), (0, x5)]) rfl ⟨Nat.le_of_ble_eq_true rfl, Nat.le_of_ble_eq_true rfl, Nat.le_of_ble_eq_true rfl, Nat.le_of_ble_eq_true rfl⟩).trans ?_
  refine (vret_v (spX5_rowInLine s1 p2 p3)).trans ?_
  refine (rn_aload_n (pc := 52) (dd bX5_takePicture dX5_takePicture_52) rfl).trans ?_
  refine (rn_iload (pc := 53) (dd bX5_takePicture dX5_takePicture_53) rfl).trans ?_
  exact rg_virtual (pc := 55) (dd bX5_takePicture dX5_takePicture_55) rfl rfl (by decide) (kc := 26) rfl s1.1 (as := [(1, x0), (0, x4)]) rfl ⟨Nat.le_of_ble_eq_true rfl, Nat.le_of_ble_eq_true rfl, Nat.le_of_ble_eq_true rfl, Nat.le_of_ble_eq_true rfl⟩
theorem rX5_takePicture_58 {x0 : Int} {x1 : Int} {x2 : Int} {x3 : Int} {x4 : Int} {x5 : Int} {y0 : Int} {y1 : Int} {y2 : Int} {y3 : Int} {h : vH} (s1 : shPicture h y3) : vrun mX5_takePicture 58 [(1, x0), (1, x1), (0, x2), (0, x3), (0, x4), (0, x5)] [(0, y0), (0, y1), (1, y2), (1, y3)] h = vret vrun mX5_takePicture 58 [(1, x0), (1, x1), (0, x2), (0, x3), (0, x4), (0, x5)] [] (vcl mX6_addRow [(1, y3), (1, y2), (0, y1), (0, y0)] h) := by
  exact rg_virtual (pc := 58) (dd bX5_takePicture dX5_takePicture_58) rfl rfl (by decide) (kc := 27) rfl s1.1 (as := [(1, y3), (1, y2), (0, y1), (0, y0)]) rfl ⟨Nat.le_of_ble_eq_true rfl, Nat.le_of_ble_eq_true rfl, Nat.le_of_ble_eq_true rfl, Nat.le_of_ble_eq_true rfl⟩
theorem rX5_takePicture_61 {x0 : Int} {x1 : Int} {x2 : Int} {x3 : Int} {x4 : Int} {x5 : Int} {h : vH} (p1 : (-2147483648) ≤ x4 + 1) (p2 : x4 + 1 < 2147483648) : vrun mX5_takePicture 61 [(1, x0), (1, x1), (0, x2), (0, x3), (0, x4), (0, x5)] [] h = vrun mX5_takePicture 7 [(1, x0), (1, x1), (0, x2), (0, x3), (0, x4 + 1), (0, x5)] [] h := by
  refine (rn_goto (t := 68) (pc := 61) (dd bX5_takePicture dX5_takePicture_61) rfl).trans ?_
  refine (rg_iinc (pc := 68) (dd bX5_takePicture dX5_takePicture_68) rfl (Nat.le_of_ble_eq_true rfl) p1 p2 rfl).trans ?_
  refine (rn_goto (t := 7) (pc := 71) (dd bX5_takePicture dX5_takePicture_71) rfl).trans ?_
  rfl
theorem bX5_redraw : vmB mX5_redraw = cX5_redraw := rfl
theorem rX5_redraw_0 {x0 : Int} {x1 : Int} {h : vH} (s1 : shPane h x0) : vrun mX5_redraw 0 [(1, x0), (0, x1), (9, 0), (9, 0), (9, 0), (9, 0), (9, 0)] [] h = vret vrun mX5_redraw 8 [(1, x0), (0, x1), (1, h 718 x0 0), (9, 0), (9, 0), (9, 0), (9, 0)] [(1, h 718 x0 0), (1, x0)] (vcl mX5_topRow [(1, x0)] h) := by
  refine (rn_aload_n (pc := 0) (dd bX5_redraw dX5_redraw_0) rfl).trans ?_
  refine (rg_gf (pc := 1) (dd bX5_redraw dX5_redraw_1) (ci := 6) (j := 18) rfl rfl (key := 718) rfl (kc := 26) rfl s1.1 rfl).trans ?_
  refine (rn_astore_n (pc := 4) (dd bX5_redraw dX5_redraw_4) (Nat.le_of_ble_eq_true rfl) rfl).trans ?_
  refine (rn_aload_n (pc := 5) (dd bX5_redraw dX5_redraw_5) rfl).trans ?_
  refine (rn_aload_n (pc := 6) (dd bX5_redraw dX5_redraw_6) rfl).trans ?_
  refine (rn_aload_n (pc := 7) (dd bX5_redraw dX5_redraw_7) rfl).trans ?_
  exact rg_virtual (pc := 8) (dd bX5_redraw dX5_redraw_8) rfl rfl (by decide) (kc := 26) rfl s1.1 (as := [(1, x0)]) rfl ⟨Nat.le_of_ble_eq_true rfl, Nat.le_of_ble_eq_true rfl, Nat.le_of_ble_eq_true rfl, Nat.le_of_ble_eq_true rfl⟩
theorem rX5_redraw_11 {x0 : Int} {x1 : Int} {x2 : Int} {y0 : Int} {y1 : Int} {y2 : Int} {h : vH} (s1 : shPane h y2) : vrun mX5_redraw 11 [(1, x0), (0, x1), (1, x2), (9, 0), (9, 0), (9, 0), (9, 0)] [(0, y0), (1, y1), (1, y2)] h = vret vrun mX5_redraw 12 [(1, x0), (0, x1), (1, x2), (9, 0), (9, 0), (9, 0), (9, 0)] [] (vcl mX5_takePicture [(1, y2), (1, y1), (0, y0), (0, x1)] h) := by
  refine (rn_iload_n (pc := 11) (dd bX5_redraw dX5_redraw_11) rfl).trans ?_
  exact rg_virtual (pc := 12) (dd bX5_redraw dX5_redraw_12) rfl rfl (by decide) (kc := 26) rfl s1.1 (as := [(1, y2), (1, y1), (0, y0), (0, x1)]) rfl ⟨Nat.le_of_ble_eq_true rfl, Nat.le_of_ble_eq_true rfl, Nat.le_of_ble_eq_true rfl, Nat.le_of_ble_eq_true rfl⟩
theorem rX5_redraw_15 {x0 : Int} {x1 : Int} {x2 : Int} {h : vH} (s1 : shPane h x0) (s2 : shPicture h x2) : vrun mX5_redraw 15 [(1, x0), (0, x1), (1, x2), (9, 0), (9, 0), (9, 0), (9, 0)] [] h = vret vrun mX5_redraw 26 [(1, x0), (0, x1), (1, x2), (9, 0), (9, 0), (9, 0), (9, 0)] [] (vcl mX6_differentRows [(1, x2), (1, h 717 x0 0), (0, 0)] (vup h 719 x0 0 0)) := by
  refine (rn_aload_n (pc := 15) (dd bX5_redraw dX5_redraw_15) rfl).trans ?_
  refine (rn_iconst (pc := 16) (dd bX5_redraw dX5_redraw_16) (by decide)).trans ?_
  refine (rg_pf (pc := 17) (dd bX5_redraw dX5_redraw_17) (ci := 6) (j := 19) rfl (key := 719) rfl (kc := 26) rfl s1.1 rfl (by intro z; cases z) (by decide)).trans ?_
  refine (rn_aload_n (pc := 20) (dd bX5_redraw dX5_redraw_20) rfl).trans ?_
  refine (rn_aload_n (pc := 21) (dd bX5_redraw dX5_redraw_21) rfl).trans ?_
  refine (rg_gf (pc := 22) (dd bX5_redraw dX5_redraw_22) (ci := 6) (j := 17) rfl rfl (key := 717) rfl (kc := 26) rfl ((vup_k (by decide)).trans s1.1) ((vup_k (by decide)).trans rfl)).trans ?_
  refine (rn_iconst (pc := 25) (dd bX5_redraw dX5_redraw_25) (by decide)).trans ?_
  exact rg_virtual (pc := 26) (dd bX5_redraw dX5_redraw_26) rfl rfl (by decide) (kc := 27) rfl ((vup_k (by decide)).trans s2.1) (as := [(1, x2), (1, h 717 x0 0), (0, 0)]) rfl ⟨Nat.le_of_ble_eq_true rfl, Nat.le_of_ble_eq_true rfl, Nat.le_of_ble_eq_true rfl, Nat.le_of_ble_eq_true rfl⟩
theorem rX5_redraw_29 {x0 : Int} {x1 : Int} {x2 : Int} {y0 : Int} {h : vH} : vrun mX5_redraw 29 [(1, x0), (0, x1), (1, x2), (9, 0), (9, 0), (9, 0), (9, 0)] [(0, y0)] h = vrun mX5_redraw 33 [(1, x0), (0, x1), (1, x2), (0, y0), (0, 1), (9, 0), (9, 0)] [] h := by
  refine (rn_istore_n (pc := 29) (dd bX5_redraw dX5_redraw_29) (Nat.le_of_ble_eq_true rfl) rfl).trans ?_
  refine (rn_iconst (pc := 30) (dd bX5_redraw dX5_redraw_30) (by decide)).trans ?_
  refine (rn_istore (pc := 31) (dd bX5_redraw dX5_redraw_31) (Nat.le_of_ble_eq_true rfl) rfl).trans ?_
  rfl
theorem rX5_redraw_33 {x0 : Int} {x1 : Int} {x2 : Int} {x3 : Int} {x4 : Int} {v5 : vv} {v6 : vv} {h : vH} (s1 : shPane h x0) (s2 : shPicture h x2) : vrun mX5_redraw 33 [(1, x0), (0, x1), (1, x2), (0, x3), (0, x4), v5, v6] [] h = if 24 ≤ x4 then some (.inl (some (0, x3)), vup (vup h 718 x0 0 (h 717 x0 0)) 717 x0 0 x2) else vret vrun mX5_redraw 47 [(1, x0), (0, x1), (1, x2), (0, x3), (0, x4), v5, v6] [] (vcl mX6_differentRows [(1, x2), (1, h 717 x0 0), (0, x4)] h) := by
  refine (rn_iload (pc := 33) (dd bX5_redraw dX5_redraw_33) rfl).trans ?_
  refine (rn_bipush (pc := 35) (dd bX5_redraw dX5_redraw_35) (by decide)).trans ?_
  refine (rn_icmp_ge (t := 102) (pc := 37) (dd bX5_redraw dX5_redraw_37) rfl).trans (itec (fun c1 => ?_) (fun c1 => ?_))
  · refine (rn_aload_n (pc := 102) (dd bX5_redraw dX5_redraw_102) rfl).trans ?_
    refine (rn_aload_n (pc := 103) (dd bX5_redraw dX5_redraw_103) rfl).trans ?_
    refine (rg_gf (pc := 104) (dd bX5_redraw dX5_redraw_104) (ci := 6) (j := 17) rfl rfl (key := 717) rfl (kc := 26) rfl s1.1 rfl).trans ?_
    refine (rg_pf (pc := 107) (dd bX5_redraw dX5_redraw_107) (ci := 6) (j := 18) rfl (key := 718) rfl (kc := 26) rfl s1.1 rfl (by intro z; cases z) (by decide)).trans ?_
    refine (rn_aload_n (pc := 110) (dd bX5_redraw dX5_redraw_110) rfl).trans ?_
    refine (rn_aload_n (pc := 111) (dd bX5_redraw dX5_redraw_111) rfl).trans ?_
    refine (rg_pf (pc := 112) (dd bX5_redraw dX5_redraw_112) (ci := 6) (j := 17) rfl (key := 717) rfl (kc := 26) rfl ((vup_k (by decide)).trans s1.1) rfl (by intro z; cases z) (by decide)).trans ?_
    refine (rn_iload_n (pc := 115) (dd bX5_redraw dX5_redraw_115) rfl).trans ?_
    exact rn_ireturn (pc := 116) (dd bX5_redraw dX5_redraw_116) (Or.inl rfl)
  · refine (rn_aload_n (pc := 40) (dd bX5_redraw dX5_redraw_40) rfl).trans ?_
    refine (rn_aload_n (pc := 41) (dd bX5_redraw dX5_redraw_41) rfl).trans ?_
    refine (rg_gf (pc := 42) (dd bX5_redraw dX5_redraw_42) (ci := 6) (j := 17) rfl rfl (key := 717) rfl (kc := 26) rfl s1.1 rfl).trans ?_
    refine (rn_iload (pc := 45) (dd bX5_redraw dX5_redraw_45) rfl).trans ?_
    exact rg_virtual (pc := 47) (dd bX5_redraw dX5_redraw_47) rfl rfl (by decide) (kc := 27) rfl s2.1 (as := [(1, x2), (1, h 717 x0 0), (0, x4)]) rfl ⟨Nat.le_of_ble_eq_true rfl, Nat.le_of_ble_eq_true rfl, Nat.le_of_ble_eq_true rfl, Nat.le_of_ble_eq_true rfl⟩
theorem rX5_redraw_50 {x0 : Int} {x1 : Int} {x2 : Int} {x3 : Int} {x4 : Int} {v5 : vv} {v6 : vv} {y0 : Int} {h : vH} (s1 : shPane h x0) (p2 : (-2147483648) < x4) (p3 : x4 ≤ 2147483647) (s4 : shPicture h x2) : vrun mX5_redraw 50 [(1, x0), (0, x1), (1, x2), (0, x3), (0, x4), v5, v6] [(0, y0)] h = vret vrun mX5_redraw 75 [(1, x0), (0, x1), (1, x2), (0, (if x3 ≤ y0 then x3 else y0)), (0, x4), (0, y0), v6] [] (vcl mX6_differentRows [(1, x2), (1, h 717 x0 0), (0, -x4)] (if x3 ≤ y0 then h else vup h 719 x0 0 x4)) := by
  refine (rn_istore (pc := 50) (dd bX5_redraw dX5_redraw_50) (Nat.le_of_ble_eq_true rfl) rfl).trans ?_
  refine (rn_iload (pc := 52) (dd bX5_redraw dX5_redraw_52) rfl).trans ?_
  refine (rn_iload_n (pc := 54) (dd bX5_redraw dX5_redraw_54) rfl).trans ?_
  have e1 : vrun mX5_redraw 55 [(1, x0), (0, x1), (1, x2), (0, x3), (0, x4), (0, y0), v6] [(0, x3), (0, y0)] h = vrun mX5_redraw 67 [(1, x0), (0, x1), (1, x2), (0, (if x3 ≤ y0 then x3 else y0)), (0, x4), (0, y0), v6] [] (if x3 ≤ y0 then h else vup h 719 x0 0 x4) := by
    refine (rn_icmp_ge (t := 67) (pc := 55) (dd bX5_redraw dX5_redraw_55) rfl).trans ?_
    by_cases c1 : x3 ≤ y0
    · refine (if_pos c1).trans ?_
      refine Eq.trans (b := vrun mX5_redraw 67 [(1, x0), (0, x1), (1, x2), (0, x3), (0, x4), (0, y0), v6] [] h) rfl ?_
      simp only [if_pos c1]
    · refine (if_neg c1).trans ?_
      refine (rn_iload (pc := 58) (dd bX5_redraw dX5_redraw_58) rfl).trans ?_
      refine (rn_istore_n (pc := 60) (dd bX5_redraw dX5_redraw_60) (Nat.le_of_ble_eq_true rfl) rfl).trans ?_
      refine (rn_aload_n (pc := 61) (dd bX5_redraw dX5_redraw_61) rfl).trans ?_
      refine (rn_iload (pc := 62) (dd bX5_redraw dX5_redraw_62) rfl).trans ?_
      refine (rg_pf (pc := 64) (dd bX5_redraw dX5_redraw_64) (ci := 6) (j := 19) rfl (key := 719) rfl (kc := 26) rfl s1.1 rfl (by intro z; cases z) (by decide)).trans ?_
      refine Eq.trans (b := vrun mX5_redraw 67 [(1, x0), (0, x1), (1, x2), (0, y0), (0, x4), (0, y0), v6] [] (vup h 719 x0 0 x4)) rfl ?_
      simp only [if_neg c1]
  refine e1.trans ?_
  refine (rn_aload_n (pc := 67) (dd bX5_redraw dX5_redraw_67) rfl).trans ?_
  refine (rn_aload_n (pc := 68) (dd bX5_redraw dX5_redraw_68) rfl).trans ?_
  refine (rg_gf (pc := 69) (dd bX5_redraw dX5_redraw_69) (ci := 6) (j := 17) rfl rfl (key := 717) rfl (kc := 26) rfl (ite_rd s1.1 ((vup_k (by decide)).trans s1.1)) (ite_rd rfl ((vup_k (by decide)).trans rfl))).trans ?_
  refine (rn_iload (pc := 72) (dd bX5_redraw dX5_redraw_72) rfl).trans ?_
  refine (rg_ineg (pc := 74) (dd bX5_redraw dX5_redraw_74) p2 p3).trans ?_
  exact rg_virtual (pc := 75) (dd bX5_redraw dX5_redraw_75) rfl rfl (by decide) (kc := 27) rfl (ite_rd s4.1 ((vup_k (by decide)).trans s4.1)) (as := [(1, x2), (1, h 717 x0 0), (0, -x4)]) rfl ⟨Nat.le_of_ble_eq_true rfl, Nat.le_of_ble_eq_true rfl, Nat.le_of_ble_eq_true rfl, Nat.le_of_ble_eq_true rfl⟩
theorem rX5_redraw_78 {x0 : Int} {x1 : Int} {x2 : Int} {x3 : Int} {x4 : Int} {x5 : Int} {v6 : vv} {y0 : Int} {h : vH} (p1 : ¬ (x3 ≤ y0) → (-2147483648) < x4) (p2 : ¬ (x3 ≤ y0) → x4 ≤ 2147483647) (s3 : shPane h x0) (p4 : (-2147483648) ≤ x4 + 1) (p5 : x4 + 1 < 2147483648) : vrun mX5_redraw 78 [(1, x0), (0, x1), (1, x2), (0, x3), (0, x4), (0, x5), v6] [(0, y0)] h = vrun mX5_redraw 33 [(1, x0), (0, x1), (1, x2), (0, (if x3 ≤ y0 then x3 else y0)), (0, x4 + 1), (0, x5), (0, y0)] [] (if x3 ≤ y0 then h else vup h 719 x0 0 (-x4)) := by
  refine (rn_istore (pc := 78) (dd bX5_redraw dX5_redraw_78) (Nat.le_of_ble_eq_true rfl) rfl).trans ?_
  refine (rn_iload (pc := 80) (dd bX5_redraw dX5_redraw_80) rfl).trans ?_
  refine (rn_iload_n (pc := 82) (dd bX5_redraw dX5_redraw_82) rfl).trans ?_
  have e1 : vrun mX5_redraw 83 [(1, x0), (0, x1), (1, x2), (0, x3), (0, x4), (0, x5), (0, y0)] [(0, x3), (0, y0)] h = vrun mX5_redraw 96 [(1, x0), (0, x1), (1, x2), (0, (if x3 ≤ y0 then x3 else y0)), (0, x4), (0, x5), (0, y0)] [] (if x3 ≤ y0 then h else vup h 719 x0 0 (-x4)) := by
    refine (rn_icmp_ge (t := 96) (pc := 83) (dd bX5_redraw dX5_redraw_83) rfl).trans ?_
    by_cases c1 : x3 ≤ y0
    · refine (if_pos c1).trans ?_
      refine Eq.trans (b := vrun mX5_redraw 96 [(1, x0), (0, x1), (1, x2), (0, x3), (0, x4), (0, x5), (0, y0)] [] h) rfl ?_
      simp only [if_pos c1]
    · refine (if_neg c1).trans ?_
      refine (rn_iload (pc := 86) (dd bX5_redraw dX5_redraw_86) rfl).trans ?_
      refine (rn_istore_n (pc := 88) (dd bX5_redraw dX5_redraw_88) (Nat.le_of_ble_eq_true rfl) rfl).trans ?_
      refine (rn_aload_n (pc := 89) (dd bX5_redraw dX5_redraw_89) rfl).trans ?_
      refine (rn_iload (pc := 90) (dd bX5_redraw dX5_redraw_90) rfl).trans ?_
      refine (rg_ineg (pc := 92) (dd bX5_redraw dX5_redraw_92) (p1 c1) (p2 c1)).trans ?_
      refine (rg_pf (pc := 93) (dd bX5_redraw dX5_redraw_93) (ci := 6) (j := 19) rfl (key := 719) rfl (kc := 26) rfl s3.1 rfl (by intro z; cases z) (by decide)).trans ?_
      refine Eq.trans (b := vrun mX5_redraw 96 [(1, x0), (0, x1), (1, x2), (0, y0), (0, x4), (0, x5), (0, y0)] [] (vup h 719 x0 0 (-x4))) rfl ?_
      simp only [if_neg c1]
  refine e1.trans ?_
  refine (rg_iinc (pc := 96) (dd bX5_redraw dX5_redraw_96) rfl (Nat.le_of_ble_eq_true rfl) p4 p5 rfl).trans ?_
  refine (rn_goto (t := 33) (pc := 99) (dd bX5_redraw dX5_redraw_99) rfl).trans ?_
  rfl

