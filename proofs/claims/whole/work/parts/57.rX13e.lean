theorem bX13_height : vmB mX13_height = cX13_height := rfl
theorem rX13_height_0 {x1 : Int} {h : vH} (s1 : shModel h) : vrun mX13_height 0 [(1, 282), (0, x1)] [] h = vret vrun mX13_height 13 [(1, 282), (0, x1)] [] (vcl mX13_isFine [(1, 282), (0, (if ¬ (¬ (x1 < 0) ∧ ¬ (3 < x1)) then 1 else 0))] h) := by
  refine (rn_aload_n (pc := 0) (dd bX13_height dX13_height_0) rfl).trans ?_
  refine (rn_iload_n (pc := 1) (dd bX13_height dX13_height_1) rfl).trans ?_
  refine (rg_static (pc := 2) (dd bX13_height dX13_height_2) rfl (by decide) (Nat.le_of_ble_eq_true rfl) (as := [(0, x1)]) rfl rfl ⟨Nat.le_of_ble_eq_true rfl, Nat.le_of_ble_eq_true rfl, Nat.le_of_ble_eq_true rfl, Nat.le_of_ble_eq_true rfl⟩).trans ?_
  refine (vret_v spX13_isPane).trans ?_
  have e1 : vrun mX13_height 5 [(1, 282), (0, x1)] [(0, (if ¬ (x1 < 0) ∧ ¬ (3 < x1) then 1 else 0)), (1, 282)] h = vrun mX13_height 13 [(1, 282), (0, x1)] [(0, (if ¬ (¬ (x1 < 0) ∧ ¬ (3 < x1)) then 1 else 0)), (1, 282)] h := by
    refine (rg_beq (t := 12) (pc := 5) (dd bX13_height dX13_height_5) rfl).trans ?_
    by_cases c1 : ¬ (x1 < 0) ∧ ¬ (3 < x1)
    · refine (if_pos c1).trans ?_
      refine (rn_iconst (pc := 8) (dd bX13_height dX13_height_8) (by decide)).trans ?_
      refine (rn_goto (t := 13) (pc := 9) (dd bX13_height dX13_height_9) rfl).trans ?_
      refine Eq.trans (b := vrun mX13_height 13 [(1, 282), (0, x1)] [(0, 0), (1, 282)] h) rfl ?_
      simp only [c1, true_or, false_or, or_true, or_false, true_and, false_and, and_true, and_false, not_true_eq_false, not_false_eq_true, ne_eq, if_true, if_false, ↓reduceIte]
    · refine (if_neg c1).trans ?_
      refine (rn_iconst (pc := 12) (dd bX13_height dX13_height_12) (by decide)).trans ?_
      refine Eq.trans (b := vrun mX13_height 13 [(1, 282), (0, x1)] [(0, 1), (1, 282)] h) rfl ?_
      simp only [c1, true_or, false_or, or_true, or_false, true_and, false_and, and_true, and_false, not_true_eq_false, not_false_eq_true, ne_eq, if_true, if_false, ↓reduceIte]
  refine e1.trans ?_
  exact rg_virtual (pc := 13) (dd bX13_height dX13_height_13) rfl rfl (by decide) (kc := 34) rfl s1.1 (as := [(1, 282), (0, (if ¬ (¬ (x1 < 0) ∧ ¬ (3 < x1)) then 1 else 0))]) rfl ⟨Nat.le_of_ble_eq_true rfl, Nat.le_of_ble_eq_true rfl, Nat.le_of_ble_eq_true rfl, Nat.le_of_ble_eq_true rfl⟩
theorem rX13_height_16 {x1 : Int} {y0 : Int} {h : vH} (s1 : shModel h) (p2 : ¬ (y0 = 0) → 0 ≤ x1) (p3 : ¬ (y0 = 0) → x1 < 4) : vrun mX13_height 16 [(1, 282), (0, x1)] [(0, y0)] h = some (.inl (some (0, (if y0 = 0 then 0 else h 2 310 x1))), h) := by
  have e1 : vrun mX13_height 16 [(1, 282), (0, x1)] [(0, y0)] h = vrun mX13_height 29 [(1, 282), (0, x1)] [(0, (if y0 = 0 then 0 else h 2 310 x1))] h := by
    refine (rn_if_eq (t := 28) (pc := 16) (dd bX13_height dX13_height_16) rfl).trans ?_
    by_cases c1 : y0 = 0
    · refine (if_pos c1).trans ?_
      refine (rn_iconst (pc := 28) (dd bX13_height dX13_height_28) (by decide)).trans ?_
      refine Eq.trans (b := vrun mX13_height 29 [(1, 282), (0, x1)] [(0, 0)] h) rfl ?_
      simp only [if_pos c1]
    · refine (if_neg c1).trans ?_
      refine (rn_aload_n (pc := 19) (dd bX13_height dX13_height_19) rfl).trans ?_
      refine (rg_gf (pc := 20) (dd bX13_height dX13_height_20) (ci := 14) (j := 29) rfl rfl (key := 1529) rfl (kc := 34) rfl s1.1 s1.2.2.2.2.2.2.2.2.2.2.2.2.2.2.2.2.2.2.2.2.2.2.2.2.2.2.2.2.2.2.2.2.2.2.2.2.2.2.2.2.2.2.2.2.2.2.2.2.2.2.2.2.2.2.2.2.2.2.2.2.2.2.2.2.2.2.2.2.2.2.2.2.2.2.2.2.2.2.2.2.2.2.1).trans ?_
      refine (rn_iload_n (pc := 23) (dd bX13_height dX13_height_23) rfl).trans ?_
      refine (rg_iaload (pc := 24) (dd bX13_height dX13_height_24) s1.2.2.2.2.2.2.2.2.2.2.2.2.2.2.2.2.2.2.2.2.2.2.2.2.2.2.2.2.2.2.2.2.2.2.2.2.2.2.2.2.2.2.2.2.2.2.2.2.2.2.2.2.2.2.2.2.2.2.2.2.2.2.2.2.2.2.2.2.2.2.2.2.2.2.2.2.2.2.2.2.2.2.2.1 s1.2.2.2.2.2.2.2.2.2.2.2.2.2.2.2.2.2.2.2.2.2.2.2.2.2.2.2.2.2.2.2.2.2.2.2.2.2.2.2.2.2.2.2.2.2.2.2.2.2.2.2.2.2.2.2.2.2.2.2.2.2.2.2.2.2.2.2.2.2.2.2.2.2.2.2.2.2.2.2.2.2.2.2.2.1 (p2 c1) (p3 c1) rfl).trans ?_
      refine (rn_goto (t := 29) (pc := 25) (dd bX13_height dX13_height_25) rfl).trans ?_
      refine Eq.trans (b := vrun mX13_height 29 [(1, 282), (0, x1)] [(0, h 2 310 x1)] h) rfl ?_
      simp only [if_neg c1]
  refine e1.trans ?_
  exact rn_ireturn (pc := 29) (dd bX13_height dX13_height_29) (Or.inl rfl)
theorem bX13_goesTo : vmB mX13_goesTo = cX13_goesTo := rfl
theorem rX13_goesTo_0 {x1 : Int} {x2 : Int} {x3 : Int} {h : vH} (s1 : shModel h) (p2 : 0 ≤ x1) (p3 : x1 < 4) : vrun mX13_goesTo 0 [(1, 282), (0, x1), (0, x2), (0, x3)] [] h = some (.inl none, vup (vup h 2 305 x1 x2) 2 306 x1 x3) := by
  refine (rn_aload_n (pc := 0) (dd bX13_goesTo dX13_goesTo_0) rfl).trans ?_
  refine (rg_gf (pc := 1) (dd bX13_goesTo dX13_goesTo_1) (ci := 14) (j := 24) rfl rfl (key := 1524) rfl (kc := 34) rfl s1.1 s1.2.2.2.2.2.2.2.2.2.2.2.2.2.2.2.2.2.2.2.2.2.2.2.2.2.2.2.2.2.2.2.2.2.2.2.2.2.2.2.2.2.2.2.2.2.2.2.2.2.2.2.2.2.2.2.2.2.2.2.2.2.2.2.2.2.2.2.1).trans ?_
  refine (rn_iload_n (pc := 4) (dd bX13_goesTo dX13_goesTo_4) rfl).trans ?_
  refine (rn_iload_n (pc := 5) (dd bX13_goesTo dX13_goesTo_5) rfl).trans ?_
  refine (rg_iastore (pc := 6) (dd bX13_goesTo dX13_goesTo_6) s1.2.2.2.2.2.2.2.2.2.2.2.2.2.2.2.2.2.2.2.2.2.2.2.2.2.2.2.2.2.2.2.2.2.2.2.2.2.2.2.2.2.2.2.2.2.2.2.2.2.2.2.2.2.2.2.2.2.2.2.2.2.2.2.2.2.2.2.2.1 s1.2.2.2.2.2.2.2.2.2.2.2.2.2.2.2.2.2.2.2.2.2.2.2.2.2.2.2.2.2.2.2.2.2.2.2.2.2.2.2.2.2.2.2.2.2.2.2.2.2.2.2.2.2.2.2.2.2.2.2.2.2.2.2.2.2.2.2.2.2.1 p2 p3).trans ?_
  refine (rn_aload_n (pc := 7) (dd bX13_goesTo dX13_goesTo_7) rfl).trans ?_
  refine (rg_gf (pc := 8) (dd bX13_goesTo dX13_goesTo_8) (ci := 14) (j := 25) rfl rfl (key := 1525) rfl (kc := 34) rfl ((vup_k (by decide)).trans s1.1) ((vup_k (by decide)).trans s1.2.2.2.2.2.2.2.2.2.2.2.2.2.2.2.2.2.2.2.2.2.2.2.2.2.2.2.2.2.2.2.2.2.2.2.2.2.2.2.2.2.2.2.2.2.2.2.2.2.2.2.2.2.2.2.2.2.2.2.2.2.2.2.2.2.2.2.2.2.2.1)).trans ?_
  refine (rn_iload_n (pc := 11) (dd bX13_goesTo dX13_goesTo_11) rfl).trans ?_
  refine (rn_iload_n (pc := 12) (dd bX13_goesTo dX13_goesTo_12) rfl).trans ?_
  refine (rg_iastore (pc := 13) (dd bX13_goesTo dX13_goesTo_13) ((vup_k (by decide)).trans s1.2.2.2.2.2.2.2.2.2.2.2.2.2.2.2.2.2.2.2.2.2.2.2.2.2.2.2.2.2.2.2.2.2.2.2.2.2.2.2.2.2.2.2.2.2.2.2.2.2.2.2.2.2.2.2.2.2.2.2.2.2.2.2.2.2.2.2.2.2.2.2.1) ((vup_k (by decide)).trans s1.2.2.2.2.2.2.2.2.2.2.2.2.2.2.2.2.2.2.2.2.2.2.2.2.2.2.2.2.2.2.2.2.2.2.2.2.2.2.2.2.2.2.2.2.2.2.2.2.2.2.2.2.2.2.2.2.2.2.2.2.2.2.2.2.2.2.2.2.2.2.2.2.1) (by omega) (by omega)).trans ?_
  exact rn_return (pc := 14) (dd bX13_goesTo dX13_goesTo_14) rfl
theorem bX13_visible : vmB mX13_visible = cX13_visible := rfl
theorem rX13_visible_0 {x1 : Int} {x2 : Int} {h : vH} : vrun mX13_visible 0 [(1, 282), (0, x1), (0, x2), (9, 0)] [] h = vrun mX13_visible 2 [(1, 282), (0, x1), (0, x2), (0, x2)] [] h := by
  refine (rn_iload_n (pc := 0) (dd bX13_visible dX13_visible_0) rfl).trans ?_
  refine (rn_istore_n (pc := 1) (dd bX13_visible dX13_visible_1) (Nat.le_of_ble_eq_true rfl) rfl).trans ?_
  rfl
theorem rX13_visible_2 {x1 : Int} {x2 : Int} {x3 : Int} {h : vH} (s1 : shModel h) : vrun mX13_visible 2 [(1, 282), (0, x1), (0, x2), (0, x3)] [] h = vret vrun mX13_visible 5 [(1, 282), (0, x1), (0, x2), (0, x3)] [] (vcl mX13_isInvisible [(1, 282), (0, x1), (0, x3)] h) := by
  refine (rn_aload_n (pc := 2) (dd bX13_visible dX13_visible_2) rfl).trans ?_
  refine (rn_iload_n (pc := 3) (dd bX13_visible dX13_visible_3) rfl).trans ?_
  refine (rn_iload_n (pc := 4) (dd bX13_visible dX13_visible_4) rfl).trans ?_
  exact rg_virtual (pc := 5) (dd bX13_visible dX13_visible_5) rfl rfl (by decide) (kc := 34) rfl s1.1 (as := [(1, 282), (0, x1), (0, x3)]) rfl ⟨Nat.le_of_ble_eq_true rfl, Nat.le_of_ble_eq_true rfl, Nat.le_of_ble_eq_true rfl, Nat.le_of_ble_eq_true rfl⟩
theorem rX13_visible_8 {x1 : Int} {x2 : Int} {x3 : Int} {y0 : Int} {h : vH} (p1 : ¬ (y0 = 0) → (-2147483648) ≤ x3 + (-1)) (p2 : ¬ (y0 = 0) → x3 + (-1) < 2147483648) : vrun mX13_visible 8 [(1, 282), (0, x1), (0, x2), (0, x3)] [(0, y0)] h = if y0 = 0 then some (.inl (some (0, x3)), h) else vrun mX13_visible 2 [(1, 282), (0, x1), (0, x2), (0, x3 + (-1))] [] h := by
  refine (rn_if_eq (t := 17) (pc := 8) (dd bX13_visible dX13_visible_8) rfl).trans (itec (fun c1 => ?_) (fun c1 => ?_))
  · refine (rn_iload_n (pc := 17) (dd bX13_visible dX13_visible_17) rfl).trans ?_
    exact rn_ireturn (pc := 18) (dd bX13_visible dX13_visible_18) (Or.inl rfl)
  · refine (rg_iinc (pc := 11) (dd bX13_visible dX13_visible_11) rfl (Nat.le_of_ble_eq_true rfl) (p1 c1) (p2 c1) rfl).trans ?_
    refine (rn_goto (t := 2) (pc := 14) (dd bX13_visible dX13_visible_14) rfl).trans ?_
    rfl
theorem bX13_lineNow : vmB mX13_lineNow = cX13_lineNow := rfl
theorem rX13_lineNow_0 {x1 : Int} {h : vH} (s1 : shModel h) (p2 : 0 ≤ x1) (p3 : x1 < 4) : vrun mX13_lineNow 0 [(1, 282), (0, x1)] [] h = vret vrun mX13_lineNow 8 [(1, 282), (0, x1)] [] (vcl mX13_visible [(1, 282), (0, x1), (0, h 2 305 x1)] h) := by
  refine (rn_aload_n (pc := 0) (dd bX13_lineNow dX13_lineNow_0) rfl).trans ?_
  refine (rn_iload_n (pc := 1) (dd bX13_lineNow dX13_lineNow_1) rfl).trans ?_
  refine (rn_aload_n (pc := 2) (dd bX13_lineNow dX13_lineNow_2) rfl).trans ?_
  refine (rg_gf (pc := 3) (dd bX13_lineNow dX13_lineNow_3) (ci := 14) (j := 24) rfl rfl (key := 1524) rfl (kc := 34) rfl s1.1 s1.2.2.2.2.2.2.2.2.2.2.2.2.2.2.2.2.2.2.2.2.2.2.2.2.2.2.2.2.2.2.2.2.2.2.2.2.2.2.2.2.2.2.2.2.2.2.2.2.2.2.2.2.2.2.2.2.2.2.2.2.2.2.2.2.2.2.2.1).trans ?_
  refine (rn_iload_n (pc := 6) (dd bX13_lineNow dX13_lineNow_6) rfl).trans ?_
  refine (rg_iaload (pc := 7) (dd bX13_lineNow dX13_lineNow_7) s1.2.2.2.2.2.2.2.2.2.2.2.2.2.2.2.2.2.2.2.2.2.2.2.2.2.2.2.2.2.2.2.2.2.2.2.2.2.2.2.2.2.2.2.2.2.2.2.2.2.2.2.2.2.2.2.2.2.2.2.2.2.2.2.2.2.2.2.2.1 s1.2.2.2.2.2.2.2.2.2.2.2.2.2.2.2.2.2.2.2.2.2.2.2.2.2.2.2.2.2.2.2.2.2.2.2.2.2.2.2.2.2.2.2.2.2.2.2.2.2.2.2.2.2.2.2.2.2.2.2.2.2.2.2.2.2.2.2.2.2.1 p2 p3 rfl).trans ?_
  exact rg_virtual (pc := 8) (dd bX13_lineNow dX13_lineNow_8) rfl rfl (by decide) (kc := 34) rfl s1.1 (as := [(1, 282), (0, x1), (0, h 2 305 x1)]) rfl ⟨Nat.le_of_ble_eq_true rfl, Nat.le_of_ble_eq_true rfl, Nat.le_of_ble_eq_true rfl, Nat.le_of_ble_eq_true rfl⟩
theorem rX13_lineNow_11 {x1 : Int} {y0 : Int} {h : vH} : vrun mX13_lineNow 11 [(1, 282), (0, x1)] [(0, y0)] h = some (.inl (some (0, y0)), h) := by
  exact rn_ireturn (pc := 11) (dd bX13_lineNow dX13_lineNow_11) (Or.inl rfl)
theorem bX13_placeNow : vmB mX13_placeNow = cX13_placeNow := rfl
theorem rX13_placeNow_0 {x1 : Int} {h : vH} (s1 : shModel h) (p2 : 0 ≤ x1) (p3 : x1 < 4) : vrun mX13_placeNow 0 [(1, 282), (0, x1)] [] h = vret vrun mX13_placeNow 8 [(1, 282), (0, x1)] [] (vcl mX13_isInvisible [(1, 282), (0, x1), (0, h 2 305 x1)] h) := by
  refine (rn_aload_n (pc := 0) (dd bX13_placeNow dX13_placeNow_0) rfl).trans ?_
  refine (rn_iload_n (pc := 1) (dd bX13_placeNow dX13_placeNow_1) rfl).trans ?_
  refine (rn_aload_n (pc := 2) (dd bX13_placeNow dX13_placeNow_2) rfl).trans ?_
  refine (rg_gf (pc := 3) (dd bX13_placeNow dX13_placeNow_3) (ci := 14) (j := 24) rfl rfl (key := 1524) rfl (kc := 34) rfl s1.1 s1.2.2.2.2.2.2.2.2.2.2.2.2.2.2.2.2.2.2.2.2.2.2.2.2.2.2.2.2.2.2.2.2.2.2.2.2.2.2.2.2.2.2.2.2.2.2.2.2.2.2.2.2.2.2.2.2.2.2.2.2.2.2.2.2.2.2.2.1).trans ?_
  refine (rn_iload_n (pc := 6) (dd bX13_placeNow dX13_placeNow_6) rfl).trans ?_
  refine (rg_iaload (pc := 7) (dd bX13_placeNow dX13_placeNow_7) s1.2.2.2.2.2.2.2.2.2.2.2.2.2.2.2.2.2.2.2.2.2.2.2.2.2.2.2.2.2.2.2.2.2.2.2.2.2.2.2.2.2.2.2.2.2.2.2.2.2.2.2.2.2.2.2.2.2.2.2.2.2.2.2.2.2.2.2.2.1 s1.2.2.2.2.2.2.2.2.2.2.2.2.2.2.2.2.2.2.2.2.2.2.2.2.2.2.2.2.2.2.2.2.2.2.2.2.2.2.2.2.2.2.2.2.2.2.2.2.2.2.2.2.2.2.2.2.2.2.2.2.2.2.2.2.2.2.2.2.2.1 p2 p3 rfl).trans ?_
  exact rg_virtual (pc := 8) (dd bX13_placeNow dX13_placeNow_8) rfl rfl (by decide) (kc := 34) rfl s1.1 (as := [(1, 282), (0, x1), (0, h 2 305 x1)]) rfl ⟨Nat.le_of_ble_eq_true rfl, Nat.le_of_ble_eq_true rfl, Nat.le_of_ble_eq_true rfl, Nat.le_of_ble_eq_true rfl⟩
theorem rX13_placeNow_11 {x1 : Int} {y0 : Int} {h : vH} (s1 : shModel h) (p2 : y0 = 0 → 0 ≤ x1) (p3 : y0 = 0 → x1 < 4) : vrun mX13_placeNow 11 [(1, 282), (0, x1)] [(0, y0)] h = some (.inl (some (0, (if y0 = 0 then h 2 306 x1 else 0))), h) := by
  have e1 : vrun mX13_placeNow 11 [(1, 282), (0, x1)] [(0, y0)] h = vrun mX13_placeNow 24 [(1, 282), (0, x1)] [(0, (if y0 = 0 then h 2 306 x1 else 0))] h := by
    refine (rn_if_eq (t := 18) (pc := 11) (dd bX13_placeNow dX13_placeNow_11) rfl).trans ?_
    by_cases c1 : y0 = 0
    · refine (if_pos c1).trans ?_
      refine (rn_aload_n (pc := 18) (dd bX13_placeNow dX13_placeNow_18) rfl).trans ?_
      refine (rg_gf (pc := 19) (dd bX13_placeNow dX13_placeNow_19) (ci := 14) (j := 25) rfl rfl (key := 1525) rfl (kc := 34) rfl s1.1 s1.2.2.2.2.2.2.2.2.2.2.2.2.2.2.2.2.2.2.2.2.2.2.2.2.2.2.2.2.2.2.2.2.2.2.2.2.2.2.2.2.2.2.2.2.2.2.2.2.2.2.2.2.2.2.2.2.2.2.2.2.2.2.2.2.2.2.2.2.2.2.1).trans ?_
      refine (rn_iload_n (pc := 22) (dd bX13_placeNow dX13_placeNow_22) rfl).trans ?_
      refine (rg_iaload (pc := 23) (dd bX13_placeNow dX13_placeNow_23) s1.2.2.2.2.2.2.2.2.2.2.2.2.2.2.2.2.2.2.2.2.2.2.2.2.2.2.2.2.2.2.2.2.2.2.2.2.2.2.2.2.2.2.2.2.2.2.2.2.2.2.2.2.2.2.2.2.2.2.2.2.2.2.2.2.2.2.2.2.2.2.2.1 s1.2.2.2.2.2.2.2.2.2.2.2.2.2.2.2.2.2.2.2.2.2.2.2.2.2.2.2.2.2.2.2.2.2.2.2.2.2.2.2.2.2.2.2.2.2.2.2.2.2.2.2.2.2.2.2.2.2.2.2.2.2.2.2.2.2.2.2.2.2.2.2.2.1 (p2 c1) (p3 c1) rfl).trans ?_
      refine Eq.trans (b := vrun mX13_placeNow 24 [(1, 282), (0, x1)] [(0, h 2 306 x1)] h) rfl ?_
      simp only [if_pos c1]
    · refine (if_neg c1).trans ?_
      refine (rn_iconst (pc := 14) (dd bX13_placeNow dX13_placeNow_14) (by decide)).trans ?_
      refine (rn_goto (t := 24) (pc := 15) (dd bX13_placeNow dX13_placeNow_15) rfl).trans ?_
      refine Eq.trans (b := vrun mX13_placeNow 24 [(1, 282), (0, x1)] [(0, 0)] h) rfl ?_
      simp only [if_neg c1]
  refine e1.trans ?_
  exact rn_ireturn (pc := 24) (dd bX13_placeNow dX13_placeNow_24) (Or.inl rfl)
theorem bX13_columnNow : vmB mX13_columnNow = cX13_columnNow := rfl
theorem rX13_columnNow_0 {x1 : Int} {h : vH} (s1 : shModel h) : vrun mX13_columnNow 0 [(1, 282), (0, x1)] [] h = vret vrun mX13_columnNow 4 [(1, 282), (0, x1)] [(0, x1), (1, 282)] (vcl mX13_lineNow [(1, 282), (0, x1)] h) := by
  refine (rn_aload_n (pc := 0) (dd bX13_columnNow dX13_columnNow_0) rfl).trans ?_
  refine (rn_iload_n (pc := 1) (dd bX13_columnNow dX13_columnNow_1) rfl).trans ?_
  refine (rn_aload_n (pc := 2) (dd bX13_columnNow dX13_columnNow_2) rfl).trans ?_
  refine (rn_iload_n (pc := 3) (dd bX13_columnNow dX13_columnNow_3) rfl).trans ?_
  exact rg_virtual (pc := 4) (dd bX13_columnNow dX13_columnNow_4) rfl rfl (by decide) (kc := 34) rfl s1.1 (as := [(1, 282), (0, x1)]) rfl ⟨Nat.le_of_ble_eq_true rfl, Nat.le_of_ble_eq_true rfl, Nat.le_of_ble_eq_true rfl, Nat.le_of_ble_eq_true rfl⟩
theorem rX13_columnNow_7 {x1 : Int} {y0 : Int} {y1 : Int} {h : vH} (s1 : shModel h) : vrun mX13_columnNow 7 [(1, 282), (0, x1)] [(0, y0), (0, y1), (1, 282)] h = vret vrun mX13_columnNow 9 [(1, 282), (0, x1)] [(0, y0), (0, y1), (1, 282)] (vcl mX13_placeNow [(1, 282), (0, x1)] h) := by
  refine (rn_aload_n (pc := 7) (dd bX13_columnNow dX13_columnNow_7) rfl).trans ?_
  refine (rn_iload_n (pc := 8) (dd bX13_columnNow dX13_columnNow_8) rfl).trans ?_
  exact rg_virtual (pc := 9) (dd bX13_columnNow dX13_columnNow_9) rfl rfl (by decide) (kc := 34) rfl s1.1 (as := [(1, 282), (0, x1)]) rfl ⟨Nat.le_of_ble_eq_true rfl, Nat.le_of_ble_eq_true rfl, Nat.le_of_ble_eq_true rfl, Nat.le_of_ble_eq_true rfl⟩
theorem rX13_columnNow_12 {x1 : Int} {y0 : Int} {y1 : Int} {y2 : Int} {h : vH} (s1 : shModel h) : vrun mX13_columnNow 12 [(1, 282), (0, x1)] [(0, y0), (0, y1), (0, y2), (1, 282)] h = vret vrun mX13_columnNow 13 [(1, 282), (0, x1)] [] (vcl mX13_downColumn [(1, 282), (0, y2), (0, y1), (0, y0), (0, 0)] h) := by
  refine (rn_iconst (pc := 12) (dd bX13_columnNow dX13_columnNow_12) (by decide)).trans ?_
  exact rg_virtual (pc := 13) (dd bX13_columnNow dX13_columnNow_13) rfl rfl (by decide) (kc := 34) rfl s1.1 (as := [(1, 282), (0, y2), (0, y1), (0, y0), (0, 0)]) rfl ⟨Nat.le_of_ble_eq_true rfl, Nat.le_of_ble_eq_true rfl, Nat.le_of_ble_eq_true rfl, Nat.le_of_ble_eq_true rfl⟩
theorem rX13_columnNow_16 {x1 : Int} {y0 : Int} {h : vH} : vrun mX13_columnNow 16 [(1, 282), (0, x1)] [(0, y0)] h = some (.inl (some (0, y0)), h) := by
  exact rn_ireturn (pc := 16) (dd bX13_columnNow dX13_columnNow_16) (Or.inl rfl)
theorem bX13_rowNow : vmB mX13_rowNow = cX13_rowNow := rfl
theorem rX13_rowNow_0 {x1 : Int} {h : vH} (s1 : shModel h) : vrun mX13_rowNow 0 [(1, 282), (0, x1)] [] h = vret vrun mX13_rowNow 4 [(1, 282), (0, x1)] [(0, x1), (1, 282)] (vcl mX13_lineNow [(1, 282), (0, x1)] h) := by
  refine (rn_aload_n (pc := 0) (dd bX13_rowNow dX13_rowNow_0) rfl).trans ?_
  refine (rn_iload_n (pc := 1) (dd bX13_rowNow dX13_rowNow_1) rfl).trans ?_
  refine (rn_aload_n (pc := 2) (dd bX13_rowNow dX13_rowNow_2) rfl).trans ?_
  refine (rn_iload_n (pc := 3) (dd bX13_rowNow dX13_rowNow_3) rfl).trans ?_
  exact rg_virtual (pc := 4) (dd bX13_rowNow dX13_rowNow_4) rfl rfl (by decide) (kc := 34) rfl s1.1 (as := [(1, 282), (0, x1)]) rfl ⟨Nat.le_of_ble_eq_true rfl, Nat.le_of_ble_eq_true rfl, Nat.le_of_ble_eq_true rfl, Nat.le_of_ble_eq_true rfl⟩
theorem rX13_rowNow_7 {x1 : Int} {y0 : Int} {y1 : Int} {h : vH} (s1 : shModel h) : vrun mX13_rowNow 7 [(1, 282), (0, x1)] [(0, y0), (0, y1), (1, 282)] h = vret vrun mX13_rowNow 9 [(1, 282), (0, x1)] [(0, y0), (0, y1), (1, 282)] (vcl mX13_placeNow [(1, 282), (0, x1)] h) := by
  refine (rn_aload_n (pc := 7) (dd bX13_rowNow dX13_rowNow_7) rfl).trans ?_
  refine (rn_iload_n (pc := 8) (dd bX13_rowNow dX13_rowNow_8) rfl).trans ?_
  exact rg_virtual (pc := 9) (dd bX13_rowNow dX13_rowNow_9) rfl rfl (by decide) (kc := 34) rfl s1.1 (as := [(1, 282), (0, x1)]) rfl ⟨Nat.le_of_ble_eq_true rfl, Nat.le_of_ble_eq_true rfl, Nat.le_of_ble_eq_true rfl, Nat.le_of_ble_eq_true rfl⟩
theorem rX13_rowNow_12 {x1 : Int} {y0 : Int} {y1 : Int} {y2 : Int} {h : vH} (s1 : shModel h) : vrun mX13_rowNow 12 [(1, 282), (0, x1)] [(0, y0), (0, y1), (0, y2), (1, 282)] h = vret vrun mX13_rowNow 13 [(1, 282), (0, x1)] [] (vcl mX13_downRow [(1, 282), (0, y2), (0, y1), (0, y0), (0, 0)] h) := by
  refine (rn_iconst (pc := 12) (dd bX13_rowNow dX13_rowNow_12) (by decide)).trans ?_
  exact rg_virtual (pc := 13) (dd bX13_rowNow dX13_rowNow_13) rfl rfl (by decide) (kc := 34) rfl s1.1 (as := [(1, 282), (0, y2), (0, y1), (0, y0), (0, 0)]) rfl ⟨Nat.le_of_ble_eq_true rfl, Nat.le_of_ble_eq_true rfl, Nat.le_of_ble_eq_true rfl, Nat.le_of_ble_eq_true rfl⟩
theorem rX13_rowNow_16 {x1 : Int} {y0 : Int} {h : vH} : vrun mX13_rowNow 16 [(1, 282), (0, x1)] [(0, y0)] h = some (.inl (some (0, y0)), h) := by
  exact rn_ireturn (pc := 16) (dd bX13_rowNow dX13_rowNow_16) (Or.inl rfl)
theorem bX13_topRow : vmB mX13_topRow = cX13_topRow := rfl
theorem rX13_topRow_0 {x1 : Int} {h : vH} (s1 : shModel h) (p2 : 0 ≤ x1) (p3 : x1 < 4) : vrun mX13_topRow 0 [(1, 282), (0, x1), (9, 0)] [] h = vret vrun mX13_topRow 8 [(1, 282), (0, x1), (9, 0)] [] (vcl mX13_isInvisible [(1, 282), (0, x1), (0, h 2 308 x1)] h) := by
  refine (rn_aload_n (pc := 0) (dd bX13_topRow dX13_topRow_0) rfl).trans ?_
  refine (rn_iload_n (pc := 1) (dd bX13_topRow dX13_topRow_1) rfl).trans ?_
  refine (rn_aload_n (pc := 2) (dd bX13_topRow dX13_topRow_2) rfl).trans ?_
  refine (rg_gf (pc := 3) (dd bX13_topRow dX13_topRow_3) (ci := 14) (j := 27) rfl rfl (key := 1527) rfl (kc := 34) rfl s1.1 s1.2.2.2.2.2.2.2.2.2.2.2.2.2.2.2.2.2.2.2.2.2.2.2.2.2.2.2.2.2.2.2.2.2.2.2.2.2.2.2.2.2.2.2.2.2.2.2.2.2.2.2.2.2.2.2.2.2.2.2.2.2.2.2.2.2.2.2.2.2.2.2.2.2.2.2.2.1).trans ?_
  refine (rn_iload_n (pc := 6) (dd bX13_topRow dX13_topRow_6) rfl).trans ?_
  refine (rg_iaload (pc := 7) (dd bX13_topRow dX13_topRow_7) s1.2.2.2.2.2.2.2.2.2.2.2.2.2.2.2.2.2.2.2.2.2.2.2.2.2.2.2.2.2.2.2.2.2.2.2.2.2.2.2.2.2.2.2.2.2.2.2.2.2.2.2.2.2.2.2.2.2.2.2.2.2.2.2.2.2.2.2.2.2.2.2.2.2.2.2.2.2.1 s1.2.2.2.2.2.2.2.2.2.2.2.2.2.2.2.2.2.2.2.2.2.2.2.2.2.2.2.2.2.2.2.2.2.2.2.2.2.2.2.2.2.2.2.2.2.2.2.2.2.2.2.2.2.2.2.2.2.2.2.2.2.2.2.2.2.2.2.2.2.2.2.2.2.2.2.2.2.2.1 p2 p3 rfl).trans ?_
  exact rg_virtual (pc := 8) (dd bX13_topRow dX13_topRow_8) rfl rfl (by decide) (kc := 34) rfl s1.1 (as := [(1, 282), (0, x1), (0, h 2 308 x1)]) rfl ⟨Nat.le_of_ble_eq_true rfl, Nat.le_of_ble_eq_true rfl, Nat.le_of_ble_eq_true rfl, Nat.le_of_ble_eq_true rfl⟩
theorem rX13_topRow_11 {x1 : Int} {y0 : Int} {h : vH} (s1 : shModel h) (p2 : 0 ≤ x1) (p3 : x1 < 4) : vrun mX13_topRow 11 [(1, 282), (0, x1), (9, 0)] [(0, y0)] h = vret vrun mX13_topRow 22 [(1, 282), (0, x1), (0, y0)] [(0, x1), (1, 282)] (vcl mX13_visible [(1, 282), (0, x1), (0, h 2 308 x1)] h) := by
  refine (rn_istore_n (pc := 11) (dd bX13_topRow dX13_topRow_11) (Nat.le_of_ble_eq_true rfl) rfl).trans ?_
  refine (rn_aload_n (pc := 12) (dd bX13_topRow dX13_topRow_12) rfl).trans ?_
  refine (rn_iload_n (pc := 13) (dd bX13_topRow dX13_topRow_13) rfl).trans ?_
  refine (rn_aload_n (pc := 14) (dd bX13_topRow dX13_topRow_14) rfl).trans ?_
  refine (rn_iload_n (pc := 15) (dd bX13_topRow dX13_topRow_15) rfl).trans ?_
  refine (rn_aload_n (pc := 16) (dd bX13_topRow dX13_topRow_16) rfl).trans ?_
  refine (rg_gf (pc := 17) (dd bX13_topRow dX13_topRow_17) (ci := 14) (j := 27) rfl rfl (key := 1527) rfl (kc := 34) rfl s1.1 s1.2.2.2.2.2.2.2.2.2.2.2.2.2.2.2.2.2.2.2.2.2.2.2.2.2.2.2.2.2.2.2.2.2.2.2.2.2.2.2.2.2.2.2.2.2.2.2.2.2.2.2.2.2.2.2.2.2.2.2.2.2.2.2.2.2.2.2.2.2.2.2.2.2.2.2.2.1).trans ?_
  refine (rn_iload_n (pc := 20) (dd bX13_topRow dX13_topRow_20) rfl).trans ?_
  refine (rg_iaload (pc := 21) (dd bX13_topRow dX13_topRow_21) s1.2.2.2.2.2.2.2.2.2.2.2.2.2.2.2.2.2.2.2.2.2.2.2.2.2.2.2.2.2.2.2.2.2.2.2.2.2.2.2.2.2.2.2.2.2.2.2.2.2.2.2.2.2.2.2.2.2.2.2.2.2.2.2.2.2.2.2.2.2.2.2.2.2.2.2.2.2.1 s1.2.2.2.2.2.2.2.2.2.2.2.2.2.2.2.2.2.2.2.2.2.2.2.2.2.2.2.2.2.2.2.2.2.2.2.2.2.2.2.2.2.2.2.2.2.2.2.2.2.2.2.2.2.2.2.2.2.2.2.2.2.2.2.2.2.2.2.2.2.2.2.2.2.2.2.2.2.2.1 p2 p3 rfl).trans ?_
  exact rg_virtual (pc := 22) (dd bX13_topRow dX13_topRow_22) rfl rfl (by decide) (kc := 34) rfl s1.1 (as := [(1, 282), (0, x1), (0, h 2 308 x1)]) rfl ⟨Nat.le_of_ble_eq_true rfl, Nat.le_of_ble_eq_true rfl, Nat.le_of_ble_eq_true rfl, Nat.le_of_ble_eq_true rfl⟩
theorem rX13_topRow_25 {x1 : Int} {x2 : Int} {y0 : Int} {y1 : Int} {h : vH} (s1 : shModel h) (p2 : x2 = 0 → 0 ≤ x1) (p3 : x2 = 0 → x1 < 4) : vrun mX13_topRow 25 [(1, 282), (0, x1), (0, x2)] [(0, y0), (0, y1), (1, 282)] h = vret vrun mX13_topRow 40 [(1, 282), (0, x1), (0, x2)] [] (vcl mX13_downRow [(1, 282), (0, y1), (0, y0), (0, (if x2 = 0 then h 2 309 x1 else 0)), (0, 0)] h) := by
  refine (rn_iload_n (pc := 25) (dd bX13_topRow dX13_topRow_25) rfl).trans ?_
  have e1 : vrun mX13_topRow 26 [(1, 282), (0, x1), (0, x2)] [(0, x2), (0, y0), (0, y1), (1, 282)] h = vrun mX13_topRow 39 [(1, 282), (0, x1), (0, x2)] [(0, (if x2 = 0 then h 2 309 x1 else 0)), (0, y0), (0, y1), (1, 282)] h := by
    refine (rn_if_eq (t := 33) (pc := 26) (dd bX13_topRow dX13_topRow_26) rfl).trans ?_
    by_cases c1 : x2 = 0
    · refine (if_pos c1).trans ?_
      refine (rn_aload_n (pc := 33) (dd bX13_topRow dX13_topRow_33) rfl).trans ?_
      refine (rg_gf (pc := 34) (dd bX13_topRow dX13_topRow_34) (ci := 14) (j := 28) rfl rfl (key := 1528) rfl (kc := 34) rfl s1.1 s1.2.2.2.2.2.2.2.2.2.2.2.2.2.2.2.2.2.2.2.2.2.2.2.2.2.2.2.2.2.2.2.2.2.2.2.2.2.2.2.2.2.2.2.2.2.2.2.2.2.2.2.2.2.2.2.2.2.2.2.2.2.2.2.2.2.2.2.2.2.2.2.2.2.2.2.2.2.2.2.1).trans ?_
      refine (rn_iload_n (pc := 37) (dd bX13_topRow dX13_topRow_37) rfl).trans ?_
      refine (rg_iaload (pc := 38) (dd bX13_topRow dX13_topRow_38) s1.2.2.2.2.2.2.2.2.2.2.2.2.2.2.2.2.2.2.2.2.2.2.2.2.2.2.2.2.2.2.2.2.2.2.2.2.2.2.2.2.2.2.2.2.2.2.2.2.2.2.2.2.2.2.2.2.2.2.2.2.2.2.2.2.2.2.2.2.2.2.2.2.2.2.2.2.2.2.2.2.1 s1.2.2.2.2.2.2.2.2.2.2.2.2.2.2.2.2.2.2.2.2.2.2.2.2.2.2.2.2.2.2.2.2.2.2.2.2.2.2.2.2.2.2.2.2.2.2.2.2.2.2.2.2.2.2.2.2.2.2.2.2.2.2.2.2.2.2.2.2.2.2.2.2.2.2.2.2.2.2.2.2.2.1 (p2 c1) (p3 c1) rfl).trans ?_
      refine Eq.trans (b := vrun mX13_topRow 39 [(1, 282), (0, x1), (0, x2)] [(0, h 2 309 x1), (0, y0), (0, y1), (1, 282)] h) rfl ?_
      simp only [if_pos c1]
    · refine (if_neg c1).trans ?_
      refine (rn_iconst (pc := 29) (dd bX13_topRow dX13_topRow_29) (by decide)).trans ?_
      refine (rn_goto (t := 39) (pc := 30) (dd bX13_topRow dX13_topRow_30) rfl).trans ?_
      refine Eq.trans (b := vrun mX13_topRow 39 [(1, 282), (0, x1), (0, x2)] [(0, 0), (0, y0), (0, y1), (1, 282)] h) rfl ?_
      simp only [if_neg c1]
  refine e1.trans ?_
  refine (rn_iconst (pc := 39) (dd bX13_topRow dX13_topRow_39) (by decide)).trans ?_
  exact rg_virtual (pc := 40) (dd bX13_topRow dX13_topRow_40) rfl rfl (by decide) (kc := 34) rfl s1.1 (as := [(1, 282), (0, y1), (0, y0), (0, (if x2 = 0 then h 2 309 x1 else 0)), (0, 0)]) rfl ⟨Nat.le_of_ble_eq_true rfl, Nat.le_of_ble_eq_true rfl, Nat.le_of_ble_eq_true rfl, Nat.le_of_ble_eq_true rfl⟩
theorem rX13_topRow_43 {x1 : Int} {x2 : Int} {y0 : Int} {h : vH} : vrun mX13_topRow 43 [(1, 282), (0, x1), (0, x2)] [(0, y0)] h = some (.inl (some (0, y0)), h) := by
  exact rn_ireturn (pc := 43) (dd bX13_topRow dX13_topRow_43) (Or.inl rfl)
theorem bX13_marginOf : vmB mX13_marginOf = cX13_marginOf := rfl
theorem rX13_marginOf_0 {x1 : Int} {h : vH} (s1 : shModel h) (p2 : 0 ≤ x1) (p3 : x1 < 4) (p4 : (-2147483648) ≤ h 2 310 x1 - 1) (p5 : h 2 310 x1 - 1 < 2147483648) (p6 : 0 ≤ h 2 310 x1 - 1) : vrun mX13_marginOf 0 [(1, 282), (0, x1)] [] h = some (.inl (some (0, (if (h 2 310 x1 - 1) / 2 ≤ h 2 288 x1 then (h 2 310 x1 - 1) / 2 else h 2 288 x1))), h) := by
  refine (rn_aload_n (pc := 0) (dd bX13_marginOf dX13_marginOf_0) rfl).trans ?_
  refine (rg_gf (pc := 1) (dd bX13_marginOf dX13_marginOf_1) (ci := 14) (j := 7) rfl rfl (key := 1507) rfl (kc := 34) rfl s1.1 s1.2.2.2.2.2.2.2.2.2.2.2.2.2.2.2.2.1).trans ?_
  refine (rn_iload_n (pc := 4) (dd bX13_marginOf dX13_marginOf_4) rfl).trans ?_
  refine (rg_iaload (pc := 5) (dd bX13_marginOf dX13_marginOf_5) s1.2.2.2.2.2.2.2.2.2.2.2.2.2.2.2.2.2.1 s1.2.2.2.2.2.2.2.2.2.2.2.2.2.2.2.2.2.2.1 p2 p3 rfl).trans ?_
  refine (rn_aload_n (pc := 6) (dd bX13_marginOf dX13_marginOf_6) rfl).trans ?_
  refine (rg_gf (pc := 7) (dd bX13_marginOf dX13_marginOf_7) (ci := 14) (j := 29) rfl rfl (key := 1529) rfl (kc := 34) rfl s1.1 s1.2.2.2.2.2.2.2.2.2.2.2.2.2.2.2.2.2.2.2.2.2.2.2.2.2.2.2.2.2.2.2.2.2.2.2.2.2.2.2.2.2.2.2.2.2.2.2.2.2.2.2.2.2.2.2.2.2.2.2.2.2.2.2.2.2.2.2.2.2.2.2.2.2.2.2.2.2.2.2.2.2.2.1).trans ?_
  refine (rn_iload_n (pc := 10) (dd bX13_marginOf dX13_marginOf_10) rfl).trans ?_
  refine (rg_iaload (pc := 11) (dd bX13_marginOf dX13_marginOf_11) s1.2.2.2.2.2.2.2.2.2.2.2.2.2.2.2.2.2.2.2.2.2.2.2.2.2.2.2.2.2.2.2.2.2.2.2.2.2.2.2.2.2.2.2.2.2.2.2.2.2.2.2.2.2.2.2.2.2.2.2.2.2.2.2.2.2.2.2.2.2.2.2.2.2.2.2.2.2.2.2.2.2.2.2.1 s1.2.2.2.2.2.2.2.2.2.2.2.2.2.2.2.2.2.2.2.2.2.2.2.2.2.2.2.2.2.2.2.2.2.2.2.2.2.2.2.2.2.2.2.2.2.2.2.2.2.2.2.2.2.2.2.2.2.2.2.2.2.2.2.2.2.2.2.2.2.2.2.2.2.2.2.2.2.2.2.2.2.2.2.2.1 (by omega) (by omega) rfl).trans ?_
  refine (rn_iconst (pc := 12) (dd bX13_marginOf dX13_marginOf_12) (by decide)).trans ?_
  refine (rg_isub (pc := 13) (dd bX13_marginOf dX13_marginOf_13) p4 p5).trans ?_
  refine (rn_iconst (pc := 14) (dd bX13_marginOf dX13_marginOf_14) (by decide)).trans ?_
  refine (rg_idiv (pc := 15) (dd bX13_marginOf dX13_marginOf_15) (by decide) p6 (by omega)).trans ?_
  refine (rg_static (pc := 16) (dd bX13_marginOf dX13_marginOf_16) rfl (by decide) (Nat.le_of_ble_eq_true rfl) (as := [(0, h 2 288 x1), (0, (h 2 310 x1 - 1) / 2)]) rfl rfl ⟨Nat.le_of_ble_eq_true rfl, Nat.le_of_ble_eq_true rfl, Nat.le_of_ble_eq_true rfl, Nat.le_of_ble_eq_true rfl⟩).trans ?_
  refine (vret_v spX13_lesser).trans ?_
  exact rn_ireturn (pc := 19) (dd bX13_marginOf dX13_marginOf_19) (Or.inl rfl)
def fX13_marginOf (h : vH) (x1 : Int) : Int := (if (h 2 310 x1 - 1) / 2 ≤ h 2 288 x1 then (h 2 310 x1 - 1) / 2 else h 2 288 x1)
theorem spX13_marginOf {x1 : Int} {h : vH} (s1 : shModel h) (p2 : 0 ≤ x1) (p3 : x1 < 4) (p4 : (-2147483648) ≤ h 2 310 x1 - 1) (p5 : h 2 310 x1 - 1 < 2147483648) (p6 : 0 ≤ h 2 310 x1 - 1) : vcl mX13_marginOf [(1, 282), (0, x1)] h = some (.inl (some (0, fX13_marginOf h x1)), h) := by
  refine (show _ = _ from rX13_marginOf_0 s1 p2 p3 p4 p5 p6).trans ?_
  rfl
theorem bX13_placeOf : vmB mX13_placeOf = cX13_placeOf := rfl
theorem rX13_placeOf_0 {x1 : Int} {x2 : Int} {h : vH} (s1 : shModel h) : vrun mX13_placeOf 0 [(1, 282), (0, x1), (0, x2), (9, 0), (9, 0), (9, 0)] [] h = vret vrun mX13_placeOf 3 [(1, 282), (0, x1), (0, x2), (9, 0), (9, 0), (9, 0)] [] (vcl mX13_lineOf [(1, 282), (0, x1), (0, x2)] h) := by
  refine (rn_aload_n (pc := 0) (dd bX13_placeOf dX13_placeOf_0) rfl).trans ?_
  refine (rn_iload_n (pc := 1) (dd bX13_placeOf dX13_placeOf_1) rfl).trans ?_
  refine (rn_iload_n (pc := 2) (dd bX13_placeOf dX13_placeOf_2) rfl).trans ?_
  exact rg_virtual (pc := 3) (dd bX13_placeOf dX13_placeOf_3) rfl rfl (by decide) (kc := 34) rfl s1.1 (as := [(1, 282), (0, x1), (0, x2)]) rfl ⟨Nat.le_of_ble_eq_true rfl, Nat.le_of_ble_eq_true rfl, Nat.le_of_ble_eq_true rfl, Nat.le_of_ble_eq_true rfl⟩
theorem rX13_placeOf_6 {x1 : Int} {x2 : Int} {y0 : Int} {h : vH} (s1 : shModel h) : vrun mX13_placeOf 6 [(1, 282), (0, x1), (0, x2), (9, 0), (9, 0), (9, 0)] [(0, y0)] h = vret vrun mX13_placeOf 10 [(1, 282), (0, x1), (0, x2), (0, y0), (9, 0), (9, 0)] [] (vcl mX13_laysRow [(1, 282), (0, x1), (0, x2)] h) := by
  refine (rn_istore_n (pc := 6) (dd bX13_placeOf dX13_placeOf_6) (Nat.le_of_ble_eq_true rfl) rfl).trans ?_
  refine (rn_aload_n (pc := 7) (dd bX13_placeOf dX13_placeOf_7) rfl).trans ?_
  refine (rn_iload_n (pc := 8) (dd bX13_placeOf dX13_placeOf_8) rfl).trans ?_
  refine (rn_iload_n (pc := 9) (dd bX13_placeOf dX13_placeOf_9) rfl).trans ?_
  exact rg_virtual (pc := 10) (dd bX13_placeOf dX13_placeOf_10) rfl rfl (by decide) (kc := 34) rfl s1.1 (as := [(1, 282), (0, x1), (0, x2)]) rfl ⟨Nat.le_of_ble_eq_true rfl, Nat.le_of_ble_eq_true rfl, Nat.le_of_ble_eq_true rfl, Nat.le_of_ble_eq_true rfl⟩
theorem rX13_placeOf_13 {x1 : Int} {x2 : Int} {x3 : Int} {y0 : Int} {h : vH} (s1 : shModel h) (p2 : 0 ≤ y0) (p3 : y0 < 142) : vrun mX13_placeOf 13 [(1, 282), (0, x1), (0, x2), (0, x3), (9, 0), (9, 0)] [(0, y0)] h = vrun mX13_placeOf 24 [(1, 282), (0, x1), (0, x2), (0, x3), (0, y0), (0, h 2 320 y0)] [] h := by
  refine (rn_istore (pc := 13) (dd bX13_placeOf dX13_placeOf_13) (Nat.le_of_ble_eq_true rfl) rfl).trans ?_
  refine (rn_aload_n (pc := 15) (dd bX13_placeOf dX13_placeOf_15) rfl).trans ?_
  refine (rg_gf (pc := 16) (dd bX13_placeOf dX13_placeOf_16) (ci := 14) (j := 39) rfl rfl (key := 1539) rfl (kc := 34) rfl s1.1 s1.2.2.2.2.2.2.2.2.2.2.2.2.2.2.2.2.2.2.2.2.2.2.2.2.2.2.2.2.2.2.2.2.2.2.2.2.2.2.2.2.2.2.2.2.2.2.2.2.2.2.2.2.2.2.2.2.2.2.2.2.2.2.2.2.2.2.2.2.2.2.2.2.2.2.2.2.2.2.2.2.2.2.2.2.2.2.2.2.2.2.2.2.2.2.2.2.2.2.2.2.2.2.2.2.2.2.2.2.2.2.2.2.1).trans ?_
  refine (rn_iload (pc := 19) (dd bX13_placeOf dX13_placeOf_19) rfl).trans ?_
  refine (rg_iaload (pc := 21) (dd bX13_placeOf dX13_placeOf_21) s1.2.2.2.2.2.2.2.2.2.2.2.2.2.2.2.2.2.2.2.2.2.2.2.2.2.2.2.2.2.2.2.2.2.2.2.2.2.2.2.2.2.2.2.2.2.2.2.2.2.2.2.2.2.2.2.2.2.2.2.2.2.2.2.2.2.2.2.2.2.2.2.2.2.2.2.2.2.2.2.2.2.2.2.2.2.2.2.2.2.2.2.2.2.2.2.2.2.2.2.2.2.2.2.2.2.2.2.2.2.2.2.2.2.1 s1.2.2.2.2.2.2.2.2.2.2.2.2.2.2.2.2.2.2.2.2.2.2.2.2.2.2.2.2.2.2.2.2.2.2.2.2.2.2.2.2.2.2.2.2.2.2.2.2.2.2.2.2.2.2.2.2.2.2.2.2.2.2.2.2.2.2.2.2.2.2.2.2.2.2.2.2.2.2.2.2.2.2.2.2.2.2.2.2.2.2.2.2.2.2.2.2.2.2.2.2.2.2.2.2.2.2.2.2.2.2.2.2.2.2.1 p2 p3 rfl).trans ?_
  refine (rn_istore (pc := 22) (dd bX13_placeOf dX13_placeOf_22) (Nat.le_of_ble_eq_true rfl) rfl).trans ?_
  rfl
theorem rX13_placeOf_24 {x1 : Int} {x2 : Int} {x3 : Int} {x4 : Int} {x5 : Int} {h : vH} (s1 : shModel h) (p2 : (-2147483648) ≤ x4 + 1) (p3 : x4 + 1 < 2147483648) (p4 : 0 ≤ x4 + 1) (p5 : x4 + 1 < 142) (p6 : h 2 320 (x4 + 1) ≤ x5 → (-2147483648) ≤ h 1541 282 0 - 1) (p7 : h 2 320 (x4 + 1) ≤ x5 → h 1541 282 0 - 1 < 2147483648) (p8 : h 2 320 (x4 + 1) ≤ x5 → x4 = h 1541 282 0 - 1 → 0 ≤ x3) (p9 : h 2 320 (x4 + 1) ≤ x5 → x4 = h 1541 282 0 - 1 → x3 < 60) (p10 : ¬ (h 2 320 (x4 + 1) ≤ x5) → 0 ≤ x5) (p11 : ¬ (h 2 320 (x4 + 1) ≤ x5) → x5 < 140) : vrun mX13_placeOf 24 [(1, 282), (0, x1), (0, x2), (0, x3), (0, x4), (0, x5)] [] h = if h 2 320 (x4 + 1) ≤ x5 then some (.inl (some (0, (if x4 = h 1541 282 0 - 1 then h 2 284 x3 else 0))), h) else if h 2 313 x5 = (-1) then vrun mX13_placeOf 24 [(1, 282), (0, x1), (0, x2), (0, x3), (0, x4), (0, x5 + 1)] [] h else some (.inl (some (0, h 2 313 x5)), h) := by
  refine (rn_iload (pc := 24) (dd bX13_placeOf dX13_placeOf_24) rfl).trans ?_
  refine (rn_aload_n (pc := 26) (dd bX13_placeOf dX13_placeOf_26) rfl).trans ?_
  refine (rg_gf (pc := 27) (dd bX13_placeOf dX13_placeOf_27) (ci := 14) (j := 39) rfl rfl (key := 1539) rfl (kc := 34) rfl s1.1 s1.2.2.2.2.2.2.2.2.2.2.2.2.2.2.2.2.2.2.2.2.2.2.2.2.2.2.2.2.2.2.2.2.2.2.2.2.2.2.2.2.2.2.2.2.2.2.2.2.2.2.2.2.2.2.2.2.2.2.2.2.2.2.2.2.2.2.2.2.2.2.2.2.2.2.2.2.2.2.2.2.2.2.2.2.2.2.2.2.2.2.2.2.2.2.2.2.2.2.2.2.2.2.2.2.2.2.2.2.2.2.2.2.1).trans ?_
  refine (rn_iload (pc := 30) (dd bX13_placeOf dX13_placeOf_30) rfl).trans ?_
  refine (rn_iconst (pc := 32) (dd bX13_placeOf dX13_placeOf_32) (by decide)).trans ?_
  refine (rg_iadd (pc := 33) (dd bX13_placeOf dX13_placeOf_33) p2 p3).trans ?_
  refine (rg_iaload (pc := 34) (dd bX13_placeOf dX13_placeOf_34) s1.2.2.2.2.2.2.2.2.2.2.2.2.2.2.2.2.2.2.2.2.2.2.2.2.2.2.2.2.2.2.2.2.2.2.2.2.2.2.2.2.2.2.2.2.2.2.2.2.2.2.2.2.2.2.2.2.2.2.2.2.2.2.2.2.2.2.2.2.2.2.2.2.2.2.2.2.2.2.2.2.2.2.2.2.2.2.2.2.2.2.2.2.2.2.2.2.2.2.2.2.2.2.2.2.2.2.2.2.2.2.2.2.2.1 s1.2.2.2.2.2.2.2.2.2.2.2.2.2.2.2.2.2.2.2.2.2.2.2.2.2.2.2.2.2.2.2.2.2.2.2.2.2.2.2.2.2.2.2.2.2.2.2.2.2.2.2.2.2.2.2.2.2.2.2.2.2.2.2.2.2.2.2.2.2.2.2.2.2.2.2.2.2.2.2.2.2.2.2.2.2.2.2.2.2.2.2.2.2.2.2.2.2.2.2.2.2.2.2.2.2.2.2.2.2.2.2.2.2.2.1 p4 p5 rfl).trans ?_
  refine (rn_icmp_ge (t := 63) (pc := 35) (dd bX13_placeOf dX13_placeOf_35) rfl).trans (itec (fun c1 => ?_) (fun c1 => ?_))
  · refine (rn_iload (pc := 63) (dd bX13_placeOf dX13_placeOf_63) rfl).trans ?_
    refine (rn_aload_n (pc := 65) (dd bX13_placeOf dX13_placeOf_65) rfl).trans ?_
    refine (rg_gf (pc := 66) (dd bX13_placeOf dX13_placeOf_66) (ci := 14) (j := 41) rfl rfl (key := 1541) rfl (kc := 34) rfl s1.1 rfl).trans ?_
    refine (rn_iconst (pc := 69) (dd bX13_placeOf dX13_placeOf_69) (by decide)).trans ?_
    refine (rg_isub (pc := 70) (dd bX13_placeOf dX13_placeOf_70) (p6 c1) (p7 c1)).trans ?_
    have e1 : vrun mX13_placeOf 71 [(1, 282), (0, x1), (0, x2), (0, x3), (0, x4), (0, x5)] [(0, h 1541 282 0 - 1), (0, x4)] h = vrun mX13_placeOf 84 [(1, 282), (0, x1), (0, x2), (0, x3), (0, x4), (0, x5)] [(0, (if x4 = h 1541 282 0 - 1 then h 2 284 x3 else 0))] h := by
      refine (rg_icmp_ne (t := 83) (pc := 71) (dd bX13_placeOf dX13_placeOf_71) rfl).trans ?_
      by_cases c2 : x4 = h 1541 282 0 - 1
      · refine (if_pos c2).trans ?_
        refine (rn_aload_n (pc := 74) (dd bX13_placeOf dX13_placeOf_74) rfl).trans ?_
        refine (rg_gf (pc := 75) (dd bX13_placeOf dX13_placeOf_75) (ci := 14) (j := 2) rfl rfl (key := 1502) rfl (kc := 34) rfl s1.1 s1.2.2.2.2.1).trans ?_
        refine (rn_iload_n (pc := 78) (dd bX13_placeOf dX13_placeOf_78) rfl).trans ?_
        refine (rg_iaload (pc := 79) (dd bX13_placeOf dX13_placeOf_79) s1.2.2.2.2.2.1 s1.2.2.2.2.2.2.1 (p8 c1 c2) (p9 c1 c2) rfl).trans ?_
        refine (rn_goto (t := 84) (pc := 80) (dd bX13_placeOf dX13_placeOf_80) rfl).trans ?_
        refine Eq.trans (b := vrun mX13_placeOf 84 [(1, 282), (0, x1), (0, x2), (0, x3), (0, x4), (0, x5)] [(0, h 2 284 x3)] h) rfl ?_
        simp only [if_pos c2]
      · refine (if_neg c2).trans ?_
        refine (rn_iconst (pc := 83) (dd bX13_placeOf dX13_placeOf_83) (by decide)).trans ?_
        refine Eq.trans (b := vrun mX13_placeOf 84 [(1, 282), (0, x1), (0, x2), (0, x3), (0, x4), (0, x5)] [(0, 0)] h) rfl ?_
        simp only [if_neg c2]
    refine e1.trans ?_
    exact rn_ireturn (pc := 84) (dd bX13_placeOf dX13_placeOf_84) (Or.inl rfl)
  · refine (rn_aload_n (pc := 38) (dd bX13_placeOf dX13_placeOf_38) rfl).trans ?_
    refine (rg_gf (pc := 39) (dd bX13_placeOf dX13_placeOf_39) (ci := 14) (j := 32) rfl rfl (key := 1532) rfl (kc := 34) rfl s1.1 s1.2.2.2.2.2.2.2.2.2.2.2.2.2.2.2.2.2.2.2.2.2.2.2.2.2.2.2.2.2.2.2.2.2.2.2.2.2.2.2.2.2.2.2.2.2.2.2.2.2.2.2.2.2.2.2.2.2.2.2.2.2.2.2.2.2.2.2.2.2.2.2.2.2.2.2.2.2.2.2.2.2.2.2.2.2.2.2.2.2.2.2.1).trans ?_
    refine (rn_iload (pc := 42) (dd bX13_placeOf dX13_placeOf_42) rfl).trans ?_
    refine (rg_iaload (pc := 44) (dd bX13_placeOf dX13_placeOf_44) s1.2.2.2.2.2.2.2.2.2.2.2.2.2.2.2.2.2.2.2.2.2.2.2.2.2.2.2.2.2.2.2.2.2.2.2.2.2.2.2.2.2.2.2.2.2.2.2.2.2.2.2.2.2.2.2.2.2.2.2.2.2.2.2.2.2.2.2.2.2.2.2.2.2.2.2.2.2.2.2.2.2.2.2.2.2.2.2.2.2.2.2.2.1 s1.2.2.2.2.2.2.2.2.2.2.2.2.2.2.2.2.2.2.2.2.2.2.2.2.2.2.2.2.2.2.2.2.2.2.2.2.2.2.2.2.2.2.2.2.2.2.2.2.2.2.2.2.2.2.2.2.2.2.2.2.2.2.2.2.2.2.2.2.2.2.2.2.2.2.2.2.2.2.2.2.2.2.2.2.2.2.2.2.2.2.2.2.2.1 (p10 c1) (p11 c1) rfl).trans ?_
    refine (rn_iconst (pc := 45) (dd bX13_placeOf dX13_placeOf_45) (by decide)).trans ?_
    refine (rn_icmp_eq (t := 57) (pc := 46) (dd bX13_placeOf dX13_placeOf_46) rfl).trans (itec (fun c3 => ?_) (fun c3 => ?_))
    · refine (rg_iinc (pc := 57) (dd bX13_placeOf dX13_placeOf_57) rfl (Nat.le_of_ble_eq_true rfl) (by have z0 := p10 c1; have z1 := p11 c1; omega) (by have z0 := p10 c1; have z1 := p11 c1; omega) rfl).trans ?_
      refine (rn_goto (t := 24) (pc := 60) (dd bX13_placeOf dX13_placeOf_60) rfl).trans ?_
      rfl
    · refine (rn_aload_n (pc := 49) (dd bX13_placeOf dX13_placeOf_49) rfl).trans ?_
      refine (rg_gf (pc := 50) (dd bX13_placeOf dX13_placeOf_50) (ci := 14) (j := 32) rfl rfl (key := 1532) rfl (kc := 34) rfl s1.1 s1.2.2.2.2.2.2.2.2.2.2.2.2.2.2.2.2.2.2.2.2.2.2.2.2.2.2.2.2.2.2.2.2.2.2.2.2.2.2.2.2.2.2.2.2.2.2.2.2.2.2.2.2.2.2.2.2.2.2.2.2.2.2.2.2.2.2.2.2.2.2.2.2.2.2.2.2.2.2.2.2.2.2.2.2.2.2.2.2.2.2.2.1).trans ?_
      refine (rn_iload (pc := 53) (dd bX13_placeOf dX13_placeOf_53) rfl).trans ?_
      refine (rg_iaload (pc := 55) (dd bX13_placeOf dX13_placeOf_55) s1.2.2.2.2.2.2.2.2.2.2.2.2.2.2.2.2.2.2.2.2.2.2.2.2.2.2.2.2.2.2.2.2.2.2.2.2.2.2.2.2.2.2.2.2.2.2.2.2.2.2.2.2.2.2.2.2.2.2.2.2.2.2.2.2.2.2.2.2.2.2.2.2.2.2.2.2.2.2.2.2.2.2.2.2.2.2.2.2.2.2.2.2.1 s1.2.2.2.2.2.2.2.2.2.2.2.2.2.2.2.2.2.2.2.2.2.2.2.2.2.2.2.2.2.2.2.2.2.2.2.2.2.2.2.2.2.2.2.2.2.2.2.2.2.2.2.2.2.2.2.2.2.2.2.2.2.2.2.2.2.2.2.2.2.2.2.2.2.2.2.2.2.2.2.2.2.2.2.2.2.2.2.2.2.2.2.2.2.1 (by have z0 := p10 c1; have z1 := p11 c1; omega) (by have z0 := p10 c1; have z1 := p11 c1; omega) rfl).trans ?_
      exact rn_ireturn (pc := 56) (dd bX13_placeOf dX13_placeOf_56) (Or.inl rfl)
theorem bX13_tops : vmB mX13_tops = cX13_tops := rfl
theorem rX13_tops_0 {x1 : Int} {x2 : Int} {h : vH} (s1 : shModel h) : vrun mX13_tops 0 [(1, 282), (0, x1), (0, x2)] [] h = vret vrun mX13_tops 8 [(1, 282), (0, x1), (0, x2)] [(0, x1), (1, 309)] (vcl mX13_placeOf [(1, 282), (0, x1), (0, x2)] h) := by
  refine (rn_aload_n (pc := 0) (dd bX13_tops dX13_tops_0) rfl).trans ?_
  refine (rg_gf (pc := 1) (dd bX13_tops dX13_tops_1) (ci := 14) (j := 28) rfl rfl (key := 1528) rfl (kc := 34) rfl s1.1 s1.2.2.2.2.2.2.2.2.2.2.2.2.2.2.2.2.2.2.2.2.2.2.2.2.2.2.2.2.2.2.2.2.2.2.2.2.2.2.2.2.2.2.2.2.2.2.2.2.2.2.2.2.2.2.2.2.2.2.2.2.2.2.2.2.2.2.2.2.2.2.2.2.2.2.2.2.2.2.2.1).trans ?_
  refine (rn_iload_n (pc := 4) (dd bX13_tops dX13_tops_4) rfl).trans ?_
  refine (rn_aload_n (pc := 5) (dd bX13_tops dX13_tops_5) rfl).trans ?_
  refine (rn_iload_n (pc := 6) (dd bX13_tops dX13_tops_6) rfl).trans ?_
  refine (rn_iload_n (pc := 7) (dd bX13_tops dX13_tops_7) rfl).trans ?_
  exact rg_virtual (pc := 8) (dd bX13_tops dX13_tops_8) rfl rfl (by decide) (kc := 34) rfl s1.1 (as := [(1, 282), (0, x1), (0, x2)]) rfl ⟨Nat.le_of_ble_eq_true rfl, Nat.le_of_ble_eq_true rfl, Nat.le_of_ble_eq_true rfl, Nat.le_of_ble_eq_true rfl⟩
theorem rX13_tops_11 {x1 : Int} {x2 : Int} {y0 : Int} {y1 : Int} {y2 : Int} {h : vH} (p1 : h 0 y2 0 = 1) (p2 : 0 ≤ y1) (p3 : y1 < h 1 y2 0) (s4 : shModel h) : vrun mX13_tops 11 [(1, 282), (0, x1), (0, x2)] [(0, y0), (0, y1), (1, y2)] h = vret vrun mX13_tops 20 [(1, 282), (0, x1), (0, x2)] [(0, x1), (1, 308)] (vcl mX13_lineOf [(1, 282), (0, x1), (0, x2)] (vup h 2 y2 y1 y0)) := by
  refine (rg_iastore (pc := 11) (dd bX13_tops dX13_tops_11) p1 rfl p2 p3).trans ?_
  refine (rn_aload_n (pc := 12) (dd bX13_tops dX13_tops_12) rfl).trans ?_
  refine (rg_gf (pc := 13) (dd bX13_tops dX13_tops_13) (ci := 14) (j := 27) rfl rfl (key := 1527) rfl (kc := 34) rfl ((vup_k (by decide)).trans s4.1) ((vup_k (by decide)).trans s4.2.2.2.2.2.2.2.2.2.2.2.2.2.2.2.2.2.2.2.2.2.2.2.2.2.2.2.2.2.2.2.2.2.2.2.2.2.2.2.2.2.2.2.2.2.2.2.2.2.2.2.2.2.2.2.2.2.2.2.2.2.2.2.2.2.2.2.2.2.2.2.2.2.2.2.2.1)).trans ?_
  refine (rn_iload_n (pc := 16) (dd bX13_tops dX13_tops_16) rfl).trans ?_
  refine (rn_aload_n (pc := 17) (dd bX13_tops dX13_tops_17) rfl).trans ?_
  refine (rn_iload_n (pc := 18) (dd bX13_tops dX13_tops_18) rfl).trans ?_
  refine (rn_iload_n (pc := 19) (dd bX13_tops dX13_tops_19) rfl).trans ?_
  exact rg_virtual (pc := 20) (dd bX13_tops dX13_tops_20) rfl rfl (by decide) (kc := 34) rfl ((vup_k (by decide)).trans s4.1) (as := [(1, 282), (0, x1), (0, x2)]) rfl ⟨Nat.le_of_ble_eq_true rfl, Nat.le_of_ble_eq_true rfl, Nat.le_of_ble_eq_true rfl, Nat.le_of_ble_eq_true rfl⟩
theorem rX13_tops_23 {x1 : Int} {x2 : Int} {y0 : Int} {y1 : Int} {y2 : Int} {h : vH} (p1 : h 0 y2 0 = 1) (p2 : 0 ≤ y1) (p3 : y1 < h 1 y2 0) : vrun mX13_tops 23 [(1, 282), (0, x1), (0, x2)] [(0, y0), (0, y1), (1, y2)] h = some (.inl none, vup h 2 y2 y1 y0) := by
  refine (rg_iastore (pc := 23) (dd bX13_tops dX13_tops_23) p1 rfl p2 p3).trans ?_
  exact rn_return (pc := 24) (dd bX13_tops dX13_tops_24) rfl
theorem bX13_looks : vmB mX13_looks = cX13_looks := rfl
theorem rX13_looks_0 {x1 : Int} {h : vH} (s1 : shModel h) : vrun mX13_looks 0 [(1, 282), (0, x1), (9, 0), (9, 0), (9, 0)] [] h = vret vrun mX13_looks 2 [(1, 282), (0, x1), (9, 0), (9, 0), (9, 0)] [] (vcl mX13_rowNow [(1, 282), (0, x1)] h) := by
  refine (rn_aload_n (pc := 0) (dd bX13_looks dX13_looks_0) rfl).trans ?_
  refine (rn_iload_n (pc := 1) (dd bX13_looks dX13_looks_1) rfl).trans ?_
  exact rg_virtual (pc := 2) (dd bX13_looks dX13_looks_2) rfl rfl (by decide) (kc := 34) rfl s1.1 (as := [(1, 282), (0, x1)]) rfl ⟨Nat.le_of_ble_eq_true rfl, Nat.le_of_ble_eq_true rfl, Nat.le_of_ble_eq_true rfl, Nat.le_of_ble_eq_true rfl⟩
theorem rX13_looks_5 {x1 : Int} {y0 : Int} {h : vH} (s1 : shModel h) : vrun mX13_looks 5 [(1, 282), (0, x1), (9, 0), (9, 0), (9, 0)] [(0, y0)] h = vret vrun mX13_looks 8 [(1, 282), (0, x1), (0, y0), (9, 0), (9, 0)] [] (vcl mX13_topRow [(1, 282), (0, x1)] h) := by
  refine (rn_istore_n (pc := 5) (dd bX13_looks dX13_looks_5) (Nat.le_of_ble_eq_true rfl) rfl).trans ?_
  refine (rn_aload_n (pc := 6) (dd bX13_looks dX13_looks_6) rfl).trans ?_
  refine (rn_iload_n (pc := 7) (dd bX13_looks dX13_looks_7) rfl).trans ?_
  exact rg_virtual (pc := 8) (dd bX13_looks dX13_looks_8) rfl rfl (by decide) (kc := 34) rfl s1.1 (as := [(1, 282), (0, x1)]) rfl ⟨Nat.le_of_ble_eq_true rfl, Nat.le_of_ble_eq_true rfl, Nat.le_of_ble_eq_true rfl, Nat.le_of_ble_eq_true rfl⟩
theorem rX13_looks_11 {x1 : Int} {x2 : Int} {y0 : Int} {h : vH} (s1 : shModel h) (p2 : 0 ≤ x1) (p3 : x1 < 4) (p4 : (-2147483648) ≤ h 2 310 x1 - 1) (p5 : h 2 310 x1 - 1 < 2147483648) (p6 : 0 ≤ h 2 310 x1 - 1) (p7 : (-2147483648) ≤ y0 + fX13_marginOf h x1) (p8 : y0 + fX13_marginOf h x1 < 2147483648) (p9 : y0 + fX13_marginOf h x1 ≤ x2 → (-2147483648) ≤ y0 + h 2 310 x1) (p10 : y0 + fX13_marginOf h x1 ≤ x2 → y0 + h 2 310 x1 < 2147483648) (p11 : y0 + fX13_marginOf h x1 ≤ x2 → (-2147483648) ≤ y0 + h 2 310 x1 - 1) (p12 : y0 + fX13_marginOf h x1 ≤ x2 → (-2147483648) ≤ y0 + h 2 310 x1 - 1 - fX13_marginOf h x1) (p13 : y0 + fX13_marginOf h x1 ≤ x2 → y0 + h 2 310 x1 - 1 - fX13_marginOf h x1 < 2147483648) (p14 : y0 + fX13_marginOf h x1 ≤ x2 → ¬ (x2 ≤ y0 + h 2 310 x1 - 1 - fX13_marginOf h x1) → (-2147483648) ≤ h 2 310 x1 - 1 - fX13_marginOf h x1) (p15 : y0 + fX13_marginOf h x1 ≤ x2 → ¬ (x2 ≤ y0 + h 2 310 x1 - 1 - fX13_marginOf h x1) → h 2 310 x1 - 1 - fX13_marginOf h x1 < 2147483648) (p16 : y0 + fX13_marginOf h x1 ≤ x2 → ¬ (x2 ≤ y0 + h 2 310 x1 - 1 - fX13_marginOf h x1) → (-2147483648) ≤ x2 - (h 2 310 x1 - 1 - fX13_marginOf h x1)) (p17 : y0 + fX13_marginOf h x1 ≤ x2 → ¬ (x2 ≤ y0 + h 2 310 x1 - 1 - fX13_marginOf h x1) → x2 - (h 2 310 x1 - 1 - fX13_marginOf h x1) < 2147483648) (p18 : ¬ (y0 + fX13_marginOf h x1 ≤ x2) → (-2147483648) ≤ x2 - fX13_marginOf h x1) (p19 : ¬ (y0 + fX13_marginOf h x1 ≤ x2) → x2 - fX13_marginOf h x1 < 2147483648) : vrun mX13_looks 11 [(1, 282), (0, x1), (0, x2), (9, 0), (9, 0)] [(0, y0)] h = if y0 + fX13_marginOf h x1 ≤ x2 then if x2 ≤ y0 + h 2 310 x1 - 1 - fX13_marginOf h x1 then some (.inl none, h) else vret vrun mX13_looks 75 [(1, 282), (0, x1), (0, x2), (0, y0), (0, fX13_marginOf h x1)] [] (vcl mX13_tops [(1, 282), (0, x1), (0, x2 - (h 2 310 x1 - 1 - fX13_marginOf h x1))] h) else vret vrun mX13_looks 37 [(1, 282), (0, x1), (0, x2), (0, y0), (0, fX13_marginOf h x1)] [] (vcl mX13_tops [(1, 282), (0, x1), (0, (if x2 - fX13_marginOf h x1 ≤ 0 then 0 else x2 - fX13_marginOf h x1))] h) := by
  refine (rn_istore_n (pc := 11) (dd bX13_looks dX13_looks_11) (Nat.le_of_ble_eq_true rfl) rfl).trans ?_
  refine (rn_aload_n (pc := 12) (dd bX13_looks dX13_looks_12) rfl).trans ?_
  refine (rn_iload_n (pc := 13) (dd bX13_looks dX13_looks_13) rfl).trans ?_
  refine (rg_virtual (pc := 14) (dd bX13_looks dX13_looks_14) rfl rfl (by decide) (kc := 34) rfl s1.1 (as := [(1, 282), (0, x1)]) rfl ⟨Nat.le_of_ble_eq_true rfl, Nat.le_of_ble_eq_true rfl, Nat.le_of_ble_eq_true rfl, Nat.le_of_ble_eq_true rfl⟩).trans ?_
  refine (vret_v (spX13_marginOf s1 p2 p3 p4 p5 p6)).trans ?_
  refine (rn_istore (pc := 17) (dd bX13_looks dX13_looks_17) (Nat.le_of_ble_eq_true rfl) rfl).trans ?_
  refine (rn_iload_n (pc := 19) (dd bX13_looks dX13_looks_19) rfl).trans ?_
  refine (rn_iload_n (pc := 20) (dd bX13_looks dX13_looks_20) rfl).trans ?_
  refine (rn_iload (pc := 21) (dd bX13_looks dX13_looks_21) rfl).trans ?_
  refine (rg_iadd (pc := 23) (dd bX13_looks dX13_looks_23) p7 p8).trans ?_
  refine (rn_icmp_ge (t := 43) (pc := 24) (dd bX13_looks dX13_looks_24) rfl).trans (itec (fun c1 => ?_) (fun c1 => ?_))
  · refine (rn_iload_n (pc := 43) (dd bX13_looks dX13_looks_43) rfl).trans ?_
    refine (rn_iload_n (pc := 44) (dd bX13_looks dX13_looks_44) rfl).trans ?_
    refine (rn_aload_n (pc := 45) (dd bX13_looks dX13_looks_45) rfl).trans ?_
    refine (rg_gf (pc := 46) (dd bX13_looks dX13_looks_46) (ci := 14) (j := 29) rfl rfl (key := 1529) rfl (kc := 34) rfl s1.1 s1.2.2.2.2.2.2.2.2.2.2.2.2.2.2.2.2.2.2.2.2.2.2.2.2.2.2.2.2.2.2.2.2.2.2.2.2.2.2.2.2.2.2.2.2.2.2.2.2.2.2.2.2.2.2.2.2.2.2.2.2.2.2.2.2.2.2.2.2.2.2.2.2.2.2.2.2.2.2.2.2.2.2.1).trans ?_
    refine (rn_iload_n (pc := 49) (dd bX13_looks dX13_looks_49) rfl).trans ?_
    refine (rg_iaload (pc := 50) (dd bX13_looks dX13_looks_50) s1.2.2.2.2.2.2.2.2.2.2.2.2.2.2.2.2.2.2.2.2.2.2.2.2.2.2.2.2.2.2.2.2.2.2.2.2.2.2.2.2.2.2.2.2.2.2.2.2.2.2.2.2.2.2.2.2.2.2.2.2.2.2.2.2.2.2.2.2.2.2.2.2.2.2.2.2.2.2.2.2.2.2.2.1 s1.2.2.2.2.2.2.2.2.2.2.2.2.2.2.2.2.2.2.2.2.2.2.2.2.2.2.2.2.2.2.2.2.2.2.2.2.2.2.2.2.2.2.2.2.2.2.2.2.2.2.2.2.2.2.2.2.2.2.2.2.2.2.2.2.2.2.2.2.2.2.2.2.2.2.2.2.2.2.2.2.2.2.2.2.1 (by omega) (by omega) rfl).trans ?_
    refine (rg_iadd (pc := 51) (dd bX13_looks dX13_looks_51) (p9 c1) (p10 c1)).trans ?_
    refine (rn_iconst (pc := 52) (dd bX13_looks dX13_looks_52) (by decide)).trans ?_
    refine (rg_isub (pc := 53) (dd bX13_looks dX13_looks_53) (p11 c1) (by have z0 := p9 c1; have z1 := p10 c1; have z2 := p11 c1; omega)).trans ?_
    refine (rn_iload (pc := 54) (dd bX13_looks dX13_looks_54) rfl).trans ?_
    refine (rg_isub (pc := 56) (dd bX13_looks dX13_looks_56) (p12 c1) (p13 c1)).trans ?_
    refine (rn_icmp_le (t := 78) (pc := 57) (dd bX13_looks dX13_looks_57) rfl).trans (itec (fun c2 => ?_) (fun c2 => ?_))
    · exact rn_return (pc := 78) (dd bX13_looks dX13_looks_78) rfl
    · refine (rn_aload_n (pc := 60) (dd bX13_looks dX13_looks_60) rfl).trans ?_
      refine (rn_iload_n (pc := 61) (dd bX13_looks dX13_looks_61) rfl).trans ?_
      refine (rn_iload_n (pc := 62) (dd bX13_looks dX13_looks_62) rfl).trans ?_
      refine (rn_aload_n (pc := 63) (dd bX13_looks dX13_looks_63) rfl).trans ?_
      refine (rg_gf (pc := 64) (dd bX13_looks dX13_looks_64) (ci := 14) (j := 29) rfl rfl (key := 1529) rfl (kc := 34) rfl s1.1 s1.2.2.2.2.2.2.2.2.2.2.2.2.2.2.2.2.2.2.2.2.2.2.2.2.2.2.2.2.2.2.2.2.2.2.2.2.2.2.2.2.2.2.2.2.2.2.2.2.2.2.2.2.2.2.2.2.2.2.2.2.2.2.2.2.2.2.2.2.2.2.2.2.2.2.2.2.2.2.2.2.2.2.1).trans ?_
      refine (rn_iload_n (pc := 67) (dd bX13_looks dX13_looks_67) rfl).trans ?_
      refine (rg_iaload (pc := 68) (dd bX13_looks dX13_looks_68) s1.2.2.2.2.2.2.2.2.2.2.2.2.2.2.2.2.2.2.2.2.2.2.2.2.2.2.2.2.2.2.2.2.2.2.2.2.2.2.2.2.2.2.2.2.2.2.2.2.2.2.2.2.2.2.2.2.2.2.2.2.2.2.2.2.2.2.2.2.2.2.2.2.2.2.2.2.2.2.2.2.2.2.2.1 s1.2.2.2.2.2.2.2.2.2.2.2.2.2.2.2.2.2.2.2.2.2.2.2.2.2.2.2.2.2.2.2.2.2.2.2.2.2.2.2.2.2.2.2.2.2.2.2.2.2.2.2.2.2.2.2.2.2.2.2.2.2.2.2.2.2.2.2.2.2.2.2.2.2.2.2.2.2.2.2.2.2.2.2.2.1 (by omega) (by omega) rfl).trans ?_
      refine (rn_iconst (pc := 69) (dd bX13_looks dX13_looks_69) (by decide)).trans ?_
      refine (rg_isub (pc := 70) (dd bX13_looks dX13_looks_70) (by omega) (by omega)).trans ?_
      refine (rn_iload (pc := 71) (dd bX13_looks dX13_looks_71) rfl).trans ?_
      refine (rg_isub (pc := 73) (dd bX13_looks dX13_looks_73) (p14 c1 c2) (p15 c1 c2)).trans ?_
      refine (rg_isub (pc := 74) (dd bX13_looks dX13_looks_74) (p16 c1 c2) (p17 c1 c2)).trans ?_
      exact rg_virtual (pc := 75) (dd bX13_looks dX13_looks_75) rfl rfl (by decide) (kc := 34) rfl s1.1 (as := [(1, 282), (0, x1), (0, x2 - (h 2 310 x1 - 1 - fX13_marginOf h x1))]) rfl ⟨Nat.le_of_ble_eq_true rfl, Nat.le_of_ble_eq_true rfl, Nat.le_of_ble_eq_true rfl, Nat.le_of_ble_eq_true rfl⟩
  · refine (rn_aload_n (pc := 27) (dd bX13_looks dX13_looks_27) rfl).trans ?_
    refine (rn_iload_n (pc := 28) (dd bX13_looks dX13_looks_28) rfl).trans ?_
    refine (rn_iload_n (pc := 29) (dd bX13_looks dX13_looks_29) rfl).trans ?_
    refine (rn_iload (pc := 30) (dd bX13_looks dX13_looks_30) rfl).trans ?_
    refine (rg_isub (pc := 32) (dd bX13_looks dX13_looks_32) (p18 c1) (p19 c1)).trans ?_
    refine (rn_iconst (pc := 33) (dd bX13_looks dX13_looks_33) (by decide)).trans ?_
    refine (rg_static (pc := 34) (dd bX13_looks dX13_looks_34) rfl (by decide) (Nat.le_of_ble_eq_true rfl) (as := [(0, x2 - fX13_marginOf h x1), (0, 0)]) rfl rfl ⟨Nat.le_of_ble_eq_true rfl, Nat.le_of_ble_eq_true rfl, Nat.le_of_ble_eq_true rfl, Nat.le_of_ble_eq_true rfl⟩).trans ?_
    refine (vret_v spX13_greater).trans ?_
    exact rg_virtual (pc := 37) (dd bX13_looks dX13_looks_37) rfl rfl (by decide) (kc := 34) rfl s1.1 (as := [(1, 282), (0, x1), (0, (if x2 - fX13_marginOf h x1 ≤ 0 then 0 else x2 - fX13_marginOf h x1))]) rfl ⟨Nat.le_of_ble_eq_true rfl, Nat.le_of_ble_eq_true rfl, Nat.le_of_ble_eq_true rfl, Nat.le_of_ble_eq_true rfl⟩
theorem rX13_looks_78 {x1 : Int} {x2 : Int} {x3 : Int} {x4 : Int} {h : vH} : vrun mX13_looks 78 [(1, 282), (0, x1), (0, x2), (0, x3), (0, x4)] [] h = some (.inl none, h) := by
  exact rn_return (pc := 78) (dd bX13_looks dX13_looks_78) rfl
theorem rX13_looks_40 {x1 : Int} {x2 : Int} {x3 : Int} {x4 : Int} {h : vH} : vrun mX13_looks 40 [(1, 282), (0, x1), (0, x2), (0, x3), (0, x4)] [] h = some (.inl none, h) := by
  refine (rn_goto (t := 78) (pc := 40) (dd bX13_looks dX13_looks_40) rfl).trans ?_
  exact rn_return (pc := 78) (dd bX13_looks dX13_looks_78) rfl
theorem bX13_put : vmB mX13_put = cX13_put := rfl
theorem rX13_put_0 {x1 : Int} {x2 : Int} {x3 : Int} {h : vH} (s1 : shModel h) (p2 : ¬ (x1 < 0) ∧ ¬ (3 < x1) → (-2147483648) ≤ h 1504 282 0 - 1) (p3 : ¬ (x1 < 0) ∧ ¬ (3 < x1) → h 1504 282 0 - 1 < 2147483648) (p4 : (¬ (x1 < 0) ∧ ¬ (3 < x1)) ∧ ¬ (fX13_isLine h x2 = 0) → 0 ≤ x2) (p5 : (¬ (x1 < 0) ∧ ¬ (3 < x1)) ∧ ¬ (fX13_isLine h x2 = 0) → x2 < 60) (p6 : (¬ (x1 < 0) ∧ ¬ (3 < x1)) ∧ ¬ (fX13_isLine h x2 = 0) → ((¬ (x1 < 0) ∧ ¬ (3 < x1)) ∧ ¬ (fX13_isLine h x2 = 0)) ∧ ¬ (x3 < 0) ∧ ¬ (h 2 284 x2 < x3) → 0 ≤ x1) (p7 : (¬ (x1 < 0) ∧ ¬ (3 < x1)) ∧ ¬ (fX13_isLine h x2 = 0) → ((¬ (x1 < 0) ∧ ¬ (3 < x1)) ∧ ¬ (fX13_isLine h x2 = 0)) ∧ ¬ (x3 < 0) ∧ ¬ (h 2 284 x2 < x3) → x1 < 4) : vrun mX13_put 0 [(1, 282), (0, x1), (0, x2), (0, x3), (9, 0), (9, 0)] [] h = if (¬ (x1 < 0) ∧ ¬ (3 < x1)) ∧ ¬ (fX13_isLine h x2 = 0) then if ((¬ (x1 < 0) ∧ ¬ (3 < x1)) ∧ ¬ (fX13_isLine h x2 = 0)) ∧ ¬ (x3 < 0) ∧ ¬ (h 2 284 x2 < x3) then if h 2 289 x1 = 0 then vret vrun mX13_put 90 [(1, 282), (0, x1), (0, x2), (0, x3), (0, (if (¬ (x1 < 0) ∧ ¬ (3 < x1)) ∧ ¬ (fX13_isLine h x2 = 0) then 1 else 0)), (0, (if ((¬ (x1 < 0) ∧ ¬ (3 < x1)) ∧ ¬ (fX13_isLine h x2 = 0)) ∧ ¬ (x3 < 0) ∧ ¬ (h 2 284 x2 < x3) then 1 else 0))] [] (vcl mX13_isFine [(1, 282), (0, 3)] h) else vret vrun mX13_put 79 [(1, 282), (0, x1), (0, x2), (0, x3), (0, (if (¬ (x1 < 0) ∧ ¬ (3 < x1)) ∧ ¬ (fX13_isLine h x2 = 0) then 1 else 0)), (0, (if ((¬ (x1 < 0) ∧ ¬ (3 < x1)) ∧ ¬ (fX13_isLine h x2 = 0)) ∧ ¬ (x3 < 0) ∧ ¬ (h 2 284 x2 < x3) then 1 else 0))] [(1, 282)] (vcl mX13_isInvisible [(1, 282), (0, x1), (0, x2)] h) else vret vrun mX13_put 90 [(1, 282), (0, x1), (0, x2), (0, x3), (0, (if (¬ (x1 < 0) ∧ ¬ (3 < x1)) ∧ ¬ (fX13_isLine h x2 = 0) then 1 else 0)), (0, (if ((¬ (x1 < 0) ∧ ¬ (3 < x1)) ∧ ¬ (fX13_isLine h x2 = 0)) ∧ ¬ (x3 < 0) ∧ ¬ (h 2 284 x2 < x3) then 1 else 0))] [] (vcl mX13_isFine [(1, 282), (0, 2)] h) else vret vrun mX13_put 90 [(1, 282), (0, x1), (0, x2), (0, x3), (0, (if (¬ (x1 < 0) ∧ ¬ (3 < x1)) ∧ ¬ (fX13_isLine h x2 = 0) then 1 else 0)), (0, (if ((¬ (x1 < 0) ∧ ¬ (3 < x1)) ∧ ¬ (fX13_isLine h x2 = 0)) ∧ ¬ (x3 < 0) ∧ ¬ (h 2 284 x2 < x3) then 1 else 0))] [] (vcl mX13_isFine [(1, 282), (0, 1)] h) := by
  refine (rn_iload_n (pc := 0) (dd bX13_put dX13_put_0) rfl).trans ?_
  refine (rg_static (pc := 1) (dd bX13_put dX13_put_1) rfl (by decide) (Nat.le_of_ble_eq_true rfl) (as := [(0, x1)]) rfl rfl ⟨Nat.le_of_ble_eq_true rfl, Nat.le_of_ble_eq_true rfl, Nat.le_of_ble_eq_true rfl, Nat.le_of_ble_eq_true rfl⟩).trans ?_
  refine (vret_v spX13_isPane).trans ?_
  have e2 : vrun mX13_put 4 [(1, 282), (0, x1), (0, x2), (0, x3), (9, 0), (9, 0)] [(0, (if ¬ (x1 < 0) ∧ ¬ (3 < x1) then 1 else 0))] h = vrun mX13_put 20 [(1, 282), (0, x1), (0, x2), (0, x3), (9, 0), (9, 0)] [(0, (if (¬ (x1 < 0) ∧ ¬ (3 < x1)) ∧ ¬ (fX13_isLine h x2 = 0) then 1 else 0))] h := by
    refine (rg_beq (t := 19) (pc := 4) (dd bX13_put dX13_put_4) rfl).trans ?_
    by_cases c1 : ¬ (x1 < 0) ∧ ¬ (3 < x1)
    · refine (if_pos c1).trans ?_
      refine (rn_aload_n (pc := 7) (dd bX13_put dX13_put_7) rfl).trans ?_
      refine (rn_iload_n (pc := 8) (dd bX13_put dX13_put_8) rfl).trans ?_
      refine (rg_virtual (pc := 9) (dd bX13_put dX13_put_9) rfl rfl (by decide) (kc := 34) rfl s1.1 (as := [(1, 282), (0, x2)]) rfl ⟨Nat.le_of_ble_eq_true rfl, Nat.le_of_ble_eq_true rfl, Nat.le_of_ble_eq_true rfl, Nat.le_of_ble_eq_true rfl⟩).trans ?_
      refine (vret_v (spX13_isLine s1 (p2 c1) (p3 c1))).trans ?_
      have e1 : vrun mX13_put 12 [(1, 282), (0, x1), (0, x2), (0, x3), (9, 0), (9, 0)] [(0, fX13_isLine h x2)] h = vrun mX13_put 20 [(1, 282), (0, x1), (0, x2), (0, x3), (9, 0), (9, 0)] [(0, (if ¬ (fX13_isLine h x2 = 0) then 1 else 0))] h := by
        refine (rn_if_eq (t := 19) (pc := 12) (dd bX13_put dX13_put_12) rfl).trans ?_
        by_cases c2 : fX13_isLine h x2 = 0
        · refine (if_pos c2).trans ?_
          refine (rn_iconst (pc := 19) (dd bX13_put dX13_put_19) (by decide)).trans ?_
          refine Eq.trans (b := vrun mX13_put 20 [(1, 282), (0, x1), (0, x2), (0, x3), (9, 0), (9, 0)] [(0, 0)] h) rfl ?_
          simp only [c2, true_or, false_or, or_true, or_false, true_and, false_and, and_true, and_false, not_true_eq_false, not_false_eq_true, ne_eq, if_true, if_false, ↓reduceIte]
        · refine (if_neg c2).trans ?_
          refine (rn_iconst (pc := 15) (dd bX13_put dX13_put_15) (by decide)).trans ?_
          refine (rn_goto (t := 20) (pc := 16) (dd bX13_put dX13_put_16) rfl).trans ?_
          refine Eq.trans (b := vrun mX13_put 20 [(1, 282), (0, x1), (0, x2), (0, x3), (9, 0), (9, 0)] [(0, 1)] h) rfl ?_
          simp only [c2, true_or, false_or, or_true, or_false, true_and, false_and, and_true, and_false, not_true_eq_false, not_false_eq_true, ne_eq, if_true, if_false, ↓reduceIte]
      refine e1.trans ?_
      refine Eq.trans (b := vrun mX13_put 20 [(1, 282), (0, x1), (0, x2), (0, x3), (9, 0), (9, 0)] [(0, (if ¬ (fX13_isLine h x2 = 0) then 1 else 0))] h) rfl ?_
      simp only [c1, true_or, false_or, or_true, or_false, true_and, false_and, and_true, and_false, not_true_eq_false, not_false_eq_true, ne_eq, if_true, if_false, ↓reduceIte]
    · refine (if_neg c1).trans ?_
      refine (rn_iconst (pc := 19) (dd bX13_put dX13_put_19) (by decide)).trans ?_
      refine Eq.trans (b := vrun mX13_put 20 [(1, 282), (0, x1), (0, x2), (0, x3), (9, 0), (9, 0)] [(0, 0)] h) rfl ?_
      simp only [c1, true_or, false_or, or_true, or_false, true_and, false_and, and_true, and_false, not_true_eq_false, not_false_eq_true, ne_eq, if_true, if_false, ↓reduceIte]
  refine e2.trans ?_
  refine (rn_istore (pc := 20) (dd bX13_put dX13_put_20) (Nat.le_of_ble_eq_true rfl) rfl).trans ?_
  refine (rn_iload (pc := 22) (dd bX13_put dX13_put_22) rfl).trans ?_
  have e4 : vrun mX13_put 24 [(1, 282), (0, x1), (0, x2), (0, x3), (0, (if (¬ (x1 < 0) ∧ ¬ (3 < x1)) ∧ ¬ (fX13_isLine h x2 = 0) then 1 else 0)), (9, 0)] [(0, (if (¬ (x1 < 0) ∧ ¬ (3 < x1)) ∧ ¬ (fX13_isLine h x2 = 0) then 1 else 0))] h = vrun mX13_put 46 [(1, 282), (0, x1), (0, x2), (0, x3), (0, (if (¬ (x1 < 0) ∧ ¬ (3 < x1)) ∧ ¬ (fX13_isLine h x2 = 0) then 1 else 0)), (9, 0)] [(0, (if ((¬ (x1 < 0) ∧ ¬ (3 < x1)) ∧ ¬ (fX13_isLine h x2 = 0)) ∧ ¬ (x3 < 0) ∧ ¬ (h 2 284 x2 < x3) then 1 else 0))] h := by
    refine (rg_beq (t := 45) (pc := 24) (dd bX13_put dX13_put_24) rfl).trans ?_
    by_cases c3 : (¬ (x1 < 0) ∧ ¬ (3 < x1)) ∧ ¬ (fX13_isLine h x2 = 0)
    · refine (if_pos c3).trans ?_
      refine (rn_iload_n (pc := 27) (dd bX13_put dX13_put_27) rfl).trans ?_
      refine (rn_iconst (pc := 28) (dd bX13_put dX13_put_28) (by decide)).trans ?_
      refine (rn_aload_n (pc := 29) (dd bX13_put dX13_put_29) rfl).trans ?_
      refine (rg_gf (pc := 30) (dd bX13_put dX13_put_30) (ci := 14) (j := 2) rfl rfl (key := 1502) rfl (kc := 34) rfl s1.1 s1.2.2.2.2.1).trans ?_
      refine (rn_iload_n (pc := 33) (dd bX13_put dX13_put_33) rfl).trans ?_
      refine (rg_iaload (pc := 34) (dd bX13_put dX13_put_34) s1.2.2.2.2.2.1 s1.2.2.2.2.2.2.1 (p4 c3) (p5 c3) rfl).trans ?_
      refine (rg_static (pc := 35) (dd bX13_put dX13_put_35) rfl (by decide) (Nat.le_of_ble_eq_true rfl) (as := [(0, x3), (0, 0), (0, h 2 284 x2)]) rfl rfl ⟨Nat.le_of_ble_eq_true rfl, Nat.le_of_ble_eq_true rfl, Nat.le_of_ble_eq_true rfl, Nat.le_of_ble_eq_true rfl⟩).trans ?_
      refine (vret_v spX13_isIn).trans ?_
      have e3 : vrun mX13_put 38 [(1, 282), (0, x1), (0, x2), (0, x3), (0, (if (¬ (x1 < 0) ∧ ¬ (3 < x1)) ∧ ¬ (fX13_isLine h x2 = 0) then 1 else 0)), (9, 0)] [(0, (if ¬ (x3 < 0) ∧ ¬ (h 2 284 x2 < x3) then 1 else 0))] h = vrun mX13_put 46 [(1, 282), (0, x1), (0, x2), (0, x3), (0, (if (¬ (x1 < 0) ∧ ¬ (3 < x1)) ∧ ¬ (fX13_isLine h x2 = 0) then 1 else 0)), (9, 0)] [(0, (if ¬ (x3 < 0) ∧ ¬ (h 2 284 x2 < x3) then 1 else 0))] h := by
        refine (rg_beq (t := 45) (pc := 38) (dd bX13_put dX13_put_38) rfl).trans ?_
        by_cases c4 : ¬ (x3 < 0) ∧ ¬ (h 2 284 x2 < x3)
        · refine (if_pos c4).trans ?_
          refine (rn_iconst (pc := 41) (dd bX13_put dX13_put_41) (by decide)).trans ?_
          refine (rn_goto (t := 46) (pc := 42) (dd bX13_put dX13_put_42) rfl).trans ?_
          refine Eq.trans (b := vrun mX13_put 46 [(1, 282), (0, x1), (0, x2), (0, x3), (0, (if (¬ (x1 < 0) ∧ ¬ (3 < x1)) ∧ ¬ (fX13_isLine h x2 = 0) then 1 else 0)), (9, 0)] [(0, 1)] h) rfl ?_
          simp only [c4, true_or, false_or, or_true, or_false, true_and, false_and, and_true, and_false, not_true_eq_false, not_false_eq_true, ne_eq, if_true, if_false, ↓reduceIte]
        · refine (if_neg c4).trans ?_
          refine (rn_iconst (pc := 45) (dd bX13_put dX13_put_45) (by decide)).trans ?_
          refine Eq.trans (b := vrun mX13_put 46 [(1, 282), (0, x1), (0, x2), (0, x3), (0, (if (¬ (x1 < 0) ∧ ¬ (3 < x1)) ∧ ¬ (fX13_isLine h x2 = 0) then 1 else 0)), (9, 0)] [(0, 0)] h) rfl ?_
          simp only [c4, true_or, false_or, or_true, or_false, true_and, false_and, and_true, and_false, not_true_eq_false, not_false_eq_true, ne_eq, if_true, if_false, ↓reduceIte]
      refine e3.trans ?_
      refine Eq.trans (b := vrun mX13_put 46 [(1, 282), (0, x1), (0, x2), (0, x3), (0, (if (¬ (x1 < 0) ∧ ¬ (3 < x1)) ∧ ¬ (fX13_isLine h x2 = 0) then 1 else 0)), (9, 0)] [(0, (if ¬ (x3 < 0) ∧ ¬ (h 2 284 x2 < x3) then 1 else 0))] h) rfl ?_
      simp only [c3, true_or, false_or, or_true, or_false, true_and, false_and, and_true, and_false, not_true_eq_false, not_false_eq_true, ne_eq, if_true, if_false, ↓reduceIte]
    · refine (if_neg c3).trans ?_
      refine (rn_iconst (pc := 45) (dd bX13_put dX13_put_45) (by decide)).trans ?_
      refine Eq.trans (b := vrun mX13_put 46 [(1, 282), (0, x1), (0, x2), (0, x3), (0, (if (¬ (x1 < 0) ∧ ¬ (3 < x1)) ∧ ¬ (fX13_isLine h x2 = 0) then 1 else 0)), (9, 0)] [(0, 0)] h) rfl ?_
      simp only [c3, true_or, false_or, or_true, or_false, true_and, false_and, and_true, and_false, not_true_eq_false, not_false_eq_true, ne_eq, if_true, if_false, ↓reduceIte]
  refine e4.trans ?_
  refine (rn_istore (pc := 46) (dd bX13_put dX13_put_46) (Nat.le_of_ble_eq_true rfl) rfl).trans ?_
  refine (rn_aload_n (pc := 48) (dd bX13_put dX13_put_48) rfl).trans ?_
  refine (rn_iload (pc := 49) (dd bX13_put dX13_put_49) rfl).trans ?_
  refine (rg_bne (t := 58) (pc := 51) (dd bX13_put dX13_put_51) rfl).trans (itec (fun c5 => ?_) (fun c5 => ?_))
  · refine (rn_iload (pc := 58) (dd bX13_put dX13_put_58) rfl).trans ?_
    refine (rg_bne (t := 67) (pc := 60) (dd bX13_put dX13_put_60) rfl).trans (itec (fun c6 => ?_) (fun c6 => ?_))
    · refine (rn_aload_n (pc := 67) (dd bX13_put dX13_put_67) rfl).trans ?_
      refine (rg_gf (pc := 68) (dd bX13_put dX13_put_68) (ci := 14) (j := 8) rfl rfl (key := 1508) rfl (kc := 34) rfl s1.1 s1.2.2.2.2.2.2.2.2.2.2.2.2.2.2.2.2.2.2.2.1).trans ?_
      refine (rn_iload_n (pc := 71) (dd bX13_put dX13_put_71) rfl).trans ?_
      refine (rg_baload (pc := 72) (dd bX13_put dX13_put_72) s1.2.2.2.2.2.2.2.2.2.2.2.2.2.2.2.2.2.2.2.2.1 s1.2.2.2.2.2.2.2.2.2.2.2.2.2.2.2.2.2.2.2.2.2.1 (p6 c5 c6) (p7 c5 c6) rfl).trans ?_
      refine (rn_if_eq (t := 85) (pc := 73) (dd bX13_put dX13_put_73) rfl).trans (itec (fun c7 => ?_) (fun c7 => ?_))
      · refine (rn_iconst (pc := 85) (dd bX13_put dX13_put_85) (by decide)).trans ?_
        refine (rn_goto (t := 90) (pc := 86) (dd bX13_put dX13_put_86) rfl).trans ?_
        exact rg_virtual (pc := 90) (dd bX13_put dX13_put_90) rfl rfl (by decide) (kc := 34) rfl s1.1 (as := [(1, 282), (0, 3)]) rfl ⟨Nat.le_of_ble_eq_true rfl, Nat.le_of_ble_eq_true rfl, Nat.le_of_ble_eq_true rfl, Nat.le_of_ble_eq_true rfl⟩
      · refine (rn_aload_n (pc := 76) (dd bX13_put dX13_put_76) rfl).trans ?_
        refine (rn_iload_n (pc := 77) (dd bX13_put dX13_put_77) rfl).trans ?_
        refine (rn_iload_n (pc := 78) (dd bX13_put dX13_put_78) rfl).trans ?_
        exact rg_virtual (pc := 79) (dd bX13_put dX13_put_79) rfl rfl (by decide) (kc := 34) rfl s1.1 (as := [(1, 282), (0, x1), (0, x2)]) rfl ⟨Nat.le_of_ble_eq_true rfl, Nat.le_of_ble_eq_true rfl, Nat.le_of_ble_eq_true rfl, Nat.le_of_ble_eq_true rfl⟩
    · refine (rn_iconst (pc := 63) (dd bX13_put dX13_put_63) (by decide)).trans ?_
      refine (rn_goto (t := 90) (pc := 64) (dd bX13_put dX13_put_64) rfl).trans ?_
      exact rg_virtual (pc := 90) (dd bX13_put dX13_put_90) rfl rfl (by decide) (kc := 34) rfl s1.1 (as := [(1, 282), (0, 2)]) rfl ⟨Nat.le_of_ble_eq_true rfl, Nat.le_of_ble_eq_true rfl, Nat.le_of_ble_eq_true rfl, Nat.le_of_ble_eq_true rfl⟩
  · refine (rn_iconst (pc := 54) (dd bX13_put dX13_put_54) (by decide)).trans ?_
    refine (rn_goto (t := 90) (pc := 55) (dd bX13_put dX13_put_55) rfl).trans ?_
    exact rg_virtual (pc := 90) (dd bX13_put dX13_put_90) rfl rfl (by decide) (kc := 34) rfl s1.1 (as := [(1, 282), (0, 1)]) rfl ⟨Nat.le_of_ble_eq_true rfl, Nat.le_of_ble_eq_true rfl, Nat.le_of_ble_eq_true rfl, Nat.le_of_ble_eq_true rfl⟩
theorem rX13_put_93 {x1 : Int} {x2 : Int} {x3 : Int} {x4 : Int} {x5 : Int} {y0 : Int} {h : vH} (s1 : shModel h) : vrun mX13_put 93 [(1, 282), (0, x1), (0, x2), (0, x3), (0, x4), (0, x5)] [(0, y0)] h = if y0 = 0 then some (.inl (some (0, 0)), h) else vret vrun mX13_put 102 [(1, 282), (0, x1), (0, x2), (0, x3), (0, x4), (0, x5)] [] (vcl mX13_goesTo [(1, 282), (0, x1), (0, x2), (0, x3)] h) := by
  refine (rg_if_ne (t := 98) (pc := 93) (dd bX13_put dX13_put_93) rfl).trans (itec (fun c1 => ?_) (fun c1 => ?_))
  · refine (rn_iconst (pc := 96) (dd bX13_put dX13_put_96) (by decide)).trans ?_
    exact rn_ireturn (pc := 97) (dd bX13_put dX13_put_97) (Or.inl rfl)
  · refine (rn_aload_n (pc := 98) (dd bX13_put dX13_put_98) rfl).trans ?_
    refine (rn_iload_n (pc := 99) (dd bX13_put dX13_put_99) rfl).trans ?_
    refine (rn_iload_n (pc := 100) (dd bX13_put dX13_put_100) rfl).trans ?_
    refine (rn_iload_n (pc := 101) (dd bX13_put dX13_put_101) rfl).trans ?_
    exact rg_virtual (pc := 102) (dd bX13_put dX13_put_102) rfl rfl (by decide) (kc := 34) rfl s1.1 (as := [(1, 282), (0, x1), (0, x2), (0, x3)]) rfl ⟨Nat.le_of_ble_eq_true rfl, Nat.le_of_ble_eq_true rfl, Nat.le_of_ble_eq_true rfl, Nat.le_of_ble_eq_true rfl⟩
theorem rX13_put_82 {x1 : Int} {x2 : Int} {x3 : Int} {x4 : Int} {x5 : Int} {y0 : Int} {h : vH} (s1 : shModel h) : vrun mX13_put 82 [(1, 282), (0, x1), (0, x2), (0, x3), (0, x4), (0, x5)] [(0, y0), (1, 282)] h = vret vrun mX13_put 90 [(1, 282), (0, x1), (0, x2), (0, x3), (0, x4), (0, x5)] [] (vcl mX13_isFine [(1, 282), (0, (if y0 = 0 then 0 else 3))] h) := by
  have e1 : vrun mX13_put 82 [(1, 282), (0, x1), (0, x2), (0, x3), (0, x4), (0, x5)] [(0, y0), (1, 282)] h = vrun mX13_put 90 [(1, 282), (0, x1), (0, x2), (0, x3), (0, x4), (0, x5)] [(0, (if y0 = 0 then 0 else 3)), (1, 282)] h := by
    refine (rn_if_eq (t := 89) (pc := 82) (dd bX13_put dX13_put_82) rfl).trans ?_
    by_cases c1 : y0 = 0
    · refine (if_pos c1).trans ?_
      refine (rn_iconst (pc := 89) (dd bX13_put dX13_put_89) (by decide)).trans ?_
      refine Eq.trans (b := vrun mX13_put 90 [(1, 282), (0, x1), (0, x2), (0, x3), (0, x4), (0, x5)] [(0, 0), (1, 282)] h) rfl ?_
      simp only [if_pos c1]
    · refine (if_neg c1).trans ?_
      refine (rn_iconst (pc := 85) (dd bX13_put dX13_put_85) (by decide)).trans ?_
      refine (rn_goto (t := 90) (pc := 86) (dd bX13_put dX13_put_86) rfl).trans ?_
      refine Eq.trans (b := vrun mX13_put 90 [(1, 282), (0, x1), (0, x2), (0, x3), (0, x4), (0, x5)] [(0, 3), (1, 282)] h) rfl ?_
      simp only [if_neg c1]
  refine e1.trans ?_
  exact rg_virtual (pc := 90) (dd bX13_put dX13_put_90) rfl rfl (by decide) (kc := 34) rfl s1.1 (as := [(1, 282), (0, (if y0 = 0 then 0 else 3))]) rfl ⟨Nat.le_of_ble_eq_true rfl, Nat.le_of_ble_eq_true rfl, Nat.le_of_ble_eq_true rfl, Nat.le_of_ble_eq_true rfl⟩
theorem rX13_put_105 {x1 : Int} {x2 : Int} {x3 : Int} {x4 : Int} {x5 : Int} {h : vH} (s1 : shModel h) : vrun mX13_put 105 [(1, 282), (0, x1), (0, x2), (0, x3), (0, x4), (0, x5)] [] h = vret vrun mX13_put 112 [(1, 282), (0, x1), (0, x2), (0, x3), (0, x4), (0, x5)] [(0, x1), (1, 307)] (vcl mX13_columnNow [(1, 282), (0, x1)] h) := by
  refine (rn_aload_n (pc := 105) (dd bX13_put dX13_put_105) rfl).trans ?_
  refine (rg_gf (pc := 106) (dd bX13_put dX13_put_106) (ci := 14) (j := 26) rfl rfl (key := 1526) rfl (kc := 34) rfl s1.1 s1.2.2.2.2.2.2.2.2.2.2.2.2.2.2.2.2.2.2.2.2.2.2.2.2.2.2.2.2.2.2.2.2.2.2.2.2.2.2.2.2.2.2.2.2.2.2.2.2.2.2.2.2.2.2.2.2.2.2.2.2.2.2.2.2.2.2.2.2.2.2.2.2.2.1).trans ?_
  refine (rn_iload_n (pc := 109) (dd bX13_put dX13_put_109) rfl).trans ?_
  refine (rn_aload_n (pc := 110) (dd bX13_put dX13_put_110) rfl).trans ?_
  refine (rn_iload_n (pc := 111) (dd bX13_put dX13_put_111) rfl).trans ?_
  exact rg_virtual (pc := 112) (dd bX13_put dX13_put_112) rfl rfl (by decide) (kc := 34) rfl s1.1 (as := [(1, 282), (0, x1)]) rfl ⟨Nat.le_of_ble_eq_true rfl, Nat.le_of_ble_eq_true rfl, Nat.le_of_ble_eq_true rfl, Nat.le_of_ble_eq_true rfl⟩
theorem rX13_put_115 {x1 : Int} {x2 : Int} {x3 : Int} {x4 : Int} {x5 : Int} {y0 : Int} {y1 : Int} {y2 : Int} {h : vH} (p1 : h 0 y2 0 = 1) (p2 : 0 ≤ y1) (p3 : y1 < h 1 y2 0) (s4 : shModel h) : vrun mX13_put 115 [(1, 282), (0, x1), (0, x2), (0, x3), (0, x4), (0, x5)] [(0, y0), (0, y1), (1, y2)] h = vret vrun mX13_put 118 [(1, 282), (0, x1), (0, x2), (0, x3), (0, x4), (0, x5)] [] (vcl mX13_looks [(1, 282), (0, x1)] (vup h 2 y2 y1 y0)) := by
  refine (rg_iastore (pc := 115) (dd bX13_put dX13_put_115) p1 rfl p2 p3).trans ?_
  refine (rn_aload_n (pc := 116) (dd bX13_put dX13_put_116) rfl).trans ?_
  refine (rn_iload_n (pc := 117) (dd bX13_put dX13_put_117) rfl).trans ?_
  exact rg_virtual (pc := 118) (dd bX13_put dX13_put_118) rfl rfl (by decide) (kc := 34) rfl ((vup_k (by decide)).trans s4.1) (as := [(1, 282), (0, x1)]) rfl ⟨Nat.le_of_ble_eq_true rfl, Nat.le_of_ble_eq_true rfl, Nat.le_of_ble_eq_true rfl, Nat.le_of_ble_eq_true rfl⟩
theorem rX13_put_121 {x1 : Int} {x2 : Int} {x3 : Int} {x4 : Int} {x5 : Int} {h : vH} (s1 : shModel h) : vrun mX13_put 121 [(1, 282), (0, x1), (0, x2), (0, x3), (0, x4), (0, x5)] [] h = vret vrun mX13_put 123 [(1, 282), (0, x1), (0, x2), (0, x3), (0, x4), (0, x5)] [] (vcl mX13_rowNow [(1, 282), (0, x1)] h) := by
  refine (rn_aload_n (pc := 121) (dd bX13_put dX13_put_121) rfl).trans ?_
  refine (rn_iload_n (pc := 122) (dd bX13_put dX13_put_122) rfl).trans ?_
  exact rg_virtual (pc := 123) (dd bX13_put dX13_put_123) rfl rfl (by decide) (kc := 34) rfl s1.1 (as := [(1, 282), (0, x1)]) rfl ⟨Nat.le_of_ble_eq_true rfl, Nat.le_of_ble_eq_true rfl, Nat.le_of_ble_eq_true rfl, Nat.le_of_ble_eq_true rfl⟩
theorem rX13_put_126 {x1 : Int} {x2 : Int} {x3 : Int} {x4 : Int} {x5 : Int} {y0 : Int} {h : vH} : vrun mX13_put 126 [(1, 282), (0, x1), (0, x2), (0, x3), (0, x4), (0, x5)] [(0, y0)] h = some (.inl (some (0, y0)), h) := by
  exact rn_ireturn (pc := 126) (dd bX13_put dX13_put_126) (Or.inl rfl)
theorem bX13_logs : vmB mX13_logs = cX13_logs := rfl
theorem rX13_logs_0 {x1 : Int} {x2 : Int} {h : vH} (s1 : shModel h) (p2 : ¬ (h 1559 282 0 = 50) → 0 ≤ h 1559 282 0) (p3 : ¬ (h 1559 282 0 = 50) → h 1559 282 0 < 50) : vrun mX13_logs 0 [(1, 282), (0, x1), (0, x2), (9, 0)] [] h = if h 1559 282 0 = 50 then vrun mX13_logs 21 [(1, 282), (0, x1), (0, x2), (0, 0)] [] (vup h 1559 282 0 (h 1559 282 0 - 1)) else some (.inl none, vup (vup (vup h 2 334 (h 1559 282 0) x1) 2 335 (h 1559 282 0) x2) 1559 282 0 (h 1559 282 0 + 1)) := by
  refine (rn_aload_n (pc := 0) (dd bX13_logs dX13_logs_0) rfl).trans ?_
  refine (rg_gf (pc := 1) (dd bX13_logs dX13_logs_1) (ci := 14) (j := 59) rfl rfl (key := 1559) rfl (kc := 34) rfl s1.1 rfl).trans ?_
  refine (rn_bipush (pc := 4) (dd bX13_logs dX13_logs_4) (by decide)).trans ?_
  refine (rg_icmp_ne (t := 63) (pc := 6) (dd bX13_logs dX13_logs_6) rfl).trans (itec (fun c1 => ?_) (fun c1 => ?_))
  · refine (rn_aload_n (pc := 9) (dd bX13_logs dX13_logs_9) rfl).trans ?_
    refine (rn_dup (pc := 10) (dd bX13_logs dX13_logs_10) (by decide)).trans ?_
    refine (rg_gf (pc := 11) (dd bX13_logs dX13_logs_11) (ci := 14) (j := 59) rfl rfl (key := 1559) rfl (kc := 34) rfl s1.1 rfl).trans ?_
    refine (rn_iconst (pc := 14) (dd bX13_logs dX13_logs_14) (by decide)).trans ?_
    refine (rg_isub (pc := 15) (dd bX13_logs dX13_logs_15) (by omega) (by omega)).trans ?_
    refine (rg_pf (pc := 16) (dd bX13_logs dX13_logs_16) (ci := 14) (j := 59) rfl (key := 1559) rfl (kc := 34) rfl s1.1 rfl (by intro z; cases z) (by decide)).trans ?_
    refine (rn_iconst (pc := 19) (dd bX13_logs dX13_logs_19) (by decide)).trans ?_
    refine (rn_istore_n (pc := 20) (dd bX13_logs dX13_logs_20) (Nat.le_of_ble_eq_true rfl) rfl).trans ?_
    rfl
  · refine (rn_aload_n (pc := 63) (dd bX13_logs dX13_logs_63) rfl).trans ?_
    refine (rg_gf (pc := 64) (dd bX13_logs dX13_logs_64) (ci := 14) (j := 57) rfl rfl (key := 1557) rfl (kc := 34) rfl s1.1 s1.2.2.2.2.2.2.2.2.2.2.2.2.2.2.2.2.2.2.2.2.2.2.2.2.2.2.2.2.2.2.2.2.2.2.2.2.2.2.2.2.2.2.2.2.2.2.2.2.2.2.2.2.2.2.2.2.2.2.2.2.2.2.2.2.2.2.2.2.2.2.2.2.2.2.2.2.2.2.2.2.2.2.2.2.2.2.2.2.2.2.2.2.2.2.2.2.2.2.2.2.2.2.2.2.2.2.2.2.2.2.2.2.2.2.2.2.2.2.2.2.2.2.2.2.2.2.2.2.2.2.2.2.2.2.2.2.2.2.2.2.2.2.2.2.2.2.2.2.2.2.2.2.2.2.1).trans ?_
    refine (rn_aload_n (pc := 67) (dd bX13_logs dX13_logs_67) rfl).trans ?_
    refine (rg_gf (pc := 68) (dd bX13_logs dX13_logs_68) (ci := 14) (j := 59) rfl rfl (key := 1559) rfl (kc := 34) rfl s1.1 rfl).trans ?_
    refine (rn_iload_n (pc := 71) (dd bX13_logs dX13_logs_71) rfl).trans ?_
    refine (rg_iastore (pc := 72) (dd bX13_logs dX13_logs_72) s1.2.2.2.2.2.2.2.2.2.2.2.2.2.2.2.2.2.2.2.2.2.2.2.2.2.2.2.2.2.2.2.2.2.2.2.2.2.2.2.2.2.2.2.2.2.2.2.2.2.2.2.2.2.2.2.2.2.2.2.2.2.2.2.2.2.2.2.2.2.2.2.2.2.2.2.2.2.2.2.2.2.2.2.2.2.2.2.2.2.2.2.2.2.2.2.2.2.2.2.2.2.2.2.2.2.2.2.2.2.2.2.2.2.2.2.2.2.2.2.2.2.2.2.2.2.2.2.2.2.2.2.2.2.2.2.2.2.2.2.2.2.2.2.2.2.2.2.2.2.2.2.2.2.2.2.1 s1.2.2.2.2.2.2.2.2.2.2.2.2.2.2.2.2.2.2.2.2.2.2.2.2.2.2.2.2.2.2.2.2.2.2.2.2.2.2.2.2.2.2.2.2.2.2.2.2.2.2.2.2.2.2.2.2.2.2.2.2.2.2.2.2.2.2.2.2.2.2.2.2.2.2.2.2.2.2.2.2.2.2.2.2.2.2.2.2.2.2.2.2.2.2.2.2.2.2.2.2.2.2.2.2.2.2.2.2.2.2.2.2.2.2.2.2.2.2.2.2.2.2.2.2.2.2.2.2.2.2.2.2.2.2.2.2.2.2.2.2.2.2.2.2.2.2.2.2.2.2.2.2.2.2.2.2.1 (p2 c1) (p3 c1)).trans ?_
    refine (rn_aload_n (pc := 73) (dd bX13_logs dX13_logs_73) rfl).trans ?_
    refine (rg_gf (pc := 74) (dd bX13_logs dX13_logs_74) (ci := 14) (j := 58) rfl rfl (key := 1558) rfl (kc := 34) rfl ((vup_k (by decide)).trans s1.1) ((vup_k (by decide)).trans s1.2.2.2.2.2.2.2.2.2.2.2.2.2.2.2.2.2.2.2.2.2.2.2.2.2.2.2.2.2.2.2.2.2.2.2.2.2.2.2.2.2.2.2.2.2.2.2.2.2.2.2.2.2.2.2.2.2.2.2.2.2.2.2.2.2.2.2.2.2.2.2.2.2.2.2.2.2.2.2.2.2.2.2.2.2.2.2.2.2.2.2.2.2.2.2.2.2.2.2.2.2.2.2.2.2.2.2.2.2.2.2.2.2.2.2.2.2.2.2.2.2.2.2.2.2.2.2.2.2.2.2.2.2.2.2.2.2.2.2.2.2.2.2.2.2.2.2.2.2.2.2.2.2.2.2.2.2.1)).trans ?_
    refine (rn_aload_n (pc := 77) (dd bX13_logs dX13_logs_77) rfl).trans ?_
    refine (rg_gf (pc := 78) (dd bX13_logs dX13_logs_78) (ci := 14) (j := 59) rfl rfl (key := 1559) rfl (kc := 34) rfl ((vup_k (by decide)).trans s1.1) ((vup_k (by decide)).trans rfl)).trans ?_
    refine (rn_iload_n (pc := 81) (dd bX13_logs dX13_logs_81) rfl).trans ?_
    refine (rg_iastore (pc := 82) (dd bX13_logs dX13_logs_82) ((vup_k (by decide)).trans s1.2.2.2.2.2.2.2.2.2.2.2.2.2.2.2.2.2.2.2.2.2.2.2.2.2.2.2.2.2.2.2.2.2.2.2.2.2.2.2.2.2.2.2.2.2.2.2.2.2.2.2.2.2.2.2.2.2.2.2.2.2.2.2.2.2.2.2.2.2.2.2.2.2.2.2.2.2.2.2.2.2.2.2.2.2.2.2.2.2.2.2.2.2.2.2.2.2.2.2.2.2.2.2.2.2.2.2.2.2.2.2.2.2.2.2.2.2.2.2.2.2.2.2.2.2.2.2.2.2.2.2.2.2.2.2.2.2.2.2.2.2.2.2.2.2.2.2.2.2.2.2.2.2.2.2.2.2.2.1) ((vup_k (by decide)).trans s1.2.2.2.2.2.2.2.2.2.2.2.2.2.2.2.2.2.2.2.2.2.2.2.2.2.2.2.2.2.2.2.2.2.2.2.2.2.2.2.2.2.2.2.2.2.2.2.2.2.2.2.2.2.2.2.2.2.2.2.2.2.2.2.2.2.2.2.2.2.2.2.2.2.2.2.2.2.2.2.2.2.2.2.2.2.2.2.2.2.2.2.2.2.2.2.2.2.2.2.2.2.2.2.2.2.2.2.2.2.2.2.2.2.2.2.2.2.2.2.2.2.2.2.2.2.2.2.2.2.2.2.2.2.2.2.2.2.2.2.2.2.2.2.2.2.2.2.2.2.2.2.2.2.2.2.2.2.2.2.1) (by have z0 := p2 c1; have z1 := p3 c1; omega) (by have z0 := p2 c1; have z1 := p3 c1; omega)).trans ?_
    refine (rn_aload_n (pc := 83) (dd bX13_logs dX13_logs_83) rfl).trans ?_
    refine (rn_dup (pc := 84) (dd bX13_logs dX13_logs_84) (by decide)).trans ?_
    refine (rg_gf (pc := 85) (dd bX13_logs dX13_logs_85) (ci := 14) (j := 59) rfl rfl (key := 1559) rfl (kc := 34) rfl ((vup_k (by decide)).trans ((vup_k (by decide)).trans s1.1)) ((vup_k (by decide)).trans ((vup_k (by decide)).trans rfl))).trans ?_
    refine (rn_iconst (pc := 88) (dd bX13_logs dX13_logs_88) (by decide)).trans ?_
    refine (rg_iadd (pc := 89) (dd bX13_logs dX13_logs_89) (by have z0 := p2 c1; have z1 := p3 c1; omega) (by have z0 := p2 c1; have z1 := p3 c1; omega)).trans ?_
    refine (rg_pf (pc := 90) (dd bX13_logs dX13_logs_90) (ci := 14) (j := 59) rfl (key := 1559) rfl (kc := 34) rfl ((vup_k (by decide)).trans ((vup_k (by decide)).trans s1.1)) rfl (by intro z; cases z) (by decide)).trans ?_
    exact rn_return (pc := 93) (dd bX13_logs dX13_logs_93) rfl
theorem rX13_logs_21 {x1 : Int} {x2 : Int} {x3 : Int} {h : vH} (s1 : shModel h) (p2 : h 1559 282 0 ≤ x3 → 0 ≤ h 1559 282 0) (p3 : h 1559 282 0 ≤ x3 → h 1559 282 0 < 50) (p4 : ¬ (h 1559 282 0 ≤ x3) → (-2147483648) ≤ x3 + 1) (p5 : ¬ (h 1559 282 0 ≤ x3) → x3 + 1 < 2147483648) (p6 : ¬ (h 1559 282 0 ≤ x3) → 0 ≤ x3 + 1) (p7 : ¬ (h 1559 282 0 ≤ x3) → x3 + 1 < 50) (p8 : ¬ (h 1559 282 0 ≤ x3) → 0 ≤ x3) (p9 : ¬ (h 1559 282 0 ≤ x3) → x3 < 50) : vrun mX13_logs 21 [(1, 282), (0, x1), (0, x2), (0, x3)] [] h = if h 1559 282 0 ≤ x3 then some (.inl none, vup (vup (vup h 2 334 (h 1559 282 0) x1) 2 335 (h 1559 282 0) x2) 1559 282 0 (h 1559 282 0 + 1)) else vrun mX13_logs 21 [(1, 282), (0, x1), (0, x2), (0, x3 + 1)] [] (vup (vup h 2 334 x3 (h 2 334 (x3 + 1))) 2 335 x3 (h 2 335 (x3 + 1))) := by
  refine (rn_iload_n (pc := 21) (dd bX13_logs dX13_logs_21) rfl).trans ?_
  refine (rn_aload_n (pc := 22) (dd bX13_logs dX13_logs_22) rfl).trans ?_
  refine (rg_gf (pc := 23) (dd bX13_logs dX13_logs_23) (ci := 14) (j := 59) rfl rfl (key := 1559) rfl (kc := 34) rfl s1.1 rfl).trans ?_
  refine (rn_icmp_ge (t := 63) (pc := 26) (dd bX13_logs dX13_logs_26) rfl).trans (itec (fun c1 => ?_) (fun c1 => ?_))
  · refine (rn_aload_n (pc := 63) (dd bX13_logs dX13_logs_63) rfl).trans ?_
    refine (rg_gf (pc := 64) (dd bX13_logs dX13_logs_64) (ci := 14) (j := 57) rfl rfl (key := 1557) rfl (kc := 34) rfl s1.1 s1.2.2.2.2.2.2.2.2.2.2.2.2.2.2.2.2.2.2.2.2.2.2.2.2.2.2.2.2.2.2.2.2.2.2.2.2.2.2.2.2.2.2.2.2.2.2.2.2.2.2.2.2.2.2.2.2.2.2.2.2.2.2.2.2.2.2.2.2.2.2.2.2.2.2.2.2.2.2.2.2.2.2.2.2.2.2.2.2.2.2.2.2.2.2.2.2.2.2.2.2.2.2.2.2.2.2.2.2.2.2.2.2.2.2.2.2.2.2.2.2.2.2.2.2.2.2.2.2.2.2.2.2.2.2.2.2.2.2.2.2.2.2.2.2.2.2.2.2.2.2.2.2.2.2.1).trans ?_
    refine (rn_aload_n (pc := 67) (dd bX13_logs dX13_logs_67) rfl).trans ?_
    refine (rg_gf (pc := 68) (dd bX13_logs dX13_logs_68) (ci := 14) (j := 59) rfl rfl (key := 1559) rfl (kc := 34) rfl s1.1 rfl).trans ?_
    refine (rn_iload_n (pc := 71) (dd bX13_logs dX13_logs_71) rfl).trans ?_
    refine (rg_iastore (pc := 72) (dd bX13_logs dX13_logs_72) s1.2.2.2.2.2.2.2.2.2.2.2.2.2.2.2.2.2.2.2.2.2.2.2.2.2.2.2.2.2.2.2.2.2.2.2.2.2.2.2.2.2.2.2.2.2.2.2.2.2.2.2.2.2.2.2.2.2.2.2.2.2.2.2.2.2.2.2.2.2.2.2.2.2.2.2.2.2.2.2.2.2.2.2.2.2.2.2.2.2.2.2.2.2.2.2.2.2.2.2.2.2.2.2.2.2.2.2.2.2.2.2.2.2.2.2.2.2.2.2.2.2.2.2.2.2.2.2.2.2.2.2.2.2.2.2.2.2.2.2.2.2.2.2.2.2.2.2.2.2.2.2.2.2.2.2.1 s1.2.2.2.2.2.2.2.2.2.2.2.2.2.2.2.2.2.2.2.2.2.2.2.2.2.2.2.2.2.2.2.2.2.2.2.2.2.2.2.2.2.2.2.2.2.2.2.2.2.2.2.2.2.2.2.2.2.2.2.2.2.2.2.2.2.2.2.2.2.2.2.2.2.2.2.2.2.2.2.2.2.2.2.2.2.2.2.2.2.2.2.2.2.2.2.2.2.2.2.2.2.2.2.2.2.2.2.2.2.2.2.2.2.2.2.2.2.2.2.2.2.2.2.2.2.2.2.2.2.2.2.2.2.2.2.2.2.2.2.2.2.2.2.2.2.2.2.2.2.2.2.2.2.2.2.2.1 (p2 c1) (p3 c1)).trans ?_
    refine (rn_aload_n (pc := 73) (dd bX13_logs dX13_logs_73) rfl).trans ?_
    refine (rg_gf (pc := 74) (dd bX13_logs dX13_logs_74) (ci := 14) (j := 58) rfl rfl (key := 1558) rfl (kc := 34) rfl ((vup_k (by decide)).trans s1.1) ((vup_k (by decide)).trans s1.2.2.2.2.2.2.2.2.2.2.2.2.2.2.2.2.2.2.2.2.2.2.2.2.2.2.2.2.2.2.2.2.2.2.2.2.2.2.2.2.2.2.2.2.2.2.2.2.2.2.2.2.2.2.2.2.2.2.2.2.2.2.2.2.2.2.2.2.2.2.2.2.2.2.2.2.2.2.2.2.2.2.2.2.2.2.2.2.2.2.2.2.2.2.2.2.2.2.2.2.2.2.2.2.2.2.2.2.2.2.2.2.2.2.2.2.2.2.2.2.2.2.2.2.2.2.2.2.2.2.2.2.2.2.2.2.2.2.2.2.2.2.2.2.2.2.2.2.2.2.2.2.2.2.2.2.2.1)).trans ?_
    refine (rn_aload_n (pc := 77) (dd bX13_logs dX13_logs_77) rfl).trans ?_
    refine (rg_gf (pc := 78) (dd bX13_logs dX13_logs_78) (ci := 14) (j := 59) rfl rfl (key := 1559) rfl (kc := 34) rfl ((vup_k (by decide)).trans s1.1) ((vup_k (by decide)).trans rfl)).trans ?_
    refine (rn_iload_n (pc := 81) (dd bX13_logs dX13_logs_81) rfl).trans ?_
    refine (rg_iastore (pc := 82) (dd bX13_logs dX13_logs_82) ((vup_k (by decide)).trans s1.2.2.2.2.2.2.2.2.2.2.2.2.2.2.2.2.2.2.2.2.2.2.2.2.2.2.2.2.2.2.2.2.2.2.2.2.2.2.2.2.2.2.2.2.2.2.2.2.2.2.2.2.2.2.2.2.2.2.2.2.2.2.2.2.2.2.2.2.2.2.2.2.2.2.2.2.2.2.2.2.2.2.2.2.2.2.2.2.2.2.2.2.2.2.2.2.2.2.2.2.2.2.2.2.2.2.2.2.2.2.2.2.2.2.2.2.2.2.2.2.2.2.2.2.2.2.2.2.2.2.2.2.2.2.2.2.2.2.2.2.2.2.2.2.2.2.2.2.2.2.2.2.2.2.2.2.2.2.1) ((vup_k (by decide)).trans s1.2.2.2.2.2.2.2.2.2.2.2.2.2.2.2.2.2.2.2.2.2.2.2.2.2.2.2.2.2.2.2.2.2.2.2.2.2.2.2.2.2.2.2.2.2.2.2.2.2.2.2.2.2.2.2.2.2.2.2.2.2.2.2.2.2.2.2.2.2.2.2.2.2.2.2.2.2.2.2.2.2.2.2.2.2.2.2.2.2.2.2.2.2.2.2.2.2.2.2.2.2.2.2.2.2.2.2.2.2.2.2.2.2.2.2.2.2.2.2.2.2.2.2.2.2.2.2.2.2.2.2.2.2.2.2.2.2.2.2.2.2.2.2.2.2.2.2.2.2.2.2.2.2.2.2.2.2.2.2.1) (by have z0 := p2 c1; have z1 := p3 c1; omega) (by have z0 := p2 c1; have z1 := p3 c1; omega)).trans ?_
    refine (rn_aload_n (pc := 83) (dd bX13_logs dX13_logs_83) rfl).trans ?_
    refine (rn_dup (pc := 84) (dd bX13_logs dX13_logs_84) (by decide)).trans ?_
    refine (rg_gf (pc := 85) (dd bX13_logs dX13_logs_85) (ci := 14) (j := 59) rfl rfl (key := 1559) rfl (kc := 34) rfl ((vup_k (by decide)).trans ((vup_k (by decide)).trans s1.1)) ((vup_k (by decide)).trans ((vup_k (by decide)).trans rfl))).trans ?_
    refine (rn_iconst (pc := 88) (dd bX13_logs dX13_logs_88) (by decide)).trans ?_
    refine (rg_iadd (pc := 89) (dd bX13_logs dX13_logs_89) (by have z0 := p2 c1; have z1 := p3 c1; omega) (by have z0 := p2 c1; have z1 := p3 c1; omega)).trans ?_
    refine (rg_pf (pc := 90) (dd bX13_logs dX13_logs_90) (ci := 14) (j := 59) rfl (key := 1559) rfl (kc := 34) rfl ((vup_k (by decide)).trans ((vup_k (by decide)).trans s1.1)) rfl (by intro z; cases z) (by decide)).trans ?_
    exact rn_return (pc := 93) (dd bX13_logs dX13_logs_93) rfl
  · refine (rn_aload_n (pc := 29) (dd bX13_logs dX13_logs_29) rfl).trans ?_
    refine (rg_gf (pc := 30) (dd bX13_logs dX13_logs_30) (ci := 14) (j := 57) rfl rfl (key := 1557) rfl (kc := 34) rfl s1.1 s1.2.2.2.2.2.2.2.2.2.2.2.2.2.2.2.2.2.2.2.2.2.2.2.2.2.2.2.2.2.2.2.2.2.2.2.2.2.2.2.2.2.2.2.2.2.2.2.2.2.2.2.2.2.2.2.2.2.2.2.2.2.2.2.2.2.2.2.2.2.2.2.2.2.2.2.2.2.2.2.2.2.2.2.2.2.2.2.2.2.2.2.2.2.2.2.2.2.2.2.2.2.2.2.2.2.2.2.2.2.2.2.2.2.2.2.2.2.2.2.2.2.2.2.2.2.2.2.2.2.2.2.2.2.2.2.2.2.2.2.2.2.2.2.2.2.2.2.2.2.2.2.2.2.2.1).trans ?_
    refine (rn_iload_n (pc := 33) (dd bX13_logs dX13_logs_33) rfl).trans ?_
    refine (rn_aload_n (pc := 34) (dd bX13_logs dX13_logs_34) rfl).trans ?_
    refine (rg_gf (pc := 35) (dd bX13_logs dX13_logs_35) (ci := 14) (j := 57) rfl rfl (key := 1557) rfl (kc := 34) rfl s1.1 s1.2.2.2.2.2.2.2.2.2.2.2.2.2.2.2.2.2.2.2.2.2.2.2.2.2.2.2.2.2.2.2.2.2.2.2.2.2.2.2.2.2.2.2.2.2.2.2.2.2.2.2.2.2.2.2.2.2.2.2.2.2.2.2.2.2.2.2.2.2.2.2.2.2.2.2.2.2.2.2.2.2.2.2.2.2.2.2.2.2.2.2.2.2.2.2.2.2.2.2.2.2.2.2.2.2.2.2.2.2.2.2.2.2.2.2.2.2.2.2.2.2.2.2.2.2.2.2.2.2.2.2.2.2.2.2.2.2.2.2.2.2.2.2.2.2.2.2.2.2.2.2.2.2.2.1).trans ?_
    refine (rn_iload_n (pc := 38) (dd bX13_logs dX13_logs_38) rfl).trans ?_
    refine (rn_iconst (pc := 39) (dd bX13_logs dX13_logs_39) (by decide)).trans ?_
    refine (rg_iadd (pc := 40) (dd bX13_logs dX13_logs_40) (p4 c1) (p5 c1)).trans ?_
    refine (rg_iaload (pc := 41) (dd bX13_logs dX13_logs_41) s1.2.2.2.2.2.2.2.2.2.2.2.2.2.2.2.2.2.2.2.2.2.2.2.2.2.2.2.2.2.2.2.2.2.2.2.2.2.2.2.2.2.2.2.2.2.2.2.2.2.2.2.2.2.2.2.2.2.2.2.2.2.2.2.2.2.2.2.2.2.2.2.2.2.2.2.2.2.2.2.2.2.2.2.2.2.2.2.2.2.2.2.2.2.2.2.2.2.2.2.2.2.2.2.2.2.2.2.2.2.2.2.2.2.2.2.2.2.2.2.2.2.2.2.2.2.2.2.2.2.2.2.2.2.2.2.2.2.2.2.2.2.2.2.2.2.2.2.2.2.2.2.2.2.2.2.1 s1.2.2.2.2.2.2.2.2.2.2.2.2.2.2.2.2.2.2.2.2.2.2.2.2.2.2.2.2.2.2.2.2.2.2.2.2.2.2.2.2.2.2.2.2.2.2.2.2.2.2.2.2.2.2.2.2.2.2.2.2.2.2.2.2.2.2.2.2.2.2.2.2.2.2.2.2.2.2.2.2.2.2.2.2.2.2.2.2.2.2.2.2.2.2.2.2.2.2.2.2.2.2.2.2.2.2.2.2.2.2.2.2.2.2.2.2.2.2.2.2.2.2.2.2.2.2.2.2.2.2.2.2.2.2.2.2.2.2.2.2.2.2.2.2.2.2.2.2.2.2.2.2.2.2.2.2.1 (p6 c1) (p7 c1) rfl).trans ?_
    refine (rg_iastore (pc := 42) (dd bX13_logs dX13_logs_42) s1.2.2.2.2.2.2.2.2.2.2.2.2.2.2.2.2.2.2.2.2.2.2.2.2.2.2.2.2.2.2.2.2.2.2.2.2.2.2.2.2.2.2.2.2.2.2.2.2.2.2.2.2.2.2.2.2.2.2.2.2.2.2.2.2.2.2.2.2.2.2.2.2.2.2.2.2.2.2.2.2.2.2.2.2.2.2.2.2.2.2.2.2.2.2.2.2.2.2.2.2.2.2.2.2.2.2.2.2.2.2.2.2.2.2.2.2.2.2.2.2.2.2.2.2.2.2.2.2.2.2.2.2.2.2.2.2.2.2.2.2.2.2.2.2.2.2.2.2.2.2.2.2.2.2.2.1 s1.2.2.2.2.2.2.2.2.2.2.2.2.2.2.2.2.2.2.2.2.2.2.2.2.2.2.2.2.2.2.2.2.2.2.2.2.2.2.2.2.2.2.2.2.2.2.2.2.2.2.2.2.2.2.2.2.2.2.2.2.2.2.2.2.2.2.2.2.2.2.2.2.2.2.2.2.2.2.2.2.2.2.2.2.2.2.2.2.2.2.2.2.2.2.2.2.2.2.2.2.2.2.2.2.2.2.2.2.2.2.2.2.2.2.2.2.2.2.2.2.2.2.2.2.2.2.2.2.2.2.2.2.2.2.2.2.2.2.2.2.2.2.2.2.2.2.2.2.2.2.2.2.2.2.2.2.1 (p8 c1) (p9 c1)).trans ?_
    refine (rn_aload_n (pc := 43) (dd bX13_logs dX13_logs_43) rfl).trans ?_
    refine (rg_gf (pc := 44) (dd bX13_logs dX13_logs_44) (ci := 14) (j := 58) rfl rfl (key := 1558) rfl (kc := 34) rfl ((vup_k (by decide)).trans s1.1) ((vup_k (by decide)).trans s1.2.2.2.2.2.2.2.2.2.2.2.2.2.2.2.2.2.2.2.2.2.2.2.2.2.2.2.2.2.2.2.2.2.2.2.2.2.2.2.2.2.2.2.2.2.2.2.2.2.2.2.2.2.2.2.2.2.2.2.2.2.2.2.2.2.2.2.2.2.2.2.2.2.2.2.2.2.2.2.2.2.2.2.2.2.2.2.2.2.2.2.2.2.2.2.2.2.2.2.2.2.2.2.2.2.2.2.2.2.2.2.2.2.2.2.2.2.2.2.2.2.2.2.2.2.2.2.2.2.2.2.2.2.2.2.2.2.2.2.2.2.2.2.2.2.2.2.2.2.2.2.2.2.2.2.2.2.1)).trans ?_
    refine (rn_iload_n (pc := 47) (dd bX13_logs dX13_logs_47) rfl).trans ?_
    refine (rn_aload_n (pc := 48) (dd bX13_logs dX13_logs_48) rfl).trans ?_
    refine (rg_gf (pc := 49) (dd bX13_logs dX13_logs_49) (ci := 14) (j := 58) rfl rfl (key := 1558) rfl (kc := 34) rfl ((vup_k (by decide)).trans s1.1) ((vup_k (by decide)).trans s1.2.2.2.2.2.2.2.2.2.2.2.2.2.2.2.2.2.2.2.2.2.2.2.2.2.2.2.2.2.2.2.2.2.2.2.2.2.2.2.2.2.2.2.2.2.2.2.2.2.2.2.2.2.2.2.2.2.2.2.2.2.2.2.2.2.2.2.2.2.2.2.2.2.2.2.2.2.2.2.2.2.2.2.2.2.2.2.2.2.2.2.2.2.2.2.2.2.2.2.2.2.2.2.2.2.2.2.2.2.2.2.2.2.2.2.2.2.2.2.2.2.2.2.2.2.2.2.2.2.2.2.2.2.2.2.2.2.2.2.2.2.2.2.2.2.2.2.2.2.2.2.2.2.2.2.2.2.1)).trans ?_
    refine (rn_iload_n (pc := 52) (dd bX13_logs dX13_logs_52) rfl).trans ?_
    refine (rn_iconst (pc := 53) (dd bX13_logs dX13_logs_53) (by decide)).trans ?_
    refine (rg_iadd (pc := 54) (dd bX13_logs dX13_logs_54) (by have z0 := p8 c1; have z1 := p9 c1; have z2 := p7 c1; omega) (by have z0 := p8 c1; have z1 := p9 c1; have z2 := p7 c1; omega)).trans ?_
    refine (rg_iaload (pc := 55) (dd bX13_logs dX13_logs_55) ((vup_k (by decide)).trans s1.2.2.2.2.2.2.2.2.2.2.2.2.2.2.2.2.2.2.2.2.2.2.2.2.2.2.2.2.2.2.2.2.2.2.2.2.2.2.2.2.2.2.2.2.2.2.2.2.2.2.2.2.2.2.2.2.2.2.2.2.2.2.2.2.2.2.2.2.2.2.2.2.2.2.2.2.2.2.2.2.2.2.2.2.2.2.2.2.2.2.2.2.2.2.2.2.2.2.2.2.2.2.2.2.2.2.2.2.2.2.2.2.2.2.2.2.2.2.2.2.2.2.2.2.2.2.2.2.2.2.2.2.2.2.2.2.2.2.2.2.2.2.2.2.2.2.2.2.2.2.2.2.2.2.2.2.2.2.1) ((vup_k (by decide)).trans s1.2.2.2.2.2.2.2.2.2.2.2.2.2.2.2.2.2.2.2.2.2.2.2.2.2.2.2.2.2.2.2.2.2.2.2.2.2.2.2.2.2.2.2.2.2.2.2.2.2.2.2.2.2.2.2.2.2.2.2.2.2.2.2.2.2.2.2.2.2.2.2.2.2.2.2.2.2.2.2.2.2.2.2.2.2.2.2.2.2.2.2.2.2.2.2.2.2.2.2.2.2.2.2.2.2.2.2.2.2.2.2.2.2.2.2.2.2.2.2.2.2.2.2.2.2.2.2.2.2.2.2.2.2.2.2.2.2.2.2.2.2.2.2.2.2.2.2.2.2.2.2.2.2.2.2.2.2.2.2.1) (by have z0 := p8 c1; have z1 := p9 c1; have z2 := p7 c1; omega) (by have z0 := p8 c1; have z1 := p9 c1; have z2 := p7 c1; omega) ((vup_r (by omega)).trans rfl)).trans ?_
    refine (rg_iastore (pc := 56) (dd bX13_logs dX13_logs_56) ((vup_k (by decide)).trans s1.2.2.2.2.2.2.2.2.2.2.2.2.2.2.2.2.2.2.2.2.2.2.2.2.2.2.2.2.2.2.2.2.2.2.2.2.2.2.2.2.2.2.2.2.2.2.2.2.2.2.2.2.2.2.2.2.2.2.2.2.2.2.2.2.2.2.2.2.2.2.2.2.2.2.2.2.2.2.2.2.2.2.2.2.2.2.2.2.2.2.2.2.2.2.2.2.2.2.2.2.2.2.2.2.2.2.2.2.2.2.2.2.2.2.2.2.2.2.2.2.2.2.2.2.2.2.2.2.2.2.2.2.2.2.2.2.2.2.2.2.2.2.2.2.2.2.2.2.2.2.2.2.2.2.2.2.2.2.1) ((vup_k (by decide)).trans s1.2.2.2.2.2.2.2.2.2.2.2.2.2.2.2.2.2.2.2.2.2.2.2.2.2.2.2.2.2.2.2.2.2.2.2.2.2.2.2.2.2.2.2.2.2.2.2.2.2.2.2.2.2.2.2.2.2.2.2.2.2.2.2.2.2.2.2.2.2.2.2.2.2.2.2.2.2.2.2.2.2.2.2.2.2.2.2.2.2.2.2.2.2.2.2.2.2.2.2.2.2.2.2.2.2.2.2.2.2.2.2.2.2.2.2.2.2.2.2.2.2.2.2.2.2.2.2.2.2.2.2.2.2.2.2.2.2.2.2.2.2.2.2.2.2.2.2.2.2.2.2.2.2.2.2.2.2.2.2.1) (by have z0 := p8 c1; have z1 := p9 c1; omega) (by have z0 := p8 c1; have z1 := p9 c1; omega)).trans ?_
    refine (rg_iinc (pc := 57) (dd bX13_logs dX13_logs_57) rfl (Nat.le_of_ble_eq_true rfl) (by have z0 := p8 c1; have z1 := p9 c1; have z2 := p7 c1; omega) (by have z0 := p8 c1; have z1 := p9 c1; have z2 := p7 c1; omega) rfl).trans ?_
    refine (rn_goto (t := 21) (pc := 60) (dd bX13_logs dX13_logs_60) rfl).trans ?_
    rfl
theorem bX13_shownAhead : vmB mX13_shownAhead = cX13_shownAhead := rfl
theorem rX13_shownAhead_0 {x1 : Int} {x2 : Int} {x3 : Int} {h : vH} (s1 : shModel h) : vrun mX13_shownAhead 0 [(1, 282), (0, x1), (0, x2), (0, x3), (9, 0), (9, 0)] [] h = vret vrun mX13_shownAhead 3 [(1, 282), (0, x1), (0, x2), (0, x3), (9, 0), (9, 0)] [] (vcl mX13_findsClusters [(1, 282), (0, x1), (0, x2)] h) := by
  refine (rn_aload_n (pc := 0) (dd bX13_shownAhead dX13_shownAhead_0) rfl).trans ?_
  refine (rn_iload_n (pc := 1) (dd bX13_shownAhead dX13_shownAhead_1) rfl).trans ?_
  refine (rn_iload_n (pc := 2) (dd bX13_shownAhead dX13_shownAhead_2) rfl).trans ?_
  exact rg_virtual (pc := 3) (dd bX13_shownAhead dX13_shownAhead_3) rfl rfl (by decide) (kc := 34) rfl s1.1 (as := [(1, 282), (0, x1), (0, x2)]) rfl ⟨Nat.le_of_ble_eq_true rfl, Nat.le_of_ble_eq_true rfl, Nat.le_of_ble_eq_true rfl, Nat.le_of_ble_eq_true rfl⟩
theorem rX13_shownAhead_6 {x1 : Int} {x2 : Int} {x3 : Int} {h : vH} (s1 : shModel h) (p2 : 0 ≤ x2) (p3 : x2 < 60) : vrun mX13_shownAhead 6 [(1, 282), (0, x1), (0, x2), (0, x3), (9, 0), (9, 0)] [] h = vrun mX13_shownAhead 31 [(1, 282), (0, x1), (0, x2), (0, x3), (0, (if x3 ≤ h 2 284 x2 then (-1) else h 2 284 x2)), (0, 0)] [] h := by
  refine (rn_aload_n (pc := 6) (dd bX13_shownAhead dX13_shownAhead_6) rfl).trans ?_
  refine (rg_gf (pc := 7) (dd bX13_shownAhead dX13_shownAhead_7) (ci := 14) (j := 2) rfl rfl (key := 1502) rfl (kc := 34) rfl s1.1 s1.2.2.2.2.1).trans ?_
  refine (rn_iload_n (pc := 10) (dd bX13_shownAhead dX13_shownAhead_10) rfl).trans ?_
  refine (rg_iaload (pc := 11) (dd bX13_shownAhead dX13_shownAhead_11) s1.2.2.2.2.2.1 s1.2.2.2.2.2.2.1 p2 p3 rfl).trans ?_
  refine (rn_iload_n (pc := 12) (dd bX13_shownAhead dX13_shownAhead_12) rfl).trans ?_
  have e1 : vrun mX13_shownAhead 13 [(1, 282), (0, x1), (0, x2), (0, x3), (9, 0), (9, 0)] [(0, x3), (0, h 2 284 x2)] h = vrun mX13_shownAhead 26 [(1, 282), (0, x1), (0, x2), (0, x3), (9, 0), (9, 0)] [(0, (if x3 ≤ h 2 284 x2 then (-1) else h 2 284 x2))] h := by
    refine (rn_icmp_ge (t := 25) (pc := 13) (dd bX13_shownAhead dX13_shownAhead_13) rfl).trans ?_
    by_cases c1 : x3 ≤ h 2 284 x2
    · refine (if_pos c1).trans ?_
      refine (rn_iconst (pc := 25) (dd bX13_shownAhead dX13_shownAhead_25) (by decide)).trans ?_
      refine Eq.trans (b := vrun mX13_shownAhead 26 [(1, 282), (0, x1), (0, x2), (0, x3), (9, 0), (9, 0)] [(0, (-1))] h) rfl ?_
      simp only [if_pos c1]
    · refine (if_neg c1).trans ?_
      refine (rn_aload_n (pc := 16) (dd bX13_shownAhead dX13_shownAhead_16) rfl).trans ?_
      refine (rg_gf (pc := 17) (dd bX13_shownAhead dX13_shownAhead_17) (ci := 14) (j := 2) rfl rfl (key := 1502) rfl (kc := 34) rfl s1.1 s1.2.2.2.2.1).trans ?_
      refine (rn_iload_n (pc := 20) (dd bX13_shownAhead dX13_shownAhead_20) rfl).trans ?_
      refine (rg_iaload (pc := 21) (dd bX13_shownAhead dX13_shownAhead_21) s1.2.2.2.2.2.1 s1.2.2.2.2.2.2.1 (by omega) (by omega) rfl).trans ?_
      refine (rn_goto (t := 26) (pc := 22) (dd bX13_shownAhead dX13_shownAhead_22) rfl).trans ?_
      refine Eq.trans (b := vrun mX13_shownAhead 26 [(1, 282), (0, x1), (0, x2), (0, x3), (9, 0), (9, 0)] [(0, h 2 284 x2)] h) rfl ?_
      simp only [if_neg c1]
  refine e1.trans ?_
  refine (rn_istore (pc := 26) (dd bX13_shownAhead dX13_shownAhead_26) (Nat.le_of_ble_eq_true rfl) rfl).trans ?_
  refine (rn_iconst (pc := 28) (dd bX13_shownAhead dX13_shownAhead_28) (by decide)).trans ?_
  refine (rn_istore (pc := 29) (dd bX13_shownAhead dX13_shownAhead_29) (Nat.le_of_ble_eq_true rfl) rfl).trans ?_
  rfl
theorem rX13_shownAhead_31 {x1 : Int} {x2 : Int} {x3 : Int} {x4 : Int} {x5 : Int} {h : vH} (s1 : shModel h) (p2 : ¬ (h 1540 282 0 ≤ x5) → 0 ≤ x5) (p3 : ¬ (h 1540 282 0 ≤ x5) → x5 < 140) : vrun mX13_shownAhead 31 [(1, 282), (0, x1), (0, x2), (0, x3), (0, x4), (0, x5)] [] h = if h 1540 282 0 ≤ x5 then some (.inl (some (0, x4)), h) else vrun mX13_shownAhead 31 [(1, 282), (0, x1), (0, x2), (0, x3), (0, (if h 2 313 x5 = (-1) then x4 else (if x3 ≤ h 2 313 x5 then x4 else (if h 2 313 x5 ≤ x4 then x4 else h 2 313 x5)))), (0, x5 + 1)] [] h := by
  refine (rn_iload (pc := 31) (dd bX13_shownAhead dX13_shownAhead_31) rfl).trans ?_
  refine (rn_aload_n (pc := 33) (dd bX13_shownAhead dX13_shownAhead_33) rfl).trans ?_
  refine (rg_gf (pc := 34) (dd bX13_shownAhead dX13_shownAhead_34) (ci := 14) (j := 40) rfl rfl (key := 1540) rfl (kc := 34) rfl s1.1 rfl).trans ?_
  refine (rn_icmp_ge (t := 94) (pc := 37) (dd bX13_shownAhead dX13_shownAhead_37) rfl).trans (itec (fun c1 => ?_) (fun c1 => ?_))
  · refine (rn_iload (pc := 94) (dd bX13_shownAhead dX13_shownAhead_94) rfl).trans ?_
    exact rn_ireturn (pc := 96) (dd bX13_shownAhead dX13_shownAhead_96) (Or.inl rfl)
  · refine (rn_aload_n (pc := 40) (dd bX13_shownAhead dX13_shownAhead_40) rfl).trans ?_
    refine (rg_gf (pc := 41) (dd bX13_shownAhead dX13_shownAhead_41) (ci := 14) (j := 32) rfl rfl (key := 1532) rfl (kc := 34) rfl s1.1 s1.2.2.2.2.2.2.2.2.2.2.2.2.2.2.2.2.2.2.2.2.2.2.2.2.2.2.2.2.2.2.2.2.2.2.2.2.2.2.2.2.2.2.2.2.2.2.2.2.2.2.2.2.2.2.2.2.2.2.2.2.2.2.2.2.2.2.2.2.2.2.2.2.2.2.2.2.2.2.2.2.2.2.2.2.2.2.2.2.2.2.2.1).trans ?_
    refine (rn_iload (pc := 44) (dd bX13_shownAhead dX13_shownAhead_44) rfl).trans ?_
    refine (rg_iaload (pc := 46) (dd bX13_shownAhead dX13_shownAhead_46) s1.2.2.2.2.2.2.2.2.2.2.2.2.2.2.2.2.2.2.2.2.2.2.2.2.2.2.2.2.2.2.2.2.2.2.2.2.2.2.2.2.2.2.2.2.2.2.2.2.2.2.2.2.2.2.2.2.2.2.2.2.2.2.2.2.2.2.2.2.2.2.2.2.2.2.2.2.2.2.2.2.2.2.2.2.2.2.2.2.2.2.2.2.1 s1.2.2.2.2.2.2.2.2.2.2.2.2.2.2.2.2.2.2.2.2.2.2.2.2.2.2.2.2.2.2.2.2.2.2.2.2.2.2.2.2.2.2.2.2.2.2.2.2.2.2.2.2.2.2.2.2.2.2.2.2.2.2.2.2.2.2.2.2.2.2.2.2.2.2.2.2.2.2.2.2.2.2.2.2.2.2.2.2.2.2.2.2.2.1 (p2 c1) (p3 c1) rfl).trans ?_
    refine (rn_iconst (pc := 47) (dd bX13_shownAhead dX13_shownAhead_47) (by decide)).trans ?_
    have e3 : vrun mX13_shownAhead 48 [(1, 282), (0, x1), (0, x2), (0, x3), (0, x4), (0, x5)] [(0, (-1)), (0, h 2 313 x5)] h = vrun mX13_shownAhead 86 [(1, 282), (0, x1), (0, x2), (0, x3), (0, x4), (0, x5)] [(0, (if h 2 313 x5 = (-1) then x4 else (if x3 ≤ h 2 313 x5 then x4 else (if h 2 313 x5 ≤ x4 then x4 else h 2 313 x5))))] h := by
      refine (rn_icmp_eq (t := 84) (pc := 48) (dd bX13_shownAhead dX13_shownAhead_48) rfl).trans ?_
      by_cases c2 : h 2 313 x5 = (-1)
      · refine (if_pos c2).trans ?_
        refine (rn_iload (pc := 84) (dd bX13_shownAhead dX13_shownAhead_84) rfl).trans ?_
        refine Eq.trans (b := vrun mX13_shownAhead 86 [(1, 282), (0, x1), (0, x2), (0, x3), (0, x4), (0, x5)] [(0, x4)] h) rfl ?_
        simp only [if_pos c2]
      · refine (if_neg c2).trans ?_
        refine (rn_aload_n (pc := 51) (dd bX13_shownAhead dX13_shownAhead_51) rfl).trans ?_
        refine (rg_gf (pc := 52) (dd bX13_shownAhead dX13_shownAhead_52) (ci := 14) (j := 32) rfl rfl (key := 1532) rfl (kc := 34) rfl s1.1 s1.2.2.2.2.2.2.2.2.2.2.2.2.2.2.2.2.2.2.2.2.2.2.2.2.2.2.2.2.2.2.2.2.2.2.2.2.2.2.2.2.2.2.2.2.2.2.2.2.2.2.2.2.2.2.2.2.2.2.2.2.2.2.2.2.2.2.2.2.2.2.2.2.2.2.2.2.2.2.2.2.2.2.2.2.2.2.2.2.2.2.2.1).trans ?_
        refine (rn_iload (pc := 55) (dd bX13_shownAhead dX13_shownAhead_55) rfl).trans ?_
        refine (rg_iaload (pc := 57) (dd bX13_shownAhead dX13_shownAhead_57) s1.2.2.2.2.2.2.2.2.2.2.2.2.2.2.2.2.2.2.2.2.2.2.2.2.2.2.2.2.2.2.2.2.2.2.2.2.2.2.2.2.2.2.2.2.2.2.2.2.2.2.2.2.2.2.2.2.2.2.2.2.2.2.2.2.2.2.2.2.2.2.2.2.2.2.2.2.2.2.2.2.2.2.2.2.2.2.2.2.2.2.2.2.1 s1.2.2.2.2.2.2.2.2.2.2.2.2.2.2.2.2.2.2.2.2.2.2.2.2.2.2.2.2.2.2.2.2.2.2.2.2.2.2.2.2.2.2.2.2.2.2.2.2.2.2.2.2.2.2.2.2.2.2.2.2.2.2.2.2.2.2.2.2.2.2.2.2.2.2.2.2.2.2.2.2.2.2.2.2.2.2.2.2.2.2.2.2.2.1 (by have z0 := p2 c1; have z1 := p3 c1; omega) (by have z0 := p2 c1; have z1 := p3 c1; omega) rfl).trans ?_
        refine (rn_iload_n (pc := 58) (dd bX13_shownAhead dX13_shownAhead_58) rfl).trans ?_
        have e2 : vrun mX13_shownAhead 59 [(1, 282), (0, x1), (0, x2), (0, x3), (0, x4), (0, x5)] [(0, x3), (0, h 2 313 x5)] h = vrun mX13_shownAhead 86 [(1, 282), (0, x1), (0, x2), (0, x3), (0, x4), (0, x5)] [(0, (if x3 ≤ h 2 313 x5 then x4 else (if h 2 313 x5 ≤ x4 then x4 else h 2 313 x5)))] h := by
          refine (rn_icmp_ge (t := 84) (pc := 59) (dd bX13_shownAhead dX13_shownAhead_59) rfl).trans ?_
          by_cases c3 : x3 ≤ h 2 313 x5
          · refine (if_pos c3).trans ?_
            refine (rn_iload (pc := 84) (dd bX13_shownAhead dX13_shownAhead_84) rfl).trans ?_
            refine Eq.trans (b := vrun mX13_shownAhead 86 [(1, 282), (0, x1), (0, x2), (0, x3), (0, x4), (0, x5)] [(0, x4)] h) rfl ?_
            simp only [if_pos c3]
          · refine (if_neg c3).trans ?_
            refine (rn_aload_n (pc := 62) (dd bX13_shownAhead dX13_shownAhead_62) rfl).trans ?_
            refine (rg_gf (pc := 63) (dd bX13_shownAhead dX13_shownAhead_63) (ci := 14) (j := 32) rfl rfl (key := 1532) rfl (kc := 34) rfl s1.1 s1.2.2.2.2.2.2.2.2.2.2.2.2.2.2.2.2.2.2.2.2.2.2.2.2.2.2.2.2.2.2.2.2.2.2.2.2.2.2.2.2.2.2.2.2.2.2.2.2.2.2.2.2.2.2.2.2.2.2.2.2.2.2.2.2.2.2.2.2.2.2.2.2.2.2.2.2.2.2.2.2.2.2.2.2.2.2.2.2.2.2.2.1).trans ?_
            refine (rn_iload (pc := 66) (dd bX13_shownAhead dX13_shownAhead_66) rfl).trans ?_
            refine (rg_iaload (pc := 68) (dd bX13_shownAhead dX13_shownAhead_68) s1.2.2.2.2.2.2.2.2.2.2.2.2.2.2.2.2.2.2.2.2.2.2.2.2.2.2.2.2.2.2.2.2.2.2.2.2.2.2.2.2.2.2.2.2.2.2.2.2.2.2.2.2.2.2.2.2.2.2.2.2.2.2.2.2.2.2.2.2.2.2.2.2.2.2.2.2.2.2.2.2.2.2.2.2.2.2.2.2.2.2.2.2.1 s1.2.2.2.2.2.2.2.2.2.2.2.2.2.2.2.2.2.2.2.2.2.2.2.2.2.2.2.2.2.2.2.2.2.2.2.2.2.2.2.2.2.2.2.2.2.2.2.2.2.2.2.2.2.2.2.2.2.2.2.2.2.2.2.2.2.2.2.2.2.2.2.2.2.2.2.2.2.2.2.2.2.2.2.2.2.2.2.2.2.2.2.2.2.1 (by have z0 := p2 c1; have z1 := p3 c1; omega) (by have z0 := p2 c1; have z1 := p3 c1; omega) rfl).trans ?_
            refine (rn_iload (pc := 69) (dd bX13_shownAhead dX13_shownAhead_69) rfl).trans ?_
            have e1 : vrun mX13_shownAhead 71 [(1, 282), (0, x1), (0, x2), (0, x3), (0, x4), (0, x5)] [(0, x4), (0, h 2 313 x5)] h = vrun mX13_shownAhead 86 [(1, 282), (0, x1), (0, x2), (0, x3), (0, x4), (0, x5)] [(0, (if h 2 313 x5 ≤ x4 then x4 else h 2 313 x5))] h := by
              refine (rn_icmp_le (t := 84) (pc := 71) (dd bX13_shownAhead dX13_shownAhead_71) rfl).trans ?_
              by_cases c4 : h 2 313 x5 ≤ x4
              · refine (if_pos c4).trans ?_
                refine (rn_iload (pc := 84) (dd bX13_shownAhead dX13_shownAhead_84) rfl).trans ?_
                refine Eq.trans (b := vrun mX13_shownAhead 86 [(1, 282), (0, x1), (0, x2), (0, x3), (0, x4), (0, x5)] [(0, x4)] h) rfl ?_
                simp only [if_pos c4]
              · refine (if_neg c4).trans ?_
                refine (rn_aload_n (pc := 74) (dd bX13_shownAhead dX13_shownAhead_74) rfl).trans ?_
                refine (rg_gf (pc := 75) (dd bX13_shownAhead dX13_shownAhead_75) (ci := 14) (j := 32) rfl rfl (key := 1532) rfl (kc := 34) rfl s1.1 s1.2.2.2.2.2.2.2.2.2.2.2.2.2.2.2.2.2.2.2.2.2.2.2.2.2.2.2.2.2.2.2.2.2.2.2.2.2.2.2.2.2.2.2.2.2.2.2.2.2.2.2.2.2.2.2.2.2.2.2.2.2.2.2.2.2.2.2.2.2.2.2.2.2.2.2.2.2.2.2.2.2.2.2.2.2.2.2.2.2.2.2.1).trans ?_
                refine (rn_iload (pc := 78) (dd bX13_shownAhead dX13_shownAhead_78) rfl).trans ?_
                refine (rg_iaload (pc := 80) (dd bX13_shownAhead dX13_shownAhead_80) s1.2.2.2.2.2.2.2.2.2.2.2.2.2.2.2.2.2.2.2.2.2.2.2.2.2.2.2.2.2.2.2.2.2.2.2.2.2.2.2.2.2.2.2.2.2.2.2.2.2.2.2.2.2.2.2.2.2.2.2.2.2.2.2.2.2.2.2.2.2.2.2.2.2.2.2.2.2.2.2.2.2.2.2.2.2.2.2.2.2.2.2.2.1 s1.2.2.2.2.2.2.2.2.2.2.2.2.2.2.2.2.2.2.2.2.2.2.2.2.2.2.2.2.2.2.2.2.2.2.2.2.2.2.2.2.2.2.2.2.2.2.2.2.2.2.2.2.2.2.2.2.2.2.2.2.2.2.2.2.2.2.2.2.2.2.2.2.2.2.2.2.2.2.2.2.2.2.2.2.2.2.2.2.2.2.2.2.2.1 (by have z0 := p2 c1; have z1 := p3 c1; omega) (by have z0 := p2 c1; have z1 := p3 c1; omega) rfl).trans ?_
                refine (rn_goto (t := 86) (pc := 81) (dd bX13_shownAhead dX13_shownAhead_81) rfl).trans ?_
                refine Eq.trans (b := vrun mX13_shownAhead 86 [(1, 282), (0, x1), (0, x2), (0, x3), (0, x4), (0, x5)] [(0, h 2 313 x5)] h) rfl ?_
                simp only [if_neg c4]
            refine e1.trans ?_
            refine Eq.trans (b := vrun mX13_shownAhead 86 [(1, 282), (0, x1), (0, x2), (0, x3), (0, x4), (0, x5)] [(0, (if h 2 313 x5 ≤ x4 then x4 else h 2 313 x5))] h) rfl ?_
            simp only [if_neg c3]
        refine e2.trans ?_
        refine Eq.trans (b := vrun mX13_shownAhead 86 [(1, 282), (0, x1), (0, x2), (0, x3), (0, x4), (0, x5)] [(0, (if x3 ≤ h 2 313 x5 then x4 else (if h 2 313 x5 ≤ x4 then x4 else h 2 313 x5)))] h) rfl ?_
        simp only [if_neg c2]
    refine e3.trans ?_
    refine (rn_istore (pc := 86) (dd bX13_shownAhead dX13_shownAhead_86) (Nat.le_of_ble_eq_true rfl) rfl).trans ?_
    refine (rg_iinc (pc := 88) (dd bX13_shownAhead dX13_shownAhead_88) rfl (Nat.le_of_ble_eq_true rfl) (by have z0 := p2 c1; have z1 := p3 c1; omega) (by have z0 := p2 c1; have z1 := p3 c1; omega) rfl).trans ?_
    refine (rn_goto (t := 31) (pc := 91) (dd bX13_shownAhead dX13_shownAhead_91) rfl).trans ?_
    rfl
theorem bX13_changes : vmB mX13_changes = cX13_changes := rfl
theorem rX13_changes_0 {x1 : Int} {x2 : Int} {x3 : Int} {h : vH} (s1 : shModel h) : vrun mX13_changes 0 [(1, 282), (0, x1), (0, x2), (0, x3), (9, 0)] [] h = vret vrun mX13_changes 3 [(1, 282), (0, x1), (0, x2), (0, x3), (9, 0)] [(0, x2)] (vcl mX13_lineNow [(1, 282), (0, x1)] h) := by
  refine (rn_iload_n (pc := 0) (dd bX13_changes dX13_changes_0) rfl).trans ?_
  refine (rn_aload_n (pc := 1) (dd bX13_changes dX13_changes_1) rfl).trans ?_
  refine (rn_iload_n (pc := 2) (dd bX13_changes dX13_changes_2) rfl).trans ?_
  exact rg_virtual (pc := 3) (dd bX13_changes dX13_changes_3) rfl rfl (by decide) (kc := 34) rfl s1.1 (as := [(1, 282), (0, x1)]) rfl ⟨Nat.le_of_ble_eq_true rfl, Nat.le_of_ble_eq_true rfl, Nat.le_of_ble_eq_true rfl, Nat.le_of_ble_eq_true rfl⟩
theorem rX13_changes_6 {x1 : Int} {x2 : Int} {x3 : Int} {y0 : Int} {y1 : Int} {h : vH} (s1 : shModel h) : vrun mX13_changes 6 [(1, 282), (0, x1), (0, x2), (0, x3), (9, 0)] [(0, y0), (0, y1)] h = if y1 = y0 then vret vrun mX13_changes 12 [(1, 282), (0, x1), (0, x2), (0, x3), (9, 0)] [(0, x3)] (vcl mX13_placeNow [(1, 282), (0, x1)] h) else vret vrun mX13_changes 34 [(1, 282), (0, x1), (0, x2), (0, x3), (0, 1)] [] (vcl mX13_goesTo [(1, 282), (0, x1), (0, x2), (0, x3)] h) := by
  refine (rg_icmp_ne (t := 18) (pc := 6) (dd bX13_changes dX13_changes_6) rfl).trans (itec (fun c1 => ?_) (fun c1 => ?_))
  · refine (rn_iload_n (pc := 9) (dd bX13_changes dX13_changes_9) rfl).trans ?_
    refine (rn_aload_n (pc := 10) (dd bX13_changes dX13_changes_10) rfl).trans ?_
    refine (rn_iload_n (pc := 11) (dd bX13_changes dX13_changes_11) rfl).trans ?_
    exact rg_virtual (pc := 12) (dd bX13_changes dX13_changes_12) rfl rfl (by decide) (kc := 34) rfl s1.1 (as := [(1, 282), (0, x1)]) rfl ⟨Nat.le_of_ble_eq_true rfl, Nat.le_of_ble_eq_true rfl, Nat.le_of_ble_eq_true rfl, Nat.le_of_ble_eq_true rfl⟩
  · refine (rn_iconst (pc := 18) (dd bX13_changes dX13_changes_18) (by decide)).trans ?_
    refine (rn_goto (t := 23) (pc := 19) (dd bX13_changes dX13_changes_19) rfl).trans ?_
    refine (rn_istore (pc := 23) (dd bX13_changes dX13_changes_23) (Nat.le_of_ble_eq_true rfl) rfl).trans ?_
    refine (rn_iload (pc := 25) (dd bX13_changes dX13_changes_25) rfl).trans ?_
    refine (rn_if_eq (t := 37) (pc := 27) (dd bX13_changes dX13_changes_27) rfl).trans ((if_neg (by decide)).trans ?_)
    refine (rn_aload_n (pc := 30) (dd bX13_changes dX13_changes_30) rfl).trans ?_
    refine (rn_iload_n (pc := 31) (dd bX13_changes dX13_changes_31) rfl).trans ?_
    refine (rn_iload_n (pc := 32) (dd bX13_changes dX13_changes_32) rfl).trans ?_
    refine (rn_iload_n (pc := 33) (dd bX13_changes dX13_changes_33) rfl).trans ?_
    exact rg_virtual (pc := 34) (dd bX13_changes dX13_changes_34) rfl rfl (by decide) (kc := 34) rfl s1.1 (as := [(1, 282), (0, x1), (0, x2), (0, x3)]) rfl ⟨Nat.le_of_ble_eq_true rfl, Nat.le_of_ble_eq_true rfl, Nat.le_of_ble_eq_true rfl, Nat.le_of_ble_eq_true rfl⟩
theorem rX13_changes_15 {x1 : Int} {x2 : Int} {x3 : Int} {y0 : Int} {y1 : Int} {h : vH} (s1 : shModel h) : vrun mX13_changes 15 [(1, 282), (0, x1), (0, x2), (0, x3), (9, 0)] [(0, y0), (0, y1)] h = if ¬ (y1 = y0) then vret vrun mX13_changes 34 [(1, 282), (0, x1), (0, x2), (0, x3), (0, (if ¬ (y1 = y0) then 1 else 0))] [] (vcl mX13_goesTo [(1, 282), (0, x1), (0, x2), (0, x3)] h) else some (.inl (some (0, (if ¬ (y1 = y0) then 1 else 0))), h) := by
  have e1 : vrun mX13_changes 15 [(1, 282), (0, x1), (0, x2), (0, x3), (9, 0)] [(0, y0), (0, y1)] h = vrun mX13_changes 23 [(1, 282), (0, x1), (0, x2), (0, x3), (9, 0)] [(0, (if ¬ (y1 = y0) then 1 else 0))] h := by
    refine (rn_icmp_eq (t := 22) (pc := 15) (dd bX13_changes dX13_changes_15) rfl).trans ?_
    by_cases c1 : y1 = y0
    · refine (if_pos c1).trans ?_
      refine (rn_iconst (pc := 22) (dd bX13_changes dX13_changes_22) (by decide)).trans ?_
      refine Eq.trans (b := vrun mX13_changes 23 [(1, 282), (0, x1), (0, x2), (0, x3), (9, 0)] [(0, 0)] h) rfl ?_
      simp only [c1, true_or, false_or, or_true, or_false, true_and, false_and, and_true, and_false, not_true_eq_false, not_false_eq_true, ne_eq, if_true, if_false, ↓reduceIte]
    · refine (if_neg c1).trans ?_
      refine (rn_iconst (pc := 18) (dd bX13_changes dX13_changes_18) (by decide)).trans ?_
      refine (rn_goto (t := 23) (pc := 19) (dd bX13_changes dX13_changes_19) rfl).trans ?_
      refine Eq.trans (b := vrun mX13_changes 23 [(1, 282), (0, x1), (0, x2), (0, x3), (9, 0)] [(0, 1)] h) rfl ?_
      simp only [c1, true_or, false_or, or_true, or_false, true_and, false_and, and_true, and_false, not_true_eq_false, not_false_eq_true, ne_eq, if_true, if_false, ↓reduceIte]
  refine e1.trans ?_
  refine (rn_istore (pc := 23) (dd bX13_changes dX13_changes_23) (Nat.le_of_ble_eq_true rfl) rfl).trans ?_
  refine (rn_iload (pc := 25) (dd bX13_changes dX13_changes_25) rfl).trans ?_
  refine (rg_beq (t := 37) (pc := 27) (dd bX13_changes dX13_changes_27) rfl).trans (itec (fun c2 => ?_) (fun c2 => ?_))
  · refine (rn_aload_n (pc := 30) (dd bX13_changes dX13_changes_30) rfl).trans ?_
    refine (rn_iload_n (pc := 31) (dd bX13_changes dX13_changes_31) rfl).trans ?_
    refine (rn_iload_n (pc := 32) (dd bX13_changes dX13_changes_32) rfl).trans ?_
    refine (rn_iload_n (pc := 33) (dd bX13_changes dX13_changes_33) rfl).trans ?_
    exact rg_virtual (pc := 34) (dd bX13_changes dX13_changes_34) rfl rfl (by decide) (kc := 34) rfl s1.1 (as := [(1, 282), (0, x1), (0, x2), (0, x3)]) rfl ⟨Nat.le_of_ble_eq_true rfl, Nat.le_of_ble_eq_true rfl, Nat.le_of_ble_eq_true rfl, Nat.le_of_ble_eq_true rfl⟩
  · refine (rn_iload (pc := 37) (dd bX13_changes dX13_changes_37) rfl).trans ?_
    exact rn_ireturn (pc := 39) (dd bX13_changes dX13_changes_39) (Or.inr ⟨rfl, b01⟩)
theorem rX13_changes_37 {x1 : Int} {x2 : Int} {x3 : Int} {x4 : Int} {h : vH} (p1 : x4 = 0 ∨ x4 = 1) : vrun mX13_changes 37 [(1, 282), (0, x1), (0, x2), (0, x3), (0, x4)] [] h = some (.inl (some (0, x4)), h) := by
  refine (rn_iload (pc := 37) (dd bX13_changes dX13_changes_37) rfl).trans ?_
  exact rn_ireturn (pc := 39) (dd bX13_changes dX13_changes_39) (Or.inr ⟨rfl, p1⟩)
theorem bX13_beside : vmB mX13_beside = cX13_beside := rfl
theorem rX13_beside_0 {x1 : Int} {x2 : Int} {x3 : Int} {h : vH} (p1 : (-2147483648) ≤ x2 + x3) (p2 : x2 + x3 < 2147483648) : vrun mX13_beside 0 [(1, 282), (0, x1), (0, x2), (0, x3), (9, 0)] [] h = vrun mX13_beside 5 [(1, 282), (0, x1), (0, x2), (0, x3), (0, x2 + x3)] [] h := by
  refine (rn_iload_n (pc := 0) (dd bX13_beside dX13_beside_0) rfl).trans ?_
  refine (rn_iload_n (pc := 1) (dd bX13_beside dX13_beside_1) rfl).trans ?_
  refine (rg_iadd (pc := 2) (dd bX13_beside dX13_beside_2) p1 p2).trans ?_
  refine (rn_istore (pc := 3) (dd bX13_beside dX13_beside_3) (Nat.le_of_ble_eq_true rfl) rfl).trans ?_
  rfl
theorem rX13_beside_5 {x1 : Int} {x2 : Int} {x3 : Int} {x4 : Int} {h : vH} (s1 : shModel h) (p2 : (-2147483648) ≤ h 1504 282 0 - 1) (p3 : h 1504 282 0 - 1 < 2147483648) : vrun mX13_beside 5 [(1, 282), (0, x1), (0, x2), (0, x3), (0, x4)] [] h = if fX13_isLine h x4 = 0 then some (.inl (some (0, (if fX13_isLine h x4 = 0 then (-1) else x4))), h) else vret vrun mX13_beside 18 [(1, 282), (0, x1), (0, x2), (0, x3), (0, x4)] [] (vcl mX13_isInvisible [(1, 282), (0, x1), (0, x4)] h) := by
  refine (rn_aload_n (pc := 5) (dd bX13_beside dX13_beside_5) rfl).trans ?_
  refine (rn_iload (pc := 6) (dd bX13_beside dX13_beside_6) rfl).trans ?_
  refine (rg_virtual (pc := 8) (dd bX13_beside dX13_beside_8) rfl rfl (by decide) (kc := 34) rfl s1.1 (as := [(1, 282), (0, x4)]) rfl ⟨Nat.le_of_ble_eq_true rfl, Nat.le_of_ble_eq_true rfl, Nat.le_of_ble_eq_true rfl, Nat.le_of_ble_eq_true rfl⟩).trans ?_
  refine (vret_v (spX13_isLine s1 p2 p3)).trans ?_
  refine (rn_if_eq (t := 33) (pc := 11) (dd bX13_beside dX13_beside_11) rfl).trans (itec (fun c1 => ?_) (fun c1 => ?_))
  · refine (rn_aload_n (pc := 33) (dd bX13_beside dX13_beside_33) rfl).trans ?_
    refine (rn_iload (pc := 34) (dd bX13_beside dX13_beside_34) rfl).trans ?_
    refine (rg_virtual (pc := 36) (dd bX13_beside dX13_beside_36) rfl rfl (by decide) (kc := 34) rfl s1.1 (as := [(1, 282), (0, x4)]) rfl ⟨Nat.le_of_ble_eq_true rfl, Nat.le_of_ble_eq_true rfl, Nat.le_of_ble_eq_true rfl, Nat.le_of_ble_eq_true rfl⟩).trans ?_
    refine (vret_v (spX13_isLine s1 (by omega) (by omega))).trans ?_
    have e1 : vrun mX13_beside 39 [(1, 282), (0, x1), (0, x2), (0, x3), (0, x4)] [(0, fX13_isLine h x4)] h = vrun mX13_beside 48 [(1, 282), (0, x1), (0, x2), (0, x3), (0, x4)] [(0, (if fX13_isLine h x4 = 0 then (-1) else x4))] h := by
      refine (rn_if_eq (t := 47) (pc := 39) (dd bX13_beside dX13_beside_39) rfl).trans ?_
      by_cases c2 : fX13_isLine h x4 = 0
      · refine (if_pos c2).trans ?_
        refine (rn_iconst (pc := 47) (dd bX13_beside dX13_beside_47) (by decide)).trans ?_
        refine Eq.trans (b := vrun mX13_beside 48 [(1, 282), (0, x1), (0, x2), (0, x3), (0, x4)] [(0, (-1))] h) rfl ?_
        simp only [if_pos c2]
      · refine (if_neg c2).trans ?_
        refine (rn_iload (pc := 42) (dd bX13_beside dX13_beside_42) rfl).trans ?_
        refine (rn_goto (t := 48) (pc := 44) (dd bX13_beside dX13_beside_44) rfl).trans ?_
        refine Eq.trans (b := vrun mX13_beside 48 [(1, 282), (0, x1), (0, x2), (0, x3), (0, x4)] [(0, x4)] h) rfl ?_
        simp only [if_neg c2]
    refine e1.trans ?_
    exact rn_ireturn (pc := 48) (dd bX13_beside dX13_beside_48) (Or.inl rfl)
  · refine (rn_aload_n (pc := 14) (dd bX13_beside dX13_beside_14) rfl).trans ?_
    refine (rn_iload_n (pc := 15) (dd bX13_beside dX13_beside_15) rfl).trans ?_
    refine (rn_iload (pc := 16) (dd bX13_beside dX13_beside_16) rfl).trans ?_
    exact rg_virtual (pc := 18) (dd bX13_beside dX13_beside_18) rfl rfl (by decide) (kc := 34) rfl s1.1 (as := [(1, 282), (0, x1), (0, x4)]) rfl ⟨Nat.le_of_ble_eq_true rfl, Nat.le_of_ble_eq_true rfl, Nat.le_of_ble_eq_true rfl, Nat.le_of_ble_eq_true rfl⟩
theorem rX13_beside_21 {x1 : Int} {x2 : Int} {x3 : Int} {x4 : Int} {y0 : Int} {h : vH} (s1 : shModel h) (p2 : y0 = 0 → (-2147483648) ≤ h 1504 282 0 - 1) (p3 : y0 = 0 → h 1504 282 0 - 1 < 2147483648) (p4 : ¬ (y0 = 0) → (-2147483648) ≤ x4 + x3) (p5 : ¬ (y0 = 0) → x4 + x3 < 2147483648) : vrun mX13_beside 21 [(1, 282), (0, x1), (0, x2), (0, x3), (0, x4)] [(0, y0)] h = if y0 = 0 then some (.inl (some (0, (if fX13_isLine h x4 = 0 then (-1) else x4))), h) else vrun mX13_beside 5 [(1, 282), (0, x1), (0, x2), (0, x3), (0, x4 + x3)] [] h := by
  refine (rn_if_eq (t := 33) (pc := 21) (dd bX13_beside dX13_beside_21) rfl).trans (itec (fun c1 => ?_) (fun c1 => ?_))
  · refine (rn_aload_n (pc := 33) (dd bX13_beside dX13_beside_33) rfl).trans ?_
    refine (rn_iload (pc := 34) (dd bX13_beside dX13_beside_34) rfl).trans ?_
    refine (rg_virtual (pc := 36) (dd bX13_beside dX13_beside_36) rfl rfl (by decide) (kc := 34) rfl s1.1 (as := [(1, 282), (0, x4)]) rfl ⟨Nat.le_of_ble_eq_true rfl, Nat.le_of_ble_eq_true rfl, Nat.le_of_ble_eq_true rfl, Nat.le_of_ble_eq_true rfl⟩).trans ?_
    refine (vret_v (spX13_isLine s1 (p2 c1) (p3 c1))).trans ?_
    have e1 : vrun mX13_beside 39 [(1, 282), (0, x1), (0, x2), (0, x3), (0, x4)] [(0, fX13_isLine h x4)] h = vrun mX13_beside 48 [(1, 282), (0, x1), (0, x2), (0, x3), (0, x4)] [(0, (if fX13_isLine h x4 = 0 then (-1) else x4))] h := by
      refine (rn_if_eq (t := 47) (pc := 39) (dd bX13_beside dX13_beside_39) rfl).trans ?_
      by_cases c2 : fX13_isLine h x4 = 0
      · refine (if_pos c2).trans ?_
        refine (rn_iconst (pc := 47) (dd bX13_beside dX13_beside_47) (by decide)).trans ?_
        refine Eq.trans (b := vrun mX13_beside 48 [(1, 282), (0, x1), (0, x2), (0, x3), (0, x4)] [(0, (-1))] h) rfl ?_
        simp only [if_pos c2]
      · refine (if_neg c2).trans ?_
        refine (rn_iload (pc := 42) (dd bX13_beside dX13_beside_42) rfl).trans ?_
        refine (rn_goto (t := 48) (pc := 44) (dd bX13_beside dX13_beside_44) rfl).trans ?_
        refine Eq.trans (b := vrun mX13_beside 48 [(1, 282), (0, x1), (0, x2), (0, x3), (0, x4)] [(0, x4)] h) rfl ?_
        simp only [if_neg c2]
    refine e1.trans ?_
    exact rn_ireturn (pc := 48) (dd bX13_beside dX13_beside_48) (Or.inl rfl)
  · refine (rn_iload (pc := 24) (dd bX13_beside dX13_beside_24) rfl).trans ?_
    refine (rn_iload_n (pc := 26) (dd bX13_beside dX13_beside_26) rfl).trans ?_
    refine (rg_iadd (pc := 27) (dd bX13_beside dX13_beside_27) (p4 c1) (p5 c1)).trans ?_
    refine (rn_istore (pc := 28) (dd bX13_beside dX13_beside_28) (Nat.le_of_ble_eq_true rfl) rfl).trans ?_
    refine (rn_goto (t := 5) (pc := 30) (dd bX13_beside dX13_beside_30) rfl).trans ?_
    rfl
theorem bX13_goesAhead : vmB mX13_goesAhead = cX13_goesAhead := rfl
theorem rX13_goesAhead_0 {x1 : Int} {h : vH} (s1 : shModel h) : vrun mX13_goesAhead 0 [(1, 282), (0, x1), (9, 0), (9, 0), (9, 0)] [] h = vret vrun mX13_goesAhead 2 [(1, 282), (0, x1), (9, 0), (9, 0), (9, 0)] [] (vcl mX13_lineNow [(1, 282), (0, x1)] h) := by
  refine (rn_aload_n (pc := 0) (dd bX13_goesAhead dX13_goesAhead_0) rfl).trans ?_
  refine (rn_iload_n (pc := 1) (dd bX13_goesAhead dX13_goesAhead_1) rfl).trans ?_
  exact rg_virtual (pc := 2) (dd bX13_goesAhead dX13_goesAhead_2) rfl rfl (by decide) (kc := 34) rfl s1.1 (as := [(1, 282), (0, x1)]) rfl ⟨Nat.le_of_ble_eq_true rfl, Nat.le_of_ble_eq_true rfl, Nat.le_of_ble_eq_true rfl, Nat.le_of_ble_eq_true rfl⟩
theorem rX13_goesAhead_5 {x1 : Int} {y0 : Int} {h : vH} (s1 : shModel h) : vrun mX13_goesAhead 5 [(1, 282), (0, x1), (9, 0), (9, 0), (9, 0)] [(0, y0)] h = vret vrun mX13_goesAhead 11 [(1, 282), (0, x1), (0, y0), (9, 0), (9, 0)] [(0, y0), (0, x1), (1, 282)] (vcl mX13_placeNow [(1, 282), (0, x1)] h) := by
  refine (rn_istore_n (pc := 5) (dd bX13_goesAhead dX13_goesAhead_5) (Nat.le_of_ble_eq_true rfl) rfl).trans ?_
  refine (rn_aload_n (pc := 6) (dd bX13_goesAhead dX13_goesAhead_6) rfl).trans ?_
  refine (rn_iload_n (pc := 7) (dd bX13_goesAhead dX13_goesAhead_7) rfl).trans ?_
  refine (rn_iload_n (pc := 8) (dd bX13_goesAhead dX13_goesAhead_8) rfl).trans ?_
  refine (rn_aload_n (pc := 9) (dd bX13_goesAhead dX13_goesAhead_9) rfl).trans ?_
  refine (rn_iload_n (pc := 10) (dd bX13_goesAhead dX13_goesAhead_10) rfl).trans ?_
  exact rg_virtual (pc := 11) (dd bX13_goesAhead dX13_goesAhead_11) rfl rfl (by decide) (kc := 34) rfl s1.1 (as := [(1, 282), (0, x1)]) rfl ⟨Nat.le_of_ble_eq_true rfl, Nat.le_of_ble_eq_true rfl, Nat.le_of_ble_eq_true rfl, Nat.le_of_ble_eq_true rfl⟩
theorem rX13_goesAhead_14 {x1 : Int} {x2 : Int} {y0 : Int} {y1 : Int} {y2 : Int} {h : vH} (s1 : shModel h) : vrun mX13_goesAhead 14 [(1, 282), (0, x1), (0, x2), (9, 0), (9, 0)] [(0, y0), (0, y1), (0, y2), (1, 282)] h = vret vrun mX13_goesAhead 14 [(1, 282), (0, x1), (0, x2), (9, 0), (9, 0)] [] (vcl mX13_shownAhead [(1, 282), (0, y2), (0, y1), (0, y0)] h) := by
  exact rg_virtual (pc := 14) (dd bX13_goesAhead dX13_goesAhead_14) rfl rfl (by decide) (kc := 34) rfl s1.1 (as := [(1, 282), (0, y2), (0, y1), (0, y0)]) rfl ⟨Nat.le_of_ble_eq_true rfl, Nat.le_of_ble_eq_true rfl, Nat.le_of_ble_eq_true rfl, Nat.le_of_ble_eq_true rfl⟩
theorem rX13_goesAhead_17 {x1 : Int} {x2 : Int} {y0 : Int} {h : vH} (s1 : shModel h) : vrun mX13_goesAhead 17 [(1, 282), (0, x1), (0, x2), (9, 0), (9, 0)] [(0, y0)] h = if y0 = (-1) then vret vrun mX13_goesAhead 35 [(1, 282), (0, x1), (0, x2), (0, y0), (9, 0)] [] (vcl mX13_beside [(1, 282), (0, x1), (0, x2), (0, (-1))] h) else vret vrun mX13_goesAhead 27 [(1, 282), (0, x1), (0, x2), (0, y0), (9, 0)] [] (vcl mX13_changes [(1, 282), (0, x1), (0, x2), (0, y0)] h) := by
  refine (rn_istore_n (pc := 17) (dd bX13_goesAhead dX13_goesAhead_17) (Nat.le_of_ble_eq_true rfl) rfl).trans ?_
  refine (rn_iload_n (pc := 18) (dd bX13_goesAhead dX13_goesAhead_18) rfl).trans ?_
  refine (rn_iconst (pc := 19) (dd bX13_goesAhead dX13_goesAhead_19) (by decide)).trans ?_
  refine (rn_icmp_eq (t := 31) (pc := 20) (dd bX13_goesAhead dX13_goesAhead_20) rfl).trans (itec (fun c1 => ?_) (fun c1 => ?_))
  · refine (rn_aload_n (pc := 31) (dd bX13_goesAhead dX13_goesAhead_31) rfl).trans ?_
    refine (rn_iload_n (pc := 32) (dd bX13_goesAhead dX13_goesAhead_32) rfl).trans ?_
    refine (rn_iload_n (pc := 33) (dd bX13_goesAhead dX13_goesAhead_33) rfl).trans ?_
    refine (rn_iconst (pc := 34) (dd bX13_goesAhead dX13_goesAhead_34) (by decide)).trans ?_
    exact rg_virtual (pc := 35) (dd bX13_goesAhead dX13_goesAhead_35) rfl rfl (by decide) (kc := 34) rfl s1.1 (as := [(1, 282), (0, x1), (0, x2), (0, (-1))]) rfl ⟨Nat.le_of_ble_eq_true rfl, Nat.le_of_ble_eq_true rfl, Nat.le_of_ble_eq_true rfl, Nat.le_of_ble_eq_true rfl⟩
  · refine (rn_aload_n (pc := 23) (dd bX13_goesAhead dX13_goesAhead_23) rfl).trans ?_
    refine (rn_iload_n (pc := 24) (dd bX13_goesAhead dX13_goesAhead_24) rfl).trans ?_
    refine (rn_iload_n (pc := 25) (dd bX13_goesAhead dX13_goesAhead_25) rfl).trans ?_
    refine (rn_iload_n (pc := 26) (dd bX13_goesAhead dX13_goesAhead_26) rfl).trans ?_
    exact rg_virtual (pc := 27) (dd bX13_goesAhead dX13_goesAhead_27) rfl rfl (by decide) (kc := 34) rfl s1.1 (as := [(1, 282), (0, x1), (0, x2), (0, y0)]) rfl ⟨Nat.le_of_ble_eq_true rfl, Nat.le_of_ble_eq_true rfl, Nat.le_of_ble_eq_true rfl, Nat.le_of_ble_eq_true rfl⟩
theorem rX13_goesAhead_38 {x1 : Int} {x2 : Int} {x3 : Int} {y0 : Int} {h : vH} (s1 : shModel h) (p2 : ¬ (y0 = (-1)) → 0 ≤ y0) (p3 : ¬ (y0 = (-1)) → y0 < 60) : vrun mX13_goesAhead 38 [(1, 282), (0, x1), (0, x2), (0, x3), (9, 0)] [(0, y0)] h = if y0 = (-1) then some (.inl (some (0, 0)), h) else vret vrun mX13_goesAhead 57 [(1, 282), (0, x1), (0, x2), (0, x3), (0, y0)] [] (vcl mX13_changes [(1, 282), (0, x1), (0, y0), (0, h 2 284 y0)] h) := by
  refine (rn_istore (pc := 38) (dd bX13_goesAhead dX13_goesAhead_38) (Nat.le_of_ble_eq_true rfl) rfl).trans ?_
  refine (rn_iload (pc := 40) (dd bX13_goesAhead dX13_goesAhead_40) rfl).trans ?_
  refine (rn_iconst (pc := 42) (dd bX13_goesAhead dX13_goesAhead_42) (by decide)).trans ?_
  refine (rn_icmp_eq (t := 67) (pc := 43) (dd bX13_goesAhead dX13_goesAhead_43) rfl).trans (itec (fun c1 => ?_) (fun c1 => ?_))
  · refine (rn_iconst (pc := 67) (dd bX13_goesAhead dX13_goesAhead_67) (by decide)).trans ?_
    exact rn_ireturn (pc := 68) (dd bX13_goesAhead dX13_goesAhead_68) (Or.inr ⟨rfl, (by decide)⟩)
  · refine (rn_aload_n (pc := 46) (dd bX13_goesAhead dX13_goesAhead_46) rfl).trans ?_
    refine (rn_iload_n (pc := 47) (dd bX13_goesAhead dX13_goesAhead_47) rfl).trans ?_
    refine (rn_iload (pc := 48) (dd bX13_goesAhead dX13_goesAhead_48) rfl).trans ?_
    refine (rn_aload_n (pc := 50) (dd bX13_goesAhead dX13_goesAhead_50) rfl).trans ?_
    refine (rg_gf (pc := 51) (dd bX13_goesAhead dX13_goesAhead_51) (ci := 14) (j := 2) rfl rfl (key := 1502) rfl (kc := 34) rfl s1.1 s1.2.2.2.2.1).trans ?_
    refine (rn_iload (pc := 54) (dd bX13_goesAhead dX13_goesAhead_54) rfl).trans ?_
    refine (rg_iaload (pc := 56) (dd bX13_goesAhead dX13_goesAhead_56) s1.2.2.2.2.2.1 s1.2.2.2.2.2.2.1 (p2 c1) (p3 c1) rfl).trans ?_
    exact rg_virtual (pc := 57) (dd bX13_goesAhead dX13_goesAhead_57) rfl rfl (by decide) (kc := 34) rfl s1.1 (as := [(1, 282), (0, x1), (0, y0), (0, h 2 284 y0)]) rfl ⟨Nat.le_of_ble_eq_true rfl, Nat.le_of_ble_eq_true rfl, Nat.le_of_ble_eq_true rfl, Nat.le_of_ble_eq_true rfl⟩
theorem rX13_goesAhead_30 {x1 : Int} {x2 : Int} {x3 : Int} {y0 : Int} {h : vH} (p1 : y0 = 0 ∨ y0 = 1) : vrun mX13_goesAhead 30 [(1, 282), (0, x1), (0, x2), (0, x3), (9, 0)] [(0, y0)] h = some (.inl (some (0, y0)), h) := by
  exact rn_ireturn (pc := 30) (dd bX13_goesAhead dX13_goesAhead_30) (Or.inr ⟨rfl, p1⟩)
theorem rX13_goesAhead_60 {x1 : Int} {x2 : Int} {x3 : Int} {x4 : Int} {y0 : Int} {h : vH} : vrun mX13_goesAhead 60 [(1, 282), (0, x1), (0, x2), (0, x3), (0, x4)] [(0, y0)] h = some (.inl (some (0, (if ¬ (y0 = 0) then 1 else 0))), h) := by
  have e1 : vrun mX13_goesAhead 60 [(1, 282), (0, x1), (0, x2), (0, x3), (0, x4)] [(0, y0)] h = vrun mX13_goesAhead 68 [(1, 282), (0, x1), (0, x2), (0, x3), (0, x4)] [(0, (if ¬ (y0 = 0) then 1 else 0))] h := by
    refine (rn_if_eq (t := 67) (pc := 60) (dd bX13_goesAhead dX13_goesAhead_60) rfl).trans ?_
    by_cases c1 : y0 = 0
    · refine (if_pos c1).trans ?_
      refine (rn_iconst (pc := 67) (dd bX13_goesAhead dX13_goesAhead_67) (by decide)).trans ?_
      refine Eq.trans (b := vrun mX13_goesAhead 68 [(1, 282), (0, x1), (0, x2), (0, x3), (0, x4)] [(0, 0)] h) rfl ?_
      simp only [c1, true_or, false_or, or_true, or_false, true_and, false_and, and_true, and_false, not_true_eq_false, not_false_eq_true, ne_eq, if_true, if_false, ↓reduceIte]
    · refine (if_neg c1).trans ?_
      refine (rn_iconst (pc := 63) (dd bX13_goesAhead dX13_goesAhead_63) (by decide)).trans ?_
      refine (rn_goto (t := 68) (pc := 64) (dd bX13_goesAhead dX13_goesAhead_64) rfl).trans ?_
      refine Eq.trans (b := vrun mX13_goesAhead 68 [(1, 282), (0, x1), (0, x2), (0, x3), (0, x4)] [(0, 1)] h) rfl ?_
      simp only [c1, true_or, false_or, or_true, or_false, true_and, false_and, and_true, and_false, not_true_eq_false, not_false_eq_true, ne_eq, if_true, if_false, ↓reduceIte]
  refine e1.trans ?_
  exact rn_ireturn (pc := 68) (dd bX13_goesAhead dX13_goesAhead_68) (Or.inr ⟨rfl, b01⟩)
theorem bX13_shownBehind : vmB mX13_shownBehind = cX13_shownBehind := rfl
theorem rX13_shownBehind_0 {x1 : Int} {x2 : Int} {x3 : Int} {h : vH} (s1 : shModel h) : vrun mX13_shownBehind 0 [(1, 282), (0, x1), (0, x2), (0, x3), (9, 0), (9, 0)] [] h = vret vrun mX13_shownBehind 3 [(1, 282), (0, x1), (0, x2), (0, x3), (9, 0), (9, 0)] [] (vcl mX13_findsClusters [(1, 282), (0, x1), (0, x2)] h) := by
  refine (rn_aload_n (pc := 0) (dd bX13_shownBehind dX13_shownBehind_0) rfl).trans ?_
  refine (rn_iload_n (pc := 1) (dd bX13_shownBehind dX13_shownBehind_1) rfl).trans ?_
  refine (rn_iload_n (pc := 2) (dd bX13_shownBehind dX13_shownBehind_2) rfl).trans ?_
  exact rg_virtual (pc := 3) (dd bX13_shownBehind dX13_shownBehind_3) rfl rfl (by decide) (kc := 34) rfl s1.1 (as := [(1, 282), (0, x1), (0, x2)]) rfl ⟨Nat.le_of_ble_eq_true rfl, Nat.le_of_ble_eq_true rfl, Nat.le_of_ble_eq_true rfl, Nat.le_of_ble_eq_true rfl⟩
theorem rX13_shownBehind_6 {x1 : Int} {x2 : Int} {x3 : Int} {h : vH} (s1 : shModel h) (p2 : 0 ≤ x2) (p3 : x2 < 60) (p4 : (-2147483648) ≤ h 1540 282 0 - 1) (p5 : h 1540 282 0 - 1 < 2147483648) : vrun mX13_shownBehind 6 [(1, 282), (0, x1), (0, x2), (0, x3), (9, 0), (9, 0)] [] h = vrun mX13_shownBehind 36 [(1, 282), (0, x1), (0, x2), (0, x3), (0, (if h 2 284 x2 ≤ x3 then (-1) else h 2 284 x2)), (0, h 1540 282 0 - 1)] [] h := by
  refine (rn_aload_n (pc := 6) (dd bX13_shownBehind dX13_shownBehind_6) rfl).trans ?_
  refine (rg_gf (pc := 7) (dd bX13_shownBehind dX13_shownBehind_7) (ci := 14) (j := 2) rfl rfl (key := 1502) rfl (kc := 34) rfl s1.1 s1.2.2.2.2.1).trans ?_
  refine (rn_iload_n (pc := 10) (dd bX13_shownBehind dX13_shownBehind_10) rfl).trans ?_
  refine (rg_iaload (pc := 11) (dd bX13_shownBehind dX13_shownBehind_11) s1.2.2.2.2.2.1 s1.2.2.2.2.2.2.1 p2 p3 rfl).trans ?_
  refine (rn_iload_n (pc := 12) (dd bX13_shownBehind dX13_shownBehind_12) rfl).trans ?_
  have e1 : vrun mX13_shownBehind 13 [(1, 282), (0, x1), (0, x2), (0, x3), (9, 0), (9, 0)] [(0, x3), (0, h 2 284 x2)] h = vrun mX13_shownBehind 26 [(1, 282), (0, x1), (0, x2), (0, x3), (9, 0), (9, 0)] [(0, (if h 2 284 x2 ≤ x3 then (-1) else h 2 284 x2))] h := by
    refine (rn_icmp_le (t := 25) (pc := 13) (dd bX13_shownBehind dX13_shownBehind_13) rfl).trans ?_
    by_cases c1 : h 2 284 x2 ≤ x3
    · refine (if_pos c1).trans ?_
      refine (rn_iconst (pc := 25) (dd bX13_shownBehind dX13_shownBehind_25) (by decide)).trans ?_
      refine Eq.trans (b := vrun mX13_shownBehind 26 [(1, 282), (0, x1), (0, x2), (0, x3), (9, 0), (9, 0)] [(0, (-1))] h) rfl ?_
      simp only [if_pos c1]
    · refine (if_neg c1).trans ?_
      refine (rn_aload_n (pc := 16) (dd bX13_shownBehind dX13_shownBehind_16) rfl).trans ?_
      refine (rg_gf (pc := 17) (dd bX13_shownBehind dX13_shownBehind_17) (ci := 14) (j := 2) rfl rfl (key := 1502) rfl (kc := 34) rfl s1.1 s1.2.2.2.2.1).trans ?_
      refine (rn_iload_n (pc := 20) (dd bX13_shownBehind dX13_shownBehind_20) rfl).trans ?_
      refine (rg_iaload (pc := 21) (dd bX13_shownBehind dX13_shownBehind_21) s1.2.2.2.2.2.1 s1.2.2.2.2.2.2.1 (by omega) (by omega) rfl).trans ?_
      refine (rn_goto (t := 26) (pc := 22) (dd bX13_shownBehind dX13_shownBehind_22) rfl).trans ?_
      refine Eq.trans (b := vrun mX13_shownBehind 26 [(1, 282), (0, x1), (0, x2), (0, x3), (9, 0), (9, 0)] [(0, h 2 284 x2)] h) rfl ?_
      simp only [if_neg c1]
  refine e1.trans ?_
  refine (rn_istore (pc := 26) (dd bX13_shownBehind dX13_shownBehind_26) (Nat.le_of_ble_eq_true rfl) rfl).trans ?_
  refine (rn_aload_n (pc := 28) (dd bX13_shownBehind dX13_shownBehind_28) rfl).trans ?_
  refine (rg_gf (pc := 29) (dd bX13_shownBehind dX13_shownBehind_29) (ci := 14) (j := 40) rfl rfl (key := 1540) rfl (kc := 34) rfl s1.1 rfl).trans ?_
  refine (rn_iconst (pc := 32) (dd bX13_shownBehind dX13_shownBehind_32) (by decide)).trans ?_
  refine (rg_isub (pc := 33) (dd bX13_shownBehind dX13_shownBehind_33) p4 p5).trans ?_
  refine (rn_istore (pc := 34) (dd bX13_shownBehind dX13_shownBehind_34) (Nat.le_of_ble_eq_true rfl) rfl).trans ?_
  rfl
theorem rX13_shownBehind_36 {x1 : Int} {x2 : Int} {x3 : Int} {x4 : Int} {x5 : Int} {h : vH} (s1 : shModel h) (p2 : ¬ (x5 < 0) → x5 < 140) : vrun mX13_shownBehind 36 [(1, 282), (0, x1), (0, x2), (0, x3), (0, x4), (0, x5)] [] h = if x5 < 0 then some (.inl (some (0, x4)), h) else vrun mX13_shownBehind 36 [(1, 282), (0, x1), (0, x2), (0, x3), (0, (if h 2 313 x5 = (-1) then x4 else (if h 2 313 x5 ≤ x3 then x4 else h 2 313 x5))), (0, x5 + (-1))] [] h := by
  refine (rn_iload (pc := 36) (dd bX13_shownBehind dX13_shownBehind_36) rfl).trans ?_
  refine (rn_if_lt (t := 83) (pc := 38) (dd bX13_shownBehind dX13_shownBehind_38) rfl).trans (itec (fun c1 => ?_) (fun c1 => ?_))
  · refine (rn_iload (pc := 83) (dd bX13_shownBehind dX13_shownBehind_83) rfl).trans ?_
    exact rn_ireturn (pc := 85) (dd bX13_shownBehind dX13_shownBehind_85) (Or.inl rfl)
  · refine (rn_aload_n (pc := 41) (dd bX13_shownBehind dX13_shownBehind_41) rfl).trans ?_
    refine (rg_gf (pc := 42) (dd bX13_shownBehind dX13_shownBehind_42) (ci := 14) (j := 32) rfl rfl (key := 1532) rfl (kc := 34) rfl s1.1 s1.2.2.2.2.2.2.2.2.2.2.2.2.2.2.2.2.2.2.2.2.2.2.2.2.2.2.2.2.2.2.2.2.2.2.2.2.2.2.2.2.2.2.2.2.2.2.2.2.2.2.2.2.2.2.2.2.2.2.2.2.2.2.2.2.2.2.2.2.2.2.2.2.2.2.2.2.2.2.2.2.2.2.2.2.2.2.2.2.2.2.2.1).trans ?_
    refine (rn_iload (pc := 45) (dd bX13_shownBehind dX13_shownBehind_45) rfl).trans ?_
    refine (rg_iaload (pc := 47) (dd bX13_shownBehind dX13_shownBehind_47) s1.2.2.2.2.2.2.2.2.2.2.2.2.2.2.2.2.2.2.2.2.2.2.2.2.2.2.2.2.2.2.2.2.2.2.2.2.2.2.2.2.2.2.2.2.2.2.2.2.2.2.2.2.2.2.2.2.2.2.2.2.2.2.2.2.2.2.2.2.2.2.2.2.2.2.2.2.2.2.2.2.2.2.2.2.2.2.2.2.2.2.2.2.1 s1.2.2.2.2.2.2.2.2.2.2.2.2.2.2.2.2.2.2.2.2.2.2.2.2.2.2.2.2.2.2.2.2.2.2.2.2.2.2.2.2.2.2.2.2.2.2.2.2.2.2.2.2.2.2.2.2.2.2.2.2.2.2.2.2.2.2.2.2.2.2.2.2.2.2.2.2.2.2.2.2.2.2.2.2.2.2.2.2.2.2.2.2.2.1 (Int.not_lt.mp c1) (p2 c1) rfl).trans ?_
    refine (rn_iconst (pc := 48) (dd bX13_shownBehind dX13_shownBehind_48) (by decide)).trans ?_
    have e2 : vrun mX13_shownBehind 49 [(1, 282), (0, x1), (0, x2), (0, x3), (0, x4), (0, x5)] [(0, (-1)), (0, h 2 313 x5)] h = vrun mX13_shownBehind 75 [(1, 282), (0, x1), (0, x2), (0, x3), (0, x4), (0, x5)] [(0, (if h 2 313 x5 = (-1) then x4 else (if h 2 313 x5 ≤ x3 then x4 else h 2 313 x5)))] h := by
      refine (rn_icmp_eq (t := 73) (pc := 49) (dd bX13_shownBehind dX13_shownBehind_49) rfl).trans ?_
      by_cases c2 : h 2 313 x5 = (-1)
      · refine (if_pos c2).trans ?_
        refine (rn_iload (pc := 73) (dd bX13_shownBehind dX13_shownBehind_73) rfl).trans ?_
        refine Eq.trans (b := vrun mX13_shownBehind 75 [(1, 282), (0, x1), (0, x2), (0, x3), (0, x4), (0, x5)] [(0, x4)] h) rfl ?_
        simp only [if_pos c2]
      · refine (if_neg c2).trans ?_
        refine (rn_aload_n (pc := 52) (dd bX13_shownBehind dX13_shownBehind_52) rfl).trans ?_
        refine (rg_gf (pc := 53) (dd bX13_shownBehind dX13_shownBehind_53) (ci := 14) (j := 32) rfl rfl (key := 1532) rfl (kc := 34) rfl s1.1 s1.2.2.2.2.2.2.2.2.2.2.2.2.2.2.2.2.2.2.2.2.2.2.2.2.2.2.2.2.2.2.2.2.2.2.2.2.2.2.2.2.2.2.2.2.2.2.2.2.2.2.2.2.2.2.2.2.2.2.2.2.2.2.2.2.2.2.2.2.2.2.2.2.2.2.2.2.2.2.2.2.2.2.2.2.2.2.2.2.2.2.2.1).trans ?_
        refine (rn_iload (pc := 56) (dd bX13_shownBehind dX13_shownBehind_56) rfl).trans ?_
        refine (rg_iaload (pc := 58) (dd bX13_shownBehind dX13_shownBehind_58) s1.2.2.2.2.2.2.2.2.2.2.2.2.2.2.2.2.2.2.2.2.2.2.2.2.2.2.2.2.2.2.2.2.2.2.2.2.2.2.2.2.2.2.2.2.2.2.2.2.2.2.2.2.2.2.2.2.2.2.2.2.2.2.2.2.2.2.2.2.2.2.2.2.2.2.2.2.2.2.2.2.2.2.2.2.2.2.2.2.2.2.2.2.1 s1.2.2.2.2.2.2.2.2.2.2.2.2.2.2.2.2.2.2.2.2.2.2.2.2.2.2.2.2.2.2.2.2.2.2.2.2.2.2.2.2.2.2.2.2.2.2.2.2.2.2.2.2.2.2.2.2.2.2.2.2.2.2.2.2.2.2.2.2.2.2.2.2.2.2.2.2.2.2.2.2.2.2.2.2.2.2.2.2.2.2.2.2.2.1 (Int.not_lt.mp c1) (by have z0 := p2 c1; omega) rfl).trans ?_
        refine (rn_iload_n (pc := 59) (dd bX13_shownBehind dX13_shownBehind_59) rfl).trans ?_
        have e1 : vrun mX13_shownBehind 60 [(1, 282), (0, x1), (0, x2), (0, x3), (0, x4), (0, x5)] [(0, x3), (0, h 2 313 x5)] h = vrun mX13_shownBehind 75 [(1, 282), (0, x1), (0, x2), (0, x3), (0, x4), (0, x5)] [(0, (if h 2 313 x5 ≤ x3 then x4 else h 2 313 x5))] h := by
          refine (rn_icmp_le (t := 73) (pc := 60) (dd bX13_shownBehind dX13_shownBehind_60) rfl).trans ?_
          by_cases c3 : h 2 313 x5 ≤ x3
          · refine (if_pos c3).trans ?_
            refine (rn_iload (pc := 73) (dd bX13_shownBehind dX13_shownBehind_73) rfl).trans ?_
            refine Eq.trans (b := vrun mX13_shownBehind 75 [(1, 282), (0, x1), (0, x2), (0, x3), (0, x4), (0, x5)] [(0, x4)] h) rfl ?_
            simp only [if_pos c3]
          · refine (if_neg c3).trans ?_
            refine (rn_aload_n (pc := 63) (dd bX13_shownBehind dX13_shownBehind_63) rfl).trans ?_
            refine (rg_gf (pc := 64) (dd bX13_shownBehind dX13_shownBehind_64) (ci := 14) (j := 32) rfl rfl (key := 1532) rfl (kc := 34) rfl s1.1 s1.2.2.2.2.2.2.2.2.2.2.2.2.2.2.2.2.2.2.2.2.2.2.2.2.2.2.2.2.2.2.2.2.2.2.2.2.2.2.2.2.2.2.2.2.2.2.2.2.2.2.2.2.2.2.2.2.2.2.2.2.2.2.2.2.2.2.2.2.2.2.2.2.2.2.2.2.2.2.2.2.2.2.2.2.2.2.2.2.2.2.2.1).trans ?_
            refine (rn_iload (pc := 67) (dd bX13_shownBehind dX13_shownBehind_67) rfl).trans ?_
            refine (rg_iaload (pc := 69) (dd bX13_shownBehind dX13_shownBehind_69) s1.2.2.2.2.2.2.2.2.2.2.2.2.2.2.2.2.2.2.2.2.2.2.2.2.2.2.2.2.2.2.2.2.2.2.2.2.2.2.2.2.2.2.2.2.2.2.2.2.2.2.2.2.2.2.2.2.2.2.2.2.2.2.2.2.2.2.2.2.2.2.2.2.2.2.2.2.2.2.2.2.2.2.2.2.2.2.2.2.2.2.2.2.1 s1.2.2.2.2.2.2.2.2.2.2.2.2.2.2.2.2.2.2.2.2.2.2.2.2.2.2.2.2.2.2.2.2.2.2.2.2.2.2.2.2.2.2.2.2.2.2.2.2.2.2.2.2.2.2.2.2.2.2.2.2.2.2.2.2.2.2.2.2.2.2.2.2.2.2.2.2.2.2.2.2.2.2.2.2.2.2.2.2.2.2.2.2.2.1 (Int.not_lt.mp c1) (by have z0 := p2 c1; omega) rfl).trans ?_
            refine (rn_goto (t := 75) (pc := 70) (dd bX13_shownBehind dX13_shownBehind_70) rfl).trans ?_
            refine Eq.trans (b := vrun mX13_shownBehind 75 [(1, 282), (0, x1), (0, x2), (0, x3), (0, x4), (0, x5)] [(0, h 2 313 x5)] h) rfl ?_
            simp only [if_neg c3]
        refine e1.trans ?_
        refine Eq.trans (b := vrun mX13_shownBehind 75 [(1, 282), (0, x1), (0, x2), (0, x3), (0, x4), (0, x5)] [(0, (if h 2 313 x5 ≤ x3 then x4 else h 2 313 x5))] h) rfl ?_
        simp only [if_neg c2]
    refine e2.trans ?_
    refine (rn_istore (pc := 75) (dd bX13_shownBehind dX13_shownBehind_75) (Nat.le_of_ble_eq_true rfl) rfl).trans ?_
    refine (rg_iinc (pc := 77) (dd bX13_shownBehind dX13_shownBehind_77) rfl (Nat.le_of_ble_eq_true rfl) (by have z0 := p2 c1; omega) (by have z0 := p2 c1; omega) rfl).trans ?_
    refine (rn_goto (t := 36) (pc := 80) (dd bX13_shownBehind dX13_shownBehind_80) rfl).trans ?_
    rfl
theorem bX13_goesBehind : vmB mX13_goesBehind = cX13_goesBehind := rfl
theorem rX13_goesBehind_0 {x1 : Int} {h : vH} (s1 : shModel h) : vrun mX13_goesBehind 0 [(1, 282), (0, x1), (9, 0), (9, 0), (9, 0)] [] h = vret vrun mX13_goesBehind 2 [(1, 282), (0, x1), (9, 0), (9, 0), (9, 0)] [] (vcl mX13_lineNow [(1, 282), (0, x1)] h) := by
  refine (rn_aload_n (pc := 0) (dd bX13_goesBehind dX13_goesBehind_0) rfl).trans ?_
  refine (rn_iload_n (pc := 1) (dd bX13_goesBehind dX13_goesBehind_1) rfl).trans ?_
  exact rg_virtual (pc := 2) (dd bX13_goesBehind dX13_goesBehind_2) rfl rfl (by decide) (kc := 34) rfl s1.1 (as := [(1, 282), (0, x1)]) rfl ⟨Nat.le_of_ble_eq_true rfl, Nat.le_of_ble_eq_true rfl, Nat.le_of_ble_eq_true rfl, Nat.le_of_ble_eq_true rfl⟩
theorem rX13_goesBehind_5 {x1 : Int} {y0 : Int} {h : vH} (s1 : shModel h) : vrun mX13_goesBehind 5 [(1, 282), (0, x1), (9, 0), (9, 0), (9, 0)] [(0, y0)] h = vret vrun mX13_goesBehind 11 [(1, 282), (0, x1), (0, y0), (9, 0), (9, 0)] [(0, y0), (0, x1), (1, 282)] (vcl mX13_placeNow [(1, 282), (0, x1)] h) := by
  refine (rn_istore_n (pc := 5) (dd bX13_goesBehind dX13_goesBehind_5) (Nat.le_of_ble_eq_true rfl) rfl).trans ?_
  refine (rn_aload_n (pc := 6) (dd bX13_goesBehind dX13_goesBehind_6) rfl).trans ?_
  refine (rn_iload_n (pc := 7) (dd bX13_goesBehind dX13_goesBehind_7) rfl).trans ?_
  refine (rn_iload_n (pc := 8) (dd bX13_goesBehind dX13_goesBehind_8) rfl).trans ?_
  refine (rn_aload_n (pc := 9) (dd bX13_goesBehind dX13_goesBehind_9) rfl).trans ?_
  refine (rn_iload_n (pc := 10) (dd bX13_goesBehind dX13_goesBehind_10) rfl).trans ?_
  exact rg_virtual (pc := 11) (dd bX13_goesBehind dX13_goesBehind_11) rfl rfl (by decide) (kc := 34) rfl s1.1 (as := [(1, 282), (0, x1)]) rfl ⟨Nat.le_of_ble_eq_true rfl, Nat.le_of_ble_eq_true rfl, Nat.le_of_ble_eq_true rfl, Nat.le_of_ble_eq_true rfl⟩
theorem rX13_goesBehind_14 {x1 : Int} {x2 : Int} {y0 : Int} {y1 : Int} {y2 : Int} {h : vH} (s1 : shModel h) : vrun mX13_goesBehind 14 [(1, 282), (0, x1), (0, x2), (9, 0), (9, 0)] [(0, y0), (0, y1), (0, y2), (1, 282)] h = vret vrun mX13_goesBehind 14 [(1, 282), (0, x1), (0, x2), (9, 0), (9, 0)] [] (vcl mX13_shownBehind [(1, 282), (0, y2), (0, y1), (0, y0)] h) := by
  exact rg_virtual (pc := 14) (dd bX13_goesBehind dX13_goesBehind_14) rfl rfl (by decide) (kc := 34) rfl s1.1 (as := [(1, 282), (0, y2), (0, y1), (0, y0)]) rfl ⟨Nat.le_of_ble_eq_true rfl, Nat.le_of_ble_eq_true rfl, Nat.le_of_ble_eq_true rfl, Nat.le_of_ble_eq_true rfl⟩
theorem rX13_goesBehind_17 {x1 : Int} {x2 : Int} {y0 : Int} {h : vH} (s1 : shModel h) : vrun mX13_goesBehind 17 [(1, 282), (0, x1), (0, x2), (9, 0), (9, 0)] [(0, y0)] h = if y0 = (-1) then vret vrun mX13_goesBehind 35 [(1, 282), (0, x1), (0, x2), (0, y0), (9, 0)] [] (vcl mX13_beside [(1, 282), (0, x1), (0, x2), (0, 1)] h) else vret vrun mX13_goesBehind 27 [(1, 282), (0, x1), (0, x2), (0, y0), (9, 0)] [] (vcl mX13_changes [(1, 282), (0, x1), (0, x2), (0, y0)] h) := by
  refine (rn_istore_n (pc := 17) (dd bX13_goesBehind dX13_goesBehind_17) (Nat.le_of_ble_eq_true rfl) rfl).trans ?_
  refine (rn_iload_n (pc := 18) (dd bX13_goesBehind dX13_goesBehind_18) rfl).trans ?_
  refine (rn_iconst (pc := 19) (dd bX13_goesBehind dX13_goesBehind_19) (by decide)).trans ?_
  refine (rn_icmp_eq (t := 31) (pc := 20) (dd bX13_goesBehind dX13_goesBehind_20) rfl).trans (itec (fun c1 => ?_) (fun c1 => ?_))
  · refine (rn_aload_n (pc := 31) (dd bX13_goesBehind dX13_goesBehind_31) rfl).trans ?_
    refine (rn_iload_n (pc := 32) (dd bX13_goesBehind dX13_goesBehind_32) rfl).trans ?_
    refine (rn_iload_n (pc := 33) (dd bX13_goesBehind dX13_goesBehind_33) rfl).trans ?_
    refine (rn_iconst (pc := 34) (dd bX13_goesBehind dX13_goesBehind_34) (by decide)).trans ?_
    exact rg_virtual (pc := 35) (dd bX13_goesBehind dX13_goesBehind_35) rfl rfl (by decide) (kc := 34) rfl s1.1 (as := [(1, 282), (0, x1), (0, x2), (0, 1)]) rfl ⟨Nat.le_of_ble_eq_true rfl, Nat.le_of_ble_eq_true rfl, Nat.le_of_ble_eq_true rfl, Nat.le_of_ble_eq_true rfl⟩
  · refine (rn_aload_n (pc := 23) (dd bX13_goesBehind dX13_goesBehind_23) rfl).trans ?_
    refine (rn_iload_n (pc := 24) (dd bX13_goesBehind dX13_goesBehind_24) rfl).trans ?_
    refine (rn_iload_n (pc := 25) (dd bX13_goesBehind dX13_goesBehind_25) rfl).trans ?_
    refine (rn_iload_n (pc := 26) (dd bX13_goesBehind dX13_goesBehind_26) rfl).trans ?_
    exact rg_virtual (pc := 27) (dd bX13_goesBehind dX13_goesBehind_27) rfl rfl (by decide) (kc := 34) rfl s1.1 (as := [(1, 282), (0, x1), (0, x2), (0, y0)]) rfl ⟨Nat.le_of_ble_eq_true rfl, Nat.le_of_ble_eq_true rfl, Nat.le_of_ble_eq_true rfl, Nat.le_of_ble_eq_true rfl⟩
theorem rX13_goesBehind_38 {x1 : Int} {x2 : Int} {x3 : Int} {y0 : Int} {h : vH} (s1 : shModel h) : vrun mX13_goesBehind 38 [(1, 282), (0, x1), (0, x2), (0, x3), (9, 0)] [(0, y0)] h = if y0 = (-1) then some (.inl (some (0, 0)), h) else vret vrun mX13_goesBehind 55 [(1, 282), (0, x1), (0, x2), (0, x3), (0, y0)] [(0, y0), (0, x1), (1, 282)] (vcl mX13_shownBehind [(1, 282), (0, x1), (0, y0), (0, (-1))] h) := by
  refine (rn_istore (pc := 38) (dd bX13_goesBehind dX13_goesBehind_38) (Nat.le_of_ble_eq_true rfl) rfl).trans ?_
  refine (rn_iload (pc := 40) (dd bX13_goesBehind dX13_goesBehind_40) rfl).trans ?_
  refine (rn_iconst (pc := 42) (dd bX13_goesBehind dX13_goesBehind_42) (by decide)).trans ?_
  refine (rn_icmp_eq (t := 68) (pc := 43) (dd bX13_goesBehind dX13_goesBehind_43) rfl).trans (itec (fun c1 => ?_) (fun c1 => ?_))
  · refine (rn_iconst (pc := 68) (dd bX13_goesBehind dX13_goesBehind_68) (by decide)).trans ?_
    exact rn_ireturn (pc := 69) (dd bX13_goesBehind dX13_goesBehind_69) (Or.inr ⟨rfl, (by decide)⟩)
  · refine (rn_aload_n (pc := 46) (dd bX13_goesBehind dX13_goesBehind_46) rfl).trans ?_
    refine (rn_iload_n (pc := 47) (dd bX13_goesBehind dX13_goesBehind_47) rfl).trans ?_
    refine (rn_iload (pc := 48) (dd bX13_goesBehind dX13_goesBehind_48) rfl).trans ?_
    refine (rn_aload_n (pc := 50) (dd bX13_goesBehind dX13_goesBehind_50) rfl).trans ?_
    refine (rn_iload_n (pc := 51) (dd bX13_goesBehind dX13_goesBehind_51) rfl).trans ?_
    refine (rn_iload (pc := 52) (dd bX13_goesBehind dX13_goesBehind_52) rfl).trans ?_
    refine (rn_iconst (pc := 54) (dd bX13_goesBehind dX13_goesBehind_54) (by decide)).trans ?_
    exact rg_virtual (pc := 55) (dd bX13_goesBehind dX13_goesBehind_55) rfl rfl (by decide) (kc := 34) rfl s1.1 (as := [(1, 282), (0, x1), (0, y0), (0, (-1))]) rfl ⟨Nat.le_of_ble_eq_true rfl, Nat.le_of_ble_eq_true rfl, Nat.le_of_ble_eq_true rfl, Nat.le_of_ble_eq_true rfl⟩
theorem rX13_goesBehind_30 {x1 : Int} {x2 : Int} {x3 : Int} {y0 : Int} {h : vH} (p1 : y0 = 0 ∨ y0 = 1) : vrun mX13_goesBehind 30 [(1, 282), (0, x1), (0, x2), (0, x3), (9, 0)] [(0, y0)] h = some (.inl (some (0, y0)), h) := by
  exact rn_ireturn (pc := 30) (dd bX13_goesBehind dX13_goesBehind_30) (Or.inr ⟨rfl, p1⟩)
theorem rX13_goesBehind_58 {x1 : Int} {x2 : Int} {x3 : Int} {x4 : Int} {y0 : Int} {y1 : Int} {y2 : Int} {h : vH} (s1 : shModel h) : vrun mX13_goesBehind 58 [(1, 282), (0, x1), (0, x2), (0, x3), (0, x4)] [(0, y0), (0, y1), (0, y2), (1, 282)] h = vret vrun mX13_goesBehind 58 [(1, 282), (0, x1), (0, x2), (0, x3), (0, x4)] [] (vcl mX13_changes [(1, 282), (0, y2), (0, y1), (0, y0)] h) := by
  exact rg_virtual (pc := 58) (dd bX13_goesBehind dX13_goesBehind_58) rfl rfl (by decide) (kc := 34) rfl s1.1 (as := [(1, 282), (0, y2), (0, y1), (0, y0)]) rfl ⟨Nat.le_of_ble_eq_true rfl, Nat.le_of_ble_eq_true rfl, Nat.le_of_ble_eq_true rfl, Nat.le_of_ble_eq_true rfl⟩
theorem rX13_goesBehind_61 {x1 : Int} {x2 : Int} {x3 : Int} {x4 : Int} {y0 : Int} {h : vH} : vrun mX13_goesBehind 61 [(1, 282), (0, x1), (0, x2), (0, x3), (0, x4)] [(0, y0)] h = some (.inl (some (0, (if ¬ (y0 = 0) then 1 else 0))), h) := by
  have e1 : vrun mX13_goesBehind 61 [(1, 282), (0, x1), (0, x2), (0, x3), (0, x4)] [(0, y0)] h = vrun mX13_goesBehind 69 [(1, 282), (0, x1), (0, x2), (0, x3), (0, x4)] [(0, (if ¬ (y0 = 0) then 1 else 0))] h := by
    refine (rn_if_eq (t := 68) (pc := 61) (dd bX13_goesBehind dX13_goesBehind_61) rfl).trans ?_
    by_cases c1 : y0 = 0
    · refine (if_pos c1).trans ?_
      refine (rn_iconst (pc := 68) (dd bX13_goesBehind dX13_goesBehind_68) (by decide)).trans ?_
      refine Eq.trans (b := vrun mX13_goesBehind 69 [(1, 282), (0, x1), (0, x2), (0, x3), (0, x4)] [(0, 0)] h) rfl ?_
      simp only [c1, true_or, false_or, or_true, or_false, true_and, false_and, and_true, and_false, not_true_eq_false, not_false_eq_true, ne_eq, if_true, if_false, ↓reduceIte]
    · refine (if_neg c1).trans ?_
      refine (rn_iconst (pc := 64) (dd bX13_goesBehind dX13_goesBehind_64) (by decide)).trans ?_
      refine (rn_goto (t := 69) (pc := 65) (dd bX13_goesBehind dX13_goesBehind_65) rfl).trans ?_
      refine Eq.trans (b := vrun mX13_goesBehind 69 [(1, 282), (0, x1), (0, x2), (0, x3), (0, x4)] [(0, 1)] h) rfl ?_
      simp only [c1, true_or, false_or, or_true, or_false, true_and, false_and, and_true, and_false, not_true_eq_false, not_false_eq_true, ne_eq, if_true, if_false, ↓reduceIte]
  refine e1.trans ?_
  exact rn_ireturn (pc := 69) (dd bX13_goesBehind dX13_goesBehind_69) (Or.inr ⟨rfl, b01⟩)
theorem bX13_goesRows : vmB mX13_goesRows = cX13_goesRows := rfl
theorem rX13_goesRows_0 {x1 : Int} {x2 : Int} {h : vH} (s1 : shModel h) : vrun mX13_goesRows 0 [(1, 282), (0, x1), (0, x2), (9, 0), (9, 0)] [] h = vret vrun mX13_goesRows 2 [(1, 282), (0, x1), (0, x2), (9, 0), (9, 0)] [] (vcl mX13_rowNow [(1, 282), (0, x1)] h) := by
  refine (rn_aload_n (pc := 0) (dd bX13_goesRows dX13_goesRows_0) rfl).trans ?_
  refine (rn_iload_n (pc := 1) (dd bX13_goesRows dX13_goesRows_1) rfl).trans ?_
  exact rg_virtual (pc := 2) (dd bX13_goesRows dX13_goesRows_2) rfl rfl (by decide) (kc := 34) rfl s1.1 (as := [(1, 282), (0, x1)]) rfl ⟨Nat.le_of_ble_eq_true rfl, Nat.le_of_ble_eq_true rfl, Nat.le_of_ble_eq_true rfl, Nat.le_of_ble_eq_true rfl⟩
theorem rX13_goesRows_5 {x1 : Int} {x2 : Int} {y0 : Int} {h : vH} (p1 : (-2147483648) ≤ y0 + x2) (p2 : y0 + x2 < 2147483648) (s3 : shModel h) : vrun mX13_goesRows 5 [(1, 282), (0, x1), (0, x2), (9, 0), (9, 0)] [(0, y0)] h = vret vrun mX13_goesRows 19 [(1, 282), (0, x1), (0, x2), (0, y0), (9, 0)] [(0, (if y0 + x2 ≤ 0 then 0 else y0 + x2))] (vcl mX13_rowsAhead [(1, 282), (0, x1), (0, h 1504 282 0)] h) := by
  refine (rn_istore_n (pc := 5) (dd bX13_goesRows dX13_goesRows_5) (Nat.le_of_ble_eq_true rfl) rfl).trans ?_
  refine (rn_iload_n (pc := 6) (dd bX13_goesRows dX13_goesRows_6) rfl).trans ?_
  refine (rn_iload_n (pc := 7) (dd bX13_goesRows dX13_goesRows_7) rfl).trans ?_
  refine (rg_iadd (pc := 8) (dd bX13_goesRows dX13_goesRows_8) p1 p2).trans ?_
  refine (rn_iconst (pc := 9) (dd bX13_goesRows dX13_goesRows_9) (by decide)).trans ?_
  refine (rg_static (pc := 10) (dd bX13_goesRows dX13_goesRows_10) rfl (by decide) (Nat.le_of_ble_eq_true rfl) (as := [(0, y0 + x2), (0, 0)]) rfl rfl ⟨Nat.le_of_ble_eq_true rfl, Nat.le_of_ble_eq_true rfl, Nat.le_of_ble_eq_true rfl, Nat.le_of_ble_eq_true rfl⟩).trans ?_
  refine (vret_v spX13_greater).trans ?_
  refine (rn_aload_n (pc := 13) (dd bX13_goesRows dX13_goesRows_13) rfl).trans ?_
  refine (rn_iload_n (pc := 14) (dd bX13_goesRows dX13_goesRows_14) rfl).trans ?_
  refine (rn_aload_n (pc := 15) (dd bX13_goesRows dX13_goesRows_15) rfl).trans ?_
  refine (rg_gf (pc := 16) (dd bX13_goesRows dX13_goesRows_16) (ci := 14) (j := 4) rfl rfl (key := 1504) rfl (kc := 34) rfl s3.1 rfl).trans ?_
  exact rg_virtual (pc := 19) (dd bX13_goesRows dX13_goesRows_19) rfl rfl (by decide) (kc := 34) rfl s3.1 (as := [(1, 282), (0, x1), (0, h 1504 282 0)]) rfl ⟨Nat.le_of_ble_eq_true rfl, Nat.le_of_ble_eq_true rfl, Nat.le_of_ble_eq_true rfl, Nat.le_of_ble_eq_true rfl⟩
theorem rX13_goesRows_22 {x1 : Int} {x2 : Int} {x3 : Int} {y0 : Int} {y1 : Int} {h : vH} (p1 : (-2147483648) ≤ y0 - 1) (p2 : y0 - 1 < 2147483648) (s3 : shModel h) : vrun mX13_goesRows 22 [(1, 282), (0, x1), (0, x2), (0, x3), (9, 0)] [(0, y0), (0, y1)] h = if (if y0 - 1 ≤ y1 then y0 - 1 else y1) = x3 then some (.inl (some (0, 0)), h) else vret vrun mX13_goesRows 41 [(1, 282), (0, x1), (0, x2), (0, x3), (0, (if y0 - 1 ≤ y1 then y0 - 1 else y1))] [(0, x1), (1, 282)] (vcl mX13_lineOf [(1, 282), (0, x1), (0, (if y0 - 1 ≤ y1 then y0 - 1 else y1))] h) := by
  refine (rn_iconst (pc := 22) (dd bX13_goesRows dX13_goesRows_22) (by decide)).trans ?_
  refine (rg_isub (pc := 23) (dd bX13_goesRows dX13_goesRows_23) p1 p2).trans ?_
  refine (rg_static (pc := 24) (dd bX13_goesRows dX13_goesRows_24) rfl (by decide) (Nat.le_of_ble_eq_true rfl) (as := [(0, y1), (0, y0 - 1)]) rfl rfl ⟨Nat.le_of_ble_eq_true rfl, Nat.le_of_ble_eq_true rfl, Nat.le_of_ble_eq_true rfl, Nat.le_of_ble_eq_true rfl⟩).trans ?_
  refine (vret_v spX13_lesser).trans ?_
  refine (rn_istore (pc := 27) (dd bX13_goesRows dX13_goesRows_27) (Nat.le_of_ble_eq_true rfl) rfl).trans ?_
  refine (rn_iload (pc := 29) (dd bX13_goesRows dX13_goesRows_29) rfl).trans ?_
  refine (rn_iload_n (pc := 31) (dd bX13_goesRows dX13_goesRows_31) rfl).trans ?_
  refine (rn_icmp_eq (t := 67) (pc := 32) (dd bX13_goesRows dX13_goesRows_32) rfl).trans (itec (fun c1 => ?_) (fun c1 => ?_))
  · refine (rn_iconst (pc := 67) (dd bX13_goesRows dX13_goesRows_67) (by decide)).trans ?_
    exact rn_ireturn (pc := 68) (dd bX13_goesRows dX13_goesRows_68) (Or.inr ⟨rfl, (by decide)⟩)
  · refine (rn_aload_n (pc := 35) (dd bX13_goesRows dX13_goesRows_35) rfl).trans ?_
    refine (rn_iload_n (pc := 36) (dd bX13_goesRows dX13_goesRows_36) rfl).trans ?_
    refine (rn_aload_n (pc := 37) (dd bX13_goesRows dX13_goesRows_37) rfl).trans ?_
    refine (rn_iload_n (pc := 38) (dd bX13_goesRows dX13_goesRows_38) rfl).trans ?_
    refine (rn_iload (pc := 39) (dd bX13_goesRows dX13_goesRows_39) rfl).trans ?_
    exact rg_virtual (pc := 41) (dd bX13_goesRows dX13_goesRows_41) rfl rfl (by decide) (kc := 34) rfl s3.1 (as := [(1, 282), (0, x1), (0, (if y0 - 1 ≤ y1 then y0 - 1 else y1))]) rfl ⟨Nat.le_of_ble_eq_true rfl, Nat.le_of_ble_eq_true rfl, Nat.le_of_ble_eq_true rfl, Nat.le_of_ble_eq_true rfl⟩
theorem rX13_goesRows_44 {x1 : Int} {x2 : Int} {x3 : Int} {x4 : Int} {y0 : Int} {y1 : Int} {h : vH} (s1 : shModel h) (p2 : 0 ≤ x1) (p3 : x1 < 4) : vrun mX13_goesRows 44 [(1, 282), (0, x1), (0, x2), (0, x3), (0, x4)] [(0, y0), (0, y1), (1, 282)] h = vret vrun mX13_goesRows 54 [(1, 282), (0, x1), (0, x2), (0, x3), (0, x4)] [(0, y0), (0, y1), (1, 282)] (vcl mX13_goesUp [(1, 282), (0, x1), (0, x4), (0, h 2 307 x1)] h) := by
  refine (rn_aload_n (pc := 44) (dd bX13_goesRows dX13_goesRows_44) rfl).trans ?_
  refine (rn_iload_n (pc := 45) (dd bX13_goesRows dX13_goesRows_45) rfl).trans ?_
  refine (rn_iload (pc := 46) (dd bX13_goesRows dX13_goesRows_46) rfl).trans ?_
  refine (rn_aload_n (pc := 48) (dd bX13_goesRows dX13_goesRows_48) rfl).trans ?_
  refine (rg_gf (pc := 49) (dd bX13_goesRows dX13_goesRows_49) (ci := 14) (j := 26) rfl rfl (key := 1526) rfl (kc := 34) rfl s1.1 s1.2.2.2.2.2.2.2.2.2.2.2.2.2.2.2.2.2.2.2.2.2.2.2.2.2.2.2.2.2.2.2.2.2.2.2.2.2.2.2.2.2.2.2.2.2.2.2.2.2.2.2.2.2.2.2.2.2.2.2.2.2.2.2.2.2.2.2.2.2.2.2.2.2.1).trans ?_
  refine (rn_iload_n (pc := 52) (dd bX13_goesRows dX13_goesRows_52) rfl).trans ?_
  refine (rg_iaload (pc := 53) (dd bX13_goesRows dX13_goesRows_53) s1.2.2.2.2.2.2.2.2.2.2.2.2.2.2.2.2.2.2.2.2.2.2.2.2.2.2.2.2.2.2.2.2.2.2.2.2.2.2.2.2.2.2.2.2.2.2.2.2.2.2.2.2.2.2.2.2.2.2.2.2.2.2.2.2.2.2.2.2.2.2.2.2.2.2.1 s1.2.2.2.2.2.2.2.2.2.2.2.2.2.2.2.2.2.2.2.2.2.2.2.2.2.2.2.2.2.2.2.2.2.2.2.2.2.2.2.2.2.2.2.2.2.2.2.2.2.2.2.2.2.2.2.2.2.2.2.2.2.2.2.2.2.2.2.2.2.2.2.2.2.2.2.1 p2 p3 rfl).trans ?_
  exact rg_virtual (pc := 54) (dd bX13_goesRows dX13_goesRows_54) rfl rfl (by decide) (kc := 34) rfl s1.1 (as := [(1, 282), (0, x1), (0, x4), (0, h 2 307 x1)]) rfl ⟨Nat.le_of_ble_eq_true rfl, Nat.le_of_ble_eq_true rfl, Nat.le_of_ble_eq_true rfl, Nat.le_of_ble_eq_true rfl⟩
theorem rX13_goesRows_57 {x1 : Int} {x2 : Int} {x3 : Int} {x4 : Int} {y0 : Int} {y1 : Int} {y2 : Int} {h : vH} (s1 : shModel h) : vrun mX13_goesRows 57 [(1, 282), (0, x1), (0, x2), (0, x3), (0, x4)] [(0, y0), (0, y1), (0, y2), (1, 282)] h = vret vrun mX13_goesRows 57 [(1, 282), (0, x1), (0, x2), (0, x3), (0, x4)] [] (vcl mX13_changes [(1, 282), (0, y2), (0, y1), (0, y0)] h) := by
  exact rg_virtual (pc := 57) (dd bX13_goesRows dX13_goesRows_57) rfl rfl (by decide) (kc := 34) rfl s1.1 (as := [(1, 282), (0, y2), (0, y1), (0, y0)]) rfl ⟨Nat.le_of_ble_eq_true rfl, Nat.le_of_ble_eq_true rfl, Nat.le_of_ble_eq_true rfl, Nat.le_of_ble_eq_true rfl⟩
theorem rX13_goesRows_60 {x1 : Int} {x2 : Int} {x3 : Int} {x4 : Int} {y0 : Int} {h : vH} : vrun mX13_goesRows 60 [(1, 282), (0, x1), (0, x2), (0, x3), (0, x4)] [(0, y0)] h = some (.inl (some (0, (if ¬ (y0 = 0) then 1 else 0))), h) := by
  have e1 : vrun mX13_goesRows 60 [(1, 282), (0, x1), (0, x2), (0, x3), (0, x4)] [(0, y0)] h = vrun mX13_goesRows 68 [(1, 282), (0, x1), (0, x2), (0, x3), (0, x4)] [(0, (if ¬ (y0 = 0) then 1 else 0))] h := by
    refine (rn_if_eq (t := 67) (pc := 60) (dd bX13_goesRows dX13_goesRows_60) rfl).trans ?_
    by_cases c1 : y0 = 0
    · refine (if_pos c1).trans ?_
      refine (rn_iconst (pc := 67) (dd bX13_goesRows dX13_goesRows_67) (by decide)).trans ?_
      refine Eq.trans (b := vrun mX13_goesRows 68 [(1, 282), (0, x1), (0, x2), (0, x3), (0, x4)] [(0, 0)] h) rfl ?_
      simp only [c1, true_or, false_or, or_true, or_false, true_and, false_and, and_true, and_false, not_true_eq_false, not_false_eq_true, ne_eq, if_true, if_false, ↓reduceIte]
    · refine (if_neg c1).trans ?_
      refine (rn_iconst (pc := 63) (dd bX13_goesRows dX13_goesRows_63) (by decide)).trans ?_
      refine (rn_goto (t := 68) (pc := 64) (dd bX13_goesRows dX13_goesRows_64) rfl).trans ?_
      refine Eq.trans (b := vrun mX13_goesRows 68 [(1, 282), (0, x1), (0, x2), (0, x3), (0, x4)] [(0, 1)] h) rfl ?_
      simp only [c1, true_or, false_or, or_true, or_false, true_and, false_and, and_true, and_false, not_true_eq_false, not_false_eq_true, ne_eq, if_true, if_false, ↓reduceIte]
  refine e1.trans ?_
  exact rn_ireturn (pc := 68) (dd bX13_goesRows dX13_goesRows_68) (Or.inr ⟨rfl, b01⟩)
theorem bX13_goesHome : vmB mX13_goesHome = cX13_goesHome := rfl
theorem rX13_goesHome_0 {x1 : Int} {h : vH} (s1 : shModel h) : vrun mX13_goesHome 0 [(1, 282), (0, x1), (9, 0)] [] h = vret vrun mX13_goesHome 2 [(1, 282), (0, x1), (9, 0)] [] (vcl mX13_rowNow [(1, 282), (0, x1)] h) := by
  refine (rn_aload_n (pc := 0) (dd bX13_goesHome dX13_goesHome_0) rfl).trans ?_
  refine (rn_iload_n (pc := 1) (dd bX13_goesHome dX13_goesHome_1) rfl).trans ?_
  exact rg_virtual (pc := 2) (dd bX13_goesHome dX13_goesHome_2) rfl rfl (by decide) (kc := 34) rfl s1.1 (as := [(1, 282), (0, x1)]) rfl ⟨Nat.le_of_ble_eq_true rfl, Nat.le_of_ble_eq_true rfl, Nat.le_of_ble_eq_true rfl, Nat.le_of_ble_eq_true rfl⟩
theorem rX13_goesHome_5 {x1 : Int} {y0 : Int} {h : vH} (s1 : shModel h) : vrun mX13_goesHome 5 [(1, 282), (0, x1), (9, 0)] [(0, y0)] h = vret vrun mX13_goesHome 11 [(1, 282), (0, x1), (0, y0)] [(0, x1), (1, 282)] (vcl mX13_lineOf [(1, 282), (0, x1), (0, y0)] h) := by
  refine (rn_istore_n (pc := 5) (dd bX13_goesHome dX13_goesHome_5) (Nat.le_of_ble_eq_true rfl) rfl).trans ?_
  refine (rn_aload_n (pc := 6) (dd bX13_goesHome dX13_goesHome_6) rfl).trans ?_
  refine (rn_iload_n (pc := 7) (dd bX13_goesHome dX13_goesHome_7) rfl).trans ?_
  refine (rn_aload_n (pc := 8) (dd bX13_goesHome dX13_goesHome_8) rfl).trans ?_
  refine (rn_iload_n (pc := 9) (dd bX13_goesHome dX13_goesHome_9) rfl).trans ?_
  refine (rn_iload_n (pc := 10) (dd bX13_goesHome dX13_goesHome_10) rfl).trans ?_
  exact rg_virtual (pc := 11) (dd bX13_goesHome dX13_goesHome_11) rfl rfl (by decide) (kc := 34) rfl s1.1 (as := [(1, 282), (0, x1), (0, y0)]) rfl ⟨Nat.le_of_ble_eq_true rfl, Nat.le_of_ble_eq_true rfl, Nat.le_of_ble_eq_true rfl, Nat.le_of_ble_eq_true rfl⟩
theorem rX13_goesHome_14 {x1 : Int} {x2 : Int} {y0 : Int} {y1 : Int} {h : vH} (s1 : shModel h) : vrun mX13_goesHome 14 [(1, 282), (0, x1), (0, x2)] [(0, y0), (0, y1), (1, 282)] h = vret vrun mX13_goesHome 17 [(1, 282), (0, x1), (0, x2)] [(0, y0), (0, y1), (1, 282)] (vcl mX13_placeOf [(1, 282), (0, x1), (0, x2)] h) := by
  refine (rn_aload_n (pc := 14) (dd bX13_goesHome dX13_goesHome_14) rfl).trans ?_
  refine (rn_iload_n (pc := 15) (dd bX13_goesHome dX13_goesHome_15) rfl).trans ?_
  refine (rn_iload_n (pc := 16) (dd bX13_goesHome dX13_goesHome_16) rfl).trans ?_
  exact rg_virtual (pc := 17) (dd bX13_goesHome dX13_goesHome_17) rfl rfl (by decide) (kc := 34) rfl s1.1 (as := [(1, 282), (0, x1), (0, x2)]) rfl ⟨Nat.le_of_ble_eq_true rfl, Nat.le_of_ble_eq_true rfl, Nat.le_of_ble_eq_true rfl, Nat.le_of_ble_eq_true rfl⟩
theorem rX13_goesHome_20 {x1 : Int} {x2 : Int} {y0 : Int} {y1 : Int} {y2 : Int} {h : vH} (s1 : shModel h) : vrun mX13_goesHome 20 [(1, 282), (0, x1), (0, x2)] [(0, y0), (0, y1), (0, y2), (1, 282)] h = vret vrun mX13_goesHome 20 [(1, 282), (0, x1), (0, x2)] [] (vcl mX13_changes [(1, 282), (0, y2), (0, y1), (0, y0)] h) := by
  exact rg_virtual (pc := 20) (dd bX13_goesHome dX13_goesHome_20) rfl rfl (by decide) (kc := 34) rfl s1.1 (as := [(1, 282), (0, y2), (0, y1), (0, y0)]) rfl ⟨Nat.le_of_ble_eq_true rfl, Nat.le_of_ble_eq_true rfl, Nat.le_of_ble_eq_true rfl, Nat.le_of_ble_eq_true rfl⟩
theorem rX13_goesHome_23 {x1 : Int} {x2 : Int} {y0 : Int} {h : vH} (p1 : y0 = 0 ∨ y0 = 1) : vrun mX13_goesHome 23 [(1, 282), (0, x1), (0, x2)] [(0, y0)] h = some (.inl (some (0, y0)), h) := by
  exact rn_ireturn (pc := 23) (dd bX13_goesHome dX13_goesHome_23) (Or.inr ⟨rfl, p1⟩)
theorem bX13_goesEnd : vmB mX13_goesEnd = cX13_goesEnd := rfl
theorem rX13_goesEnd_0 {x1 : Int} {h : vH} (s1 : shModel h) : vrun mX13_goesEnd 0 [(1, 282), (0, x1), (9, 0), (9, 0), (9, 0), (9, 0), (9, 0)] [] h = vret vrun mX13_goesEnd 2 [(1, 282), (0, x1), (9, 0), (9, 0), (9, 0), (9, 0), (9, 0)] [] (vcl mX13_rowNow [(1, 282), (0, x1)] h) := by
  refine (rn_aload_n (pc := 0) (dd bX13_goesEnd dX13_goesEnd_0) rfl).trans ?_
  refine (rn_iload_n (pc := 1) (dd bX13_goesEnd dX13_goesEnd_1) rfl).trans ?_
  exact rg_virtual (pc := 2) (dd bX13_goesEnd dX13_goesEnd_2) rfl rfl (by decide) (kc := 34) rfl s1.1 (as := [(1, 282), (0, x1)]) rfl ⟨Nat.le_of_ble_eq_true rfl, Nat.le_of_ble_eq_true rfl, Nat.le_of_ble_eq_true rfl, Nat.le_of_ble_eq_true rfl⟩
theorem rX13_goesEnd_5 {x1 : Int} {y0 : Int} {h : vH} (s1 : shModel h) : vrun mX13_goesEnd 5 [(1, 282), (0, x1), (9, 0), (9, 0), (9, 0), (9, 0), (9, 0)] [(0, y0)] h = vret vrun mX13_goesEnd 9 [(1, 282), (0, x1), (0, y0), (9, 0), (9, 0), (9, 0), (9, 0)] [] (vcl mX13_lineOf [(1, 282), (0, x1), (0, y0)] h) := by
  refine (rn_istore_n (pc := 5) (dd bX13_goesEnd dX13_goesEnd_5) (Nat.le_of_ble_eq_true rfl) rfl).trans ?_
  refine (rn_aload_n (pc := 6) (dd bX13_goesEnd dX13_goesEnd_6) rfl).trans ?_
  refine (rn_iload_n (pc := 7) (dd bX13_goesEnd dX13_goesEnd_7) rfl).trans ?_
  refine (rn_iload_n (pc := 8) (dd bX13_goesEnd dX13_goesEnd_8) rfl).trans ?_
  exact rg_virtual (pc := 9) (dd bX13_goesEnd dX13_goesEnd_9) rfl rfl (by decide) (kc := 34) rfl s1.1 (as := [(1, 282), (0, x1), (0, y0)]) rfl ⟨Nat.le_of_ble_eq_true rfl, Nat.le_of_ble_eq_true rfl, Nat.le_of_ble_eq_true rfl, Nat.le_of_ble_eq_true rfl⟩
theorem rX13_goesEnd_12 {x1 : Int} {x2 : Int} {y0 : Int} {h : vH} (s1 : shModel h) : vrun mX13_goesEnd 12 [(1, 282), (0, x1), (0, x2), (9, 0), (9, 0), (9, 0), (9, 0)] [(0, y0)] h = vret vrun mX13_goesEnd 16 [(1, 282), (0, x1), (0, x2), (0, y0), (9, 0), (9, 0), (9, 0)] [] (vcl mX13_laysRow [(1, 282), (0, x1), (0, x2)] h) := by
  refine (rn_istore_n (pc := 12) (dd bX13_goesEnd dX13_goesEnd_12) (Nat.le_of_ble_eq_true rfl) rfl).trans ?_
  refine (rn_aload_n (pc := 13) (dd bX13_goesEnd dX13_goesEnd_13) rfl).trans ?_
  refine (rn_iload_n (pc := 14) (dd bX13_goesEnd dX13_goesEnd_14) rfl).trans ?_
  refine (rn_iload_n (pc := 15) (dd bX13_goesEnd dX13_goesEnd_15) rfl).trans ?_
  exact rg_virtual (pc := 16) (dd bX13_goesEnd dX13_goesEnd_16) rfl rfl (by decide) (kc := 34) rfl s1.1 (as := [(1, 282), (0, x1), (0, x2)]) rfl ⟨Nat.le_of_ble_eq_true rfl, Nat.le_of_ble_eq_true rfl, Nat.le_of_ble_eq_true rfl, Nat.le_of_ble_eq_true rfl⟩
theorem rX13_goesEnd_19 {x1 : Int} {x2 : Int} {x3 : Int} {y0 : Int} {h : vH} (s1 : shModel h) (p2 : (-2147483648) ≤ h 1541 282 0 - 1) (p3 : h 1541 282 0 - 1 < 2147483648) (p4 : y0 = h 1541 282 0 - 1 → 0 ≤ x3) (p5 : y0 = h 1541 282 0 - 1 → x3 < 60) (p6 : 0 ≤ y0) (p7 : y0 < 142) : vrun mX13_goesEnd 19 [(1, 282), (0, x1), (0, x2), (0, x3), (9, 0), (9, 0), (9, 0)] [(0, y0)] h = vrun mX13_goesEnd 53 [(1, 282), (0, x1), (0, x2), (0, x3), (0, y0), (0, (if y0 = h 1541 282 0 - 1 then h 2 284 x3 else (-1))), (0, h 2 320 y0)] [] h := by
  refine (rn_istore (pc := 19) (dd bX13_goesEnd dX13_goesEnd_19) (Nat.le_of_ble_eq_true rfl) rfl).trans ?_
  refine (rn_iload (pc := 21) (dd bX13_goesEnd dX13_goesEnd_21) rfl).trans ?_
  refine (rn_aload_n (pc := 23) (dd bX13_goesEnd dX13_goesEnd_23) rfl).trans ?_
  refine (rg_gf (pc := 24) (dd bX13_goesEnd dX13_goesEnd_24) (ci := 14) (j := 41) rfl rfl (key := 1541) rfl (kc := 34) rfl s1.1 rfl).trans ?_
  refine (rn_iconst (pc := 27) (dd bX13_goesEnd dX13_goesEnd_27) (by decide)).trans ?_
  refine (rg_isub (pc := 28) (dd bX13_goesEnd dX13_goesEnd_28) p2 p3).trans ?_
  have e1 : vrun mX13_goesEnd 29 [(1, 282), (0, x1), (0, x2), (0, x3), (0, y0), (9, 0), (9, 0)] [(0, h 1541 282 0 - 1), (0, y0)] h = vrun mX13_goesEnd 42 [(1, 282), (0, x1), (0, x2), (0, x3), (0, y0), (9, 0), (9, 0)] [(0, (if y0 = h 1541 282 0 - 1 then h 2 284 x3 else (-1)))] h := by
    refine (rg_icmp_ne (t := 41) (pc := 29) (dd bX13_goesEnd dX13_goesEnd_29) rfl).trans ?_
    by_cases c1 : y0 = h 1541 282 0 - 1
    · refine (if_pos c1).trans ?_
      refine (rn_aload_n (pc := 32) (dd bX13_goesEnd dX13_goesEnd_32) rfl).trans ?_
      refine (rg_gf (pc := 33) (dd bX13_goesEnd dX13_goesEnd_33) (ci := 14) (j := 2) rfl rfl (key := 1502) rfl (kc := 34) rfl s1.1 s1.2.2.2.2.1).trans ?_
      refine (rn_iload_n (pc := 36) (dd bX13_goesEnd dX13_goesEnd_36) rfl).trans ?_
      refine (rg_iaload (pc := 37) (dd bX13_goesEnd dX13_goesEnd_37) s1.2.2.2.2.2.1 s1.2.2.2.2.2.2.1 (p4 c1) (p5 c1) rfl).trans ?_
      refine (rn_goto (t := 42) (pc := 38) (dd bX13_goesEnd dX13_goesEnd_38) rfl).trans ?_
      refine Eq.trans (b := vrun mX13_goesEnd 42 [(1, 282), (0, x1), (0, x2), (0, x3), (0, y0), (9, 0), (9, 0)] [(0, h 2 284 x3)] h) rfl ?_
      simp only [if_pos c1]
    · refine (if_neg c1).trans ?_
      refine (rn_iconst (pc := 41) (dd bX13_goesEnd dX13_goesEnd_41) (by decide)).trans ?_
      refine Eq.trans (b := vrun mX13_goesEnd 42 [(1, 282), (0, x1), (0, x2), (0, x3), (0, y0), (9, 0), (9, 0)] [(0, (-1))] h) rfl ?_
      simp only [if_neg c1]
  refine e1.trans ?_
  refine (rn_istore (pc := 42) (dd bX13_goesEnd dX13_goesEnd_42) (Nat.le_of_ble_eq_true rfl) rfl).trans ?_
  refine (rn_aload_n (pc := 44) (dd bX13_goesEnd dX13_goesEnd_44) rfl).trans ?_
  refine (rg_gf (pc := 45) (dd bX13_goesEnd dX13_goesEnd_45) (ci := 14) (j := 39) rfl rfl (key := 1539) rfl (kc := 34) rfl s1.1 s1.2.2.2.2.2.2.2.2.2.2.2.2.2.2.2.2.2.2.2.2.2.2.2.2.2.2.2.2.2.2.2.2.2.2.2.2.2.2.2.2.2.2.2.2.2.2.2.2.2.2.2.2.2.2.2.2.2.2.2.2.2.2.2.2.2.2.2.2.2.2.2.2.2.2.2.2.2.2.2.2.2.2.2.2.2.2.2.2.2.2.2.2.2.2.2.2.2.2.2.2.2.2.2.2.2.2.2.2.2.2.2.2.1).trans ?_
  refine (rn_iload (pc := 48) (dd bX13_goesEnd dX13_goesEnd_48) rfl).trans ?_
  refine (rg_iaload (pc := 50) (dd bX13_goesEnd dX13_goesEnd_50) s1.2.2.2.2.2.2.2.2.2.2.2.2.2.2.2.2.2.2.2.2.2.2.2.2.2.2.2.2.2.2.2.2.2.2.2.2.2.2.2.2.2.2.2.2.2.2.2.2.2.2.2.2.2.2.2.2.2.2.2.2.2.2.2.2.2.2.2.2.2.2.2.2.2.2.2.2.2.2.2.2.2.2.2.2.2.2.2.2.2.2.2.2.2.2.2.2.2.2.2.2.2.2.2.2.2.2.2.2.2.2.2.2.2.1 s1.2.2.2.2.2.2.2.2.2.2.2.2.2.2.2.2.2.2.2.2.2.2.2.2.2.2.2.2.2.2.2.2.2.2.2.2.2.2.2.2.2.2.2.2.2.2.2.2.2.2.2.2.2.2.2.2.2.2.2.2.2.2.2.2.2.2.2.2.2.2.2.2.2.2.2.2.2.2.2.2.2.2.2.2.2.2.2.2.2.2.2.2.2.2.2.2.2.2.2.2.2.2.2.2.2.2.2.2.2.2.2.2.2.2.1 p6 p7 rfl).trans ?_
  refine (rn_istore (pc := 51) (dd bX13_goesEnd dX13_goesEnd_51) (Nat.le_of_ble_eq_true rfl) rfl).trans ?_
  rfl
theorem rX13_goesEnd_53 {x1 : Int} {x2 : Int} {x3 : Int} {x4 : Int} {x5 : Int} {x6 : Int} {h : vH} (s1 : shModel h) (p2 : (-2147483648) ≤ x4 + 1) (p3 : x4 + 1 < 2147483648) (p4 : 0 ≤ x4 + 1) (p5 : x4 + 1 < 142) (p6 : ¬ (h 2 320 (x4 + 1) ≤ x6) → (-2147483648) ≤ h 1541 282 0 - 1) (p7 : ¬ (h 2 320 (x4 + 1) ≤ x6) → h 1541 282 0 - 1 < 2147483648) (p8 : ¬ (h 2 320 (x4 + 1) ≤ x6) → ¬ (h 1541 282 0 - 1 ≤ x4) → 0 ≤ x6) (p9 : ¬ (h 2 320 (x4 + 1) ≤ x6) → ¬ (h 1541 282 0 - 1 ≤ x4) → x6 < 140) : vrun mX13_goesEnd 53 [(1, 282), (0, x1), (0, x2), (0, x3), (0, x4), (0, x5), (0, x6)] [] h = if h 2 320 (x4 + 1) ≤ x6 then if x5 = (-1) then some (.inl (some (0, 0)), h) else vret vrun mX13_goesEnd 120 [(1, 282), (0, x1), (0, x2), (0, x3), (0, x4), (0, x5), (0, x6)] [] (vcl mX13_changes [(1, 282), (0, x1), (0, x3), (0, x5)] h) else if h 1541 282 0 - 1 ≤ x4 then if x5 = (-1) then some (.inl (some (0, 0)), h) else vret vrun mX13_goesEnd 120 [(1, 282), (0, x1), (0, x2), (0, x3), (0, x4), (0, x5), (0, x6)] [] (vcl mX13_changes [(1, 282), (0, x1), (0, x3), (0, x5)] h) else vrun mX13_goesEnd 53 [(1, 282), (0, x1), (0, x2), (0, x3), (0, x4), (0, (if h 2 313 x6 = (-1) then x5 else h 2 313 x6)), (0, x6 + 1)] [] h := by
  refine (rn_iload (pc := 53) (dd bX13_goesEnd dX13_goesEnd_53) rfl).trans ?_
  refine (rn_aload_n (pc := 55) (dd bX13_goesEnd dX13_goesEnd_55) rfl).trans ?_
  refine (rg_gf (pc := 56) (dd bX13_goesEnd dX13_goesEnd_56) (ci := 14) (j := 39) rfl rfl (key := 1539) rfl (kc := 34) rfl s1.1 s1.2.2.2.2.2.2.2.2.2.2.2.2.2.2.2.2.2.2.2.2.2.2.2.2.2.2.2.2.2.2.2.2.2.2.2.2.2.2.2.2.2.2.2.2.2.2.2.2.2.2.2.2.2.2.2.2.2.2.2.2.2.2.2.2.2.2.2.2.2.2.2.2.2.2.2.2.2.2.2.2.2.2.2.2.2.2.2.2.2.2.2.2.2.2.2.2.2.2.2.2.2.2.2.2.2.2.2.2.2.2.2.2.1).trans ?_
  refine (rn_iload (pc := 59) (dd bX13_goesEnd dX13_goesEnd_59) rfl).trans ?_
  refine (rn_iconst (pc := 61) (dd bX13_goesEnd dX13_goesEnd_61) (by decide)).trans ?_
  refine (rg_iadd (pc := 62) (dd bX13_goesEnd dX13_goesEnd_62) p2 p3).trans ?_
  refine (rg_iaload (pc := 63) (dd bX13_goesEnd dX13_goesEnd_63) s1.2.2.2.2.2.2.2.2.2.2.2.2.2.2.2.2.2.2.2.2.2.2.2.2.2.2.2.2.2.2.2.2.2.2.2.2.2.2.2.2.2.2.2.2.2.2.2.2.2.2.2.2.2.2.2.2.2.2.2.2.2.2.2.2.2.2.2.2.2.2.2.2.2.2.2.2.2.2.2.2.2.2.2.2.2.2.2.2.2.2.2.2.2.2.2.2.2.2.2.2.2.2.2.2.2.2.2.2.2.2.2.2.2.1 s1.2.2.2.2.2.2.2.2.2.2.2.2.2.2.2.2.2.2.2.2.2.2.2.2.2.2.2.2.2.2.2.2.2.2.2.2.2.2.2.2.2.2.2.2.2.2.2.2.2.2.2.2.2.2.2.2.2.2.2.2.2.2.2.2.2.2.2.2.2.2.2.2.2.2.2.2.2.2.2.2.2.2.2.2.2.2.2.2.2.2.2.2.2.2.2.2.2.2.2.2.2.2.2.2.2.2.2.2.2.2.2.2.2.2.1 p4 p5 rfl).trans ?_
  refine (rn_icmp_ge (t := 109) (pc := 64) (dd bX13_goesEnd dX13_goesEnd_64) rfl).trans (itec (fun c1 => ?_) (fun c1 => ?_))
  · refine (rn_iload (pc := 109) (dd bX13_goesEnd dX13_goesEnd_109) rfl).trans ?_
    refine (rn_iconst (pc := 111) (dd bX13_goesEnd dX13_goesEnd_111) (by decide)).trans ?_
    refine (rn_icmp_eq (t := 130) (pc := 112) (dd bX13_goesEnd dX13_goesEnd_112) rfl).trans (itec (fun c2 => ?_) (fun c2 => ?_))
    · refine (rn_iconst (pc := 130) (dd bX13_goesEnd dX13_goesEnd_130) (by decide)).trans ?_
      exact rn_ireturn (pc := 131) (dd bX13_goesEnd dX13_goesEnd_131) (Or.inr ⟨rfl, (by decide)⟩)
    · refine (rn_aload_n (pc := 115) (dd bX13_goesEnd dX13_goesEnd_115) rfl).trans ?_
      refine (rn_iload_n (pc := 116) (dd bX13_goesEnd dX13_goesEnd_116) rfl).trans ?_
      refine (rn_iload_n (pc := 117) (dd bX13_goesEnd dX13_goesEnd_117) rfl).trans ?_
      refine (rn_iload (pc := 118) (dd bX13_goesEnd dX13_goesEnd_118) rfl).trans ?_
      exact rg_virtual (pc := 120) (dd bX13_goesEnd dX13_goesEnd_120) rfl rfl (by decide) (kc := 34) rfl s1.1 (as := [(1, 282), (0, x1), (0, x3), (0, x5)]) rfl ⟨Nat.le_of_ble_eq_true rfl, Nat.le_of_ble_eq_true rfl, Nat.le_of_ble_eq_true rfl, Nat.le_of_ble_eq_true rfl⟩
  · refine (rn_iload (pc := 67) (dd bX13_goesEnd dX13_goesEnd_67) rfl).trans ?_
    refine (rn_aload_n (pc := 69) (dd bX13_goesEnd dX13_goesEnd_69) rfl).trans ?_
    refine (rg_gf (pc := 70) (dd bX13_goesEnd dX13_goesEnd_70) (ci := 14) (j := 41) rfl rfl (key := 1541) rfl (kc := 34) rfl s1.1 rfl).trans ?_
    refine (rn_iconst (pc := 73) (dd bX13_goesEnd dX13_goesEnd_73) (by decide)).trans ?_
    refine (rg_isub (pc := 74) (dd bX13_goesEnd dX13_goesEnd_74) (p6 c1) (p7 c1)).trans ?_
    refine (rn_icmp_ge (t := 109) (pc := 75) (dd bX13_goesEnd dX13_goesEnd_75) rfl).trans (itec (fun c3 => ?_) (fun c3 => ?_))
    · refine (rn_iload (pc := 109) (dd bX13_goesEnd dX13_goesEnd_109) rfl).trans ?_
      refine (rn_iconst (pc := 111) (dd bX13_goesEnd dX13_goesEnd_111) (by decide)).trans ?_
      refine (rn_icmp_eq (t := 130) (pc := 112) (dd bX13_goesEnd dX13_goesEnd_112) rfl).trans (itec (fun c4 => ?_) (fun c4 => ?_))
      · refine (rn_iconst (pc := 130) (dd bX13_goesEnd dX13_goesEnd_130) (by decide)).trans ?_
        exact rn_ireturn (pc := 131) (dd bX13_goesEnd dX13_goesEnd_131) (Or.inr ⟨rfl, (by decide)⟩)
      · refine (rn_aload_n (pc := 115) (dd bX13_goesEnd dX13_goesEnd_115) rfl).trans ?_
        refine (rn_iload_n (pc := 116) (dd bX13_goesEnd dX13_goesEnd_116) rfl).trans ?_
        refine (rn_iload_n (pc := 117) (dd bX13_goesEnd dX13_goesEnd_117) rfl).trans ?_
        refine (rn_iload (pc := 118) (dd bX13_goesEnd dX13_goesEnd_118) rfl).trans ?_
        exact rg_virtual (pc := 120) (dd bX13_goesEnd dX13_goesEnd_120) rfl rfl (by decide) (kc := 34) rfl s1.1 (as := [(1, 282), (0, x1), (0, x3), (0, x5)]) rfl ⟨Nat.le_of_ble_eq_true rfl, Nat.le_of_ble_eq_true rfl, Nat.le_of_ble_eq_true rfl, Nat.le_of_ble_eq_true rfl⟩
    · refine (rn_aload_n (pc := 78) (dd bX13_goesEnd dX13_goesEnd_78) rfl).trans ?_
      refine (rg_gf (pc := 79) (dd bX13_goesEnd dX13_goesEnd_79) (ci := 14) (j := 32) rfl rfl (key := 1532) rfl (kc := 34) rfl s1.1 s1.2.2.2.2.2.2.2.2.2.2.2.2.2.2.2.2.2.2.2.2.2.2.2.2.2.2.2.2.2.2.2.2.2.2.2.2.2.2.2.2.2.2.2.2.2.2.2.2.2.2.2.2.2.2.2.2.2.2.2.2.2.2.2.2.2.2.2.2.2.2.2.2.2.2.2.2.2.2.2.2.2.2.2.2.2.2.2.2.2.2.2.1).trans ?_
      refine (rn_iload (pc := 82) (dd bX13_goesEnd dX13_goesEnd_82) rfl).trans ?_
      refine (rg_iaload (pc := 84) (dd bX13_goesEnd dX13_goesEnd_84) s1.2.2.2.2.2.2.2.2.2.2.2.2.2.2.2.2.2.2.2.2.2.2.2.2.2.2.2.2.2.2.2.2.2.2.2.2.2.2.2.2.2.2.2.2.2.2.2.2.2.2.2.2.2.2.2.2.2.2.2.2.2.2.2.2.2.2.2.2.2.2.2.2.2.2.2.2.2.2.2.2.2.2.2.2.2.2.2.2.2.2.2.2.1 s1.2.2.2.2.2.2.2.2.2.2.2.2.2.2.2.2.2.2.2.2.2.2.2.2.2.2.2.2.2.2.2.2.2.2.2.2.2.2.2.2.2.2.2.2.2.2.2.2.2.2.2.2.2.2.2.2.2.2.2.2.2.2.2.2.2.2.2.2.2.2.2.2.2.2.2.2.2.2.2.2.2.2.2.2.2.2.2.2.2.2.2.2.2.1 (p8 c1 c3) (p9 c1 c3) rfl).trans ?_
      refine (rn_iconst (pc := 85) (dd bX13_goesEnd dX13_goesEnd_85) (by decide)).trans ?_
      have e1 : vrun mX13_goesEnd 86 [(1, 282), (0, x1), (0, x2), (0, x3), (0, x4), (0, x5), (0, x6)] [(0, (-1)), (0, h 2 313 x6)] h = vrun mX13_goesEnd 101 [(1, 282), (0, x1), (0, x2), (0, x3), (0, x4), (0, x5), (0, x6)] [(0, (if h 2 313 x6 = (-1) then x5 else h 2 313 x6))] h := by
        refine (rn_icmp_eq (t := 99) (pc := 86) (dd bX13_goesEnd dX13_goesEnd_86) rfl).trans ?_
        by_cases c5 : h 2 313 x6 = (-1)
        · refine (if_pos c5).trans ?_
          refine (rn_iload (pc := 99) (dd bX13_goesEnd dX13_goesEnd_99) rfl).trans ?_
          refine Eq.trans (b := vrun mX13_goesEnd 101 [(1, 282), (0, x1), (0, x2), (0, x3), (0, x4), (0, x5), (0, x6)] [(0, x5)] h) rfl ?_
          simp only [if_pos c5]
        · refine (if_neg c5).trans ?_
          refine (rn_aload_n (pc := 89) (dd bX13_goesEnd dX13_goesEnd_89) rfl).trans ?_
          refine (rg_gf (pc := 90) (dd bX13_goesEnd dX13_goesEnd_90) (ci := 14) (j := 32) rfl rfl (key := 1532) rfl (kc := 34) rfl s1.1 s1.2.2.2.2.2.2.2.2.2.2.2.2.2.2.2.2.2.2.2.2.2.2.2.2.2.2.2.2.2.2.2.2.2.2.2.2.2.2.2.2.2.2.2.2.2.2.2.2.2.2.2.2.2.2.2.2.2.2.2.2.2.2.2.2.2.2.2.2.2.2.2.2.2.2.2.2.2.2.2.2.2.2.2.2.2.2.2.2.2.2.2.1).trans ?_
          refine (rn_iload (pc := 93) (dd bX13_goesEnd dX13_goesEnd_93) rfl).trans ?_
          refine (rg_iaload (pc := 95) (dd bX13_goesEnd dX13_goesEnd_95) s1.2.2.2.2.2.2.2.2.2.2.2.2.2.2.2.2.2.2.2.2.2.2.2.2.2.2.2.2.2.2.2.2.2.2.2.2.2.2.2.2.2.2.2.2.2.2.2.2.2.2.2.2.2.2.2.2.2.2.2.2.2.2.2.2.2.2.2.2.2.2.2.2.2.2.2.2.2.2.2.2.2.2.2.2.2.2.2.2.2.2.2.2.1 s1.2.2.2.2.2.2.2.2.2.2.2.2.2.2.2.2.2.2.2.2.2.2.2.2.2.2.2.2.2.2.2.2.2.2.2.2.2.2.2.2.2.2.2.2.2.2.2.2.2.2.2.2.2.2.2.2.2.2.2.2.2.2.2.2.2.2.2.2.2.2.2.2.2.2.2.2.2.2.2.2.2.2.2.2.2.2.2.2.2.2.2.2.2.1 (by have z0 := p8 c1 c3; have z1 := p9 c1 c3; omega) (by have z0 := p8 c1 c3; have z1 := p9 c1 c3; omega) rfl).trans ?_
          refine (rn_goto (t := 101) (pc := 96) (dd bX13_goesEnd dX13_goesEnd_96) rfl).trans ?_
          refine Eq.trans (b := vrun mX13_goesEnd 101 [(1, 282), (0, x1), (0, x2), (0, x3), (0, x4), (0, x5), (0, x6)] [(0, h 2 313 x6)] h) rfl ?_
          simp only [if_neg c5]
      refine e1.trans ?_
      refine (rn_istore (pc := 101) (dd bX13_goesEnd dX13_goesEnd_101) (Nat.le_of_ble_eq_true rfl) rfl).trans ?_
      refine (rg_iinc (pc := 103) (dd bX13_goesEnd dX13_goesEnd_103) rfl (Nat.le_of_ble_eq_true rfl) (by have z0 := p8 c1 c3; have z1 := p9 c1 c3; omega) (by have z0 := p8 c1 c3; have z1 := p9 c1 c3; omega) rfl).trans ?_
      refine (rn_goto (t := 53) (pc := 106) (dd bX13_goesEnd dX13_goesEnd_106) rfl).trans ?_
      rfl
theorem rX13_goesEnd_123 {x1 : Int} {x2 : Int} {x3 : Int} {x4 : Int} {x5 : Int} {x6 : Int} {y0 : Int} {h : vH} : vrun mX13_goesEnd 123 [(1, 282), (0, x1), (0, x2), (0, x3), (0, x4), (0, x5), (0, x6)] [(0, y0)] h = some (.inl (some (0, (if ¬ (y0 = 0) then 1 else 0))), h) := by
  have e1 : vrun mX13_goesEnd 123 [(1, 282), (0, x1), (0, x2), (0, x3), (0, x4), (0, x5), (0, x6)] [(0, y0)] h = vrun mX13_goesEnd 131 [(1, 282), (0, x1), (0, x2), (0, x3), (0, x4), (0, x5), (0, x6)] [(0, (if ¬ (y0 = 0) then 1 else 0))] h := by
    refine (rn_if_eq (t := 130) (pc := 123) (dd bX13_goesEnd dX13_goesEnd_123) rfl).trans ?_
    by_cases c1 : y0 = 0
    · refine (if_pos c1).trans ?_
      refine (rn_iconst (pc := 130) (dd bX13_goesEnd dX13_goesEnd_130) (by decide)).trans ?_
      refine Eq.trans (b := vrun mX13_goesEnd 131 [(1, 282), (0, x1), (0, x2), (0, x3), (0, x4), (0, x5), (0, x6)] [(0, 0)] h) rfl ?_
      simp only [c1, true_or, false_or, or_true, or_false, true_and, false_and, and_true, and_false, not_true_eq_false, not_false_eq_true, ne_eq, if_true, if_false, ↓reduceIte]
    · refine (if_neg c1).trans ?_
      refine (rn_iconst (pc := 126) (dd bX13_goesEnd dX13_goesEnd_126) (by decide)).trans ?_
      refine (rn_goto (t := 131) (pc := 127) (dd bX13_goesEnd dX13_goesEnd_127) rfl).trans ?_
      refine Eq.trans (b := vrun mX13_goesEnd 131 [(1, 282), (0, x1), (0, x2), (0, x3), (0, x4), (0, x5), (0, x6)] [(0, 1)] h) rfl ?_
      simp only [c1, true_or, false_or, or_true, or_false, true_and, false_and, and_true, and_false, not_true_eq_false, not_false_eq_true, ne_eq, if_true, if_false, ↓reduceIte]
  refine e1.trans ?_
  exact rn_ireturn (pc := 131) (dd bX13_goesEnd dX13_goesEnd_131) (Or.inr ⟨rfl, b01⟩)
theorem bX13_makes : vmB mX13_makes = cX13_makes := rfl
theorem rX13_makes_0 {x1 : Int} {x2 : Int} {h : vH} (s1 : shModel h) (p2 : ¬ (x2 = 0) → ¬ (x2 = 1) → ¬ (x2 = 2) → ¬ (x2 = 3) → ¬ (x2 = 4) → ¬ (x2 = 5) → x2 = 6 → 0 ≤ x1) (p3 : ¬ (x2 = 0) → ¬ (x2 = 1) → ¬ (x2 = 2) → ¬ (x2 = 3) → ¬ (x2 = 4) → ¬ (x2 = 5) → x2 = 6 → x1 < 4) (p4 : ¬ (x2 = 0) → ¬ (x2 = 1) → ¬ (x2 = 2) → ¬ (x2 = 3) → ¬ (x2 = 4) → ¬ (x2 = 5) → x2 = 6 → (-2147483648) < h 2 310 x1) (p5 : ¬ (x2 = 0) → ¬ (x2 = 1) → ¬ (x2 = 2) → ¬ (x2 = 3) → ¬ (x2 = 4) → ¬ (x2 = 5) → x2 = 6 → h 2 310 x1 ≤ 2147483647) (p6 : ¬ (x2 = 0) → ¬ (x2 = 1) → ¬ (x2 = 2) → ¬ (x2 = 3) → ¬ (x2 = 4) → ¬ (x2 = 5) → ¬ (x2 = 6) → 0 ≤ x1) (p7 : ¬ (x2 = 0) → ¬ (x2 = 1) → ¬ (x2 = 2) → ¬ (x2 = 3) → ¬ (x2 = 4) → ¬ (x2 = 5) → ¬ (x2 = 6) → x1 < 4) : vrun mX13_makes 0 [(1, 282), (0, x1), (0, x2), (9, 0), (9, 0)] [] h = if x2 = 0 then vret vrun mX13_makes 42 [(1, 282), (0, x1), (0, x2), (9, 0), (9, 0)] [] (vcl mX13_goesAhead [(1, 282), (0, x1)] h) else if x2 = 1 then vret vrun mX13_makes 51 [(1, 282), (0, x1), (0, x2), (9, 0), (9, 0)] [] (vcl mX13_goesBehind [(1, 282), (0, x1)] h) else if x2 = 2 then vret vrun mX13_makes 70 [(1, 282), (0, x1), (0, x2), (9, 0), (9, 0)] [] (vcl mX13_goesRows [(1, 282), (0, x1), (0, (if x2 = 2 then (-1) else 1))] h) else if x2 = 3 then vret vrun mX13_makes 70 [(1, 282), (0, x1), (0, x2), (9, 0), (9, 0)] [] (vcl mX13_goesRows [(1, 282), (0, x1), (0, (if x2 = 2 then (-1) else 1))] h) else if x2 = 4 then vret vrun mX13_makes 79 [(1, 282), (0, x1), (0, x2), (9, 0), (9, 0)] [] (vcl mX13_goesHome [(1, 282), (0, x1)] h) else if x2 = 5 then vret vrun mX13_makes 88 [(1, 282), (0, x1), (0, x2), (9, 0), (9, 0)] [] (vcl mX13_goesEnd [(1, 282), (0, x1)] h) else vret vrun mX13_makes 119 [(1, 282), (0, x1), (0, x2), (9, 0), (9, 0)] [] (vcl mX13_goesRows [(1, 282), (0, x1), (0, (if x2 = 6 then -h 2 310 x1 else h 2 310 x1))] h) := by
  refine (rn_iload_n (pc := 0) (dd bX13_makes dX13_makes_0) rfl).trans ?_
  refine itex (c := x2 = 0) (fun c1 => ?_) (fun c1 => ?_)
  · refine (rn_table (off := 39) (t := 40) (pc := 1) (dd bX13_makes dX13_makes_1) (by omega) (by rw [c1]; rfl) rfl).trans ?_
    refine (rn_aload_n (pc := 40) (dd bX13_makes dX13_makes_40) rfl).trans ?_
    refine (rn_iload_n (pc := 41) (dd bX13_makes dX13_makes_41) rfl).trans ?_
    exact rg_virtual (pc := 42) (dd bX13_makes dX13_makes_42) rfl rfl (by decide) (kc := 34) rfl s1.1 (as := [(1, 282), (0, x1)]) rfl ⟨Nat.le_of_ble_eq_true rfl, Nat.le_of_ble_eq_true rfl, Nat.le_of_ble_eq_true rfl, Nat.le_of_ble_eq_true rfl⟩
  · refine itex (c := x2 = 1) (fun c2 => ?_) (fun c2 => ?_)
    · refine (rn_table (off := 48) (t := 49) (pc := 1) (dd bX13_makes dX13_makes_1) (by omega) (by rw [c2]; rfl) rfl).trans ?_
      refine (rn_aload_n (pc := 49) (dd bX13_makes dX13_makes_49) rfl).trans ?_
      refine (rn_iload_n (pc := 50) (dd bX13_makes dX13_makes_50) rfl).trans ?_
      exact rg_virtual (pc := 51) (dd bX13_makes dX13_makes_51) rfl rfl (by decide) (kc := 34) rfl s1.1 (as := [(1, 282), (0, x1)]) rfl ⟨Nat.le_of_ble_eq_true rfl, Nat.le_of_ble_eq_true rfl, Nat.le_of_ble_eq_true rfl, Nat.le_of_ble_eq_true rfl⟩
    · refine itex (c := x2 = 2) (fun c3 => ?_) (fun c3 => ?_)
      · refine (rn_table (off := 57) (t := 58) (pc := 1) (dd bX13_makes dX13_makes_1) (by omega) (by rw [c3]; rfl) rfl).trans ?_
        refine (rn_aload_n (pc := 58) (dd bX13_makes dX13_makes_58) rfl).trans ?_
        refine (rn_iload_n (pc := 59) (dd bX13_makes dX13_makes_59) rfl).trans ?_
        refine (rn_iload_n (pc := 60) (dd bX13_makes dX13_makes_60) rfl).trans ?_
        refine (rn_iconst (pc := 61) (dd bX13_makes dX13_makes_61) (by decide)).trans ?_
        have e1 : vrun mX13_makes 62 [(1, 282), (0, x1), (0, x2), (9, 0), (9, 0)] [(0, 2), (0, x2), (0, x1), (1, 282)] h = vrun mX13_makes 70 [(1, 282), (0, x1), (0, x2), (9, 0), (9, 0)] [(0, (if x2 = 2 then (-1) else 1)), (0, x1), (1, 282)] h := by
          refine (rg_icmp_ne (t := 69) (pc := 62) (dd bX13_makes dX13_makes_62) rfl).trans ?_
          by_cases c4 : x2 = 2
          · refine (if_pos c4).trans ?_
            refine (rn_iconst (pc := 65) (dd bX13_makes dX13_makes_65) (by decide)).trans ?_
            refine (rn_goto (t := 70) (pc := 66) (dd bX13_makes dX13_makes_66) rfl).trans ?_
            refine Eq.trans (b := vrun mX13_makes 70 [(1, 282), (0, x1), (0, x2), (9, 0), (9, 0)] [(0, (-1)), (0, x1), (1, 282)] h) rfl ?_
            simp only [if_pos c4]
          · refine (if_neg c4).trans ?_
            refine (rn_iconst (pc := 69) (dd bX13_makes dX13_makes_69) (by decide)).trans ?_
            refine Eq.trans (b := vrun mX13_makes 70 [(1, 282), (0, x1), (0, x2), (9, 0), (9, 0)] [(0, 1), (0, x1), (1, 282)] h) rfl ?_
            simp only [if_neg c4]
        refine e1.trans ?_
        exact rg_virtual (pc := 70) (dd bX13_makes dX13_makes_70) rfl rfl (by decide) (kc := 34) rfl s1.1 (as := [(1, 282), (0, x1), (0, (if x2 = 2 then (-1) else 1))]) rfl ⟨Nat.le_of_ble_eq_true rfl, Nat.le_of_ble_eq_true rfl, Nat.le_of_ble_eq_true rfl, Nat.le_of_ble_eq_true rfl⟩
      · refine itex (c := x2 = 3) (fun c5 => ?_) (fun c5 => ?_)
        · refine (rn_table (off := 57) (t := 58) (pc := 1) (dd bX13_makes dX13_makes_1) (by omega) (by rw [c5]; rfl) rfl).trans ?_
          refine (rn_aload_n (pc := 58) (dd bX13_makes dX13_makes_58) rfl).trans ?_
          refine (rn_iload_n (pc := 59) (dd bX13_makes dX13_makes_59) rfl).trans ?_
          refine (rn_iload_n (pc := 60) (dd bX13_makes dX13_makes_60) rfl).trans ?_
          refine (rn_iconst (pc := 61) (dd bX13_makes dX13_makes_61) (by decide)).trans ?_
          have e2 : vrun mX13_makes 62 [(1, 282), (0, x1), (0, x2), (9, 0), (9, 0)] [(0, 2), (0, x2), (0, x1), (1, 282)] h = vrun mX13_makes 70 [(1, 282), (0, x1), (0, x2), (9, 0), (9, 0)] [(0, (if x2 = 2 then (-1) else 1)), (0, x1), (1, 282)] h := by
            refine (rg_icmp_ne (t := 69) (pc := 62) (dd bX13_makes dX13_makes_62) rfl).trans ?_
            by_cases c6 : x2 = 2
            · refine (if_pos c6).trans ?_
              refine (rn_iconst (pc := 65) (dd bX13_makes dX13_makes_65) (by decide)).trans ?_
              refine (rn_goto (t := 70) (pc := 66) (dd bX13_makes dX13_makes_66) rfl).trans ?_
              refine Eq.trans (b := vrun mX13_makes 70 [(1, 282), (0, x1), (0, x2), (9, 0), (9, 0)] [(0, (-1)), (0, x1), (1, 282)] h) rfl ?_
              simp only [if_pos c6]
            · refine (if_neg c6).trans ?_
              refine (rn_iconst (pc := 69) (dd bX13_makes dX13_makes_69) (by decide)).trans ?_
              refine Eq.trans (b := vrun mX13_makes 70 [(1, 282), (0, x1), (0, x2), (9, 0), (9, 0)] [(0, 1), (0, x1), (1, 282)] h) rfl ?_
              simp only [if_neg c6]
          refine e2.trans ?_
          exact rg_virtual (pc := 70) (dd bX13_makes dX13_makes_70) rfl rfl (by decide) (kc := 34) rfl s1.1 (as := [(1, 282), (0, x1), (0, (if x2 = 2 then (-1) else 1))]) rfl ⟨Nat.le_of_ble_eq_true rfl, Nat.le_of_ble_eq_true rfl, Nat.le_of_ble_eq_true rfl, Nat.le_of_ble_eq_true rfl⟩
        · refine itex (c := x2 = 4) (fun c7 => ?_) (fun c7 => ?_)
          · refine (rn_table (off := 76) (t := 77) (pc := 1) (dd bX13_makes dX13_makes_1) (by omega) (by rw [c7]; rfl) rfl).trans ?_
            refine (rn_aload_n (pc := 77) (dd bX13_makes dX13_makes_77) rfl).trans ?_
            refine (rn_iload_n (pc := 78) (dd bX13_makes dX13_makes_78) rfl).trans ?_
            exact rg_virtual (pc := 79) (dd bX13_makes dX13_makes_79) rfl rfl (by decide) (kc := 34) rfl s1.1 (as := [(1, 282), (0, x1)]) rfl ⟨Nat.le_of_ble_eq_true rfl, Nat.le_of_ble_eq_true rfl, Nat.le_of_ble_eq_true rfl, Nat.le_of_ble_eq_true rfl⟩
          · refine itex (c := x2 = 5) (fun c8 => ?_) (fun c8 => ?_)
            · refine (rn_table (off := 85) (t := 86) (pc := 1) (dd bX13_makes dX13_makes_1) (by omega) (by rw [c8]; rfl) rfl).trans ?_
              refine (rn_aload_n (pc := 86) (dd bX13_makes dX13_makes_86) rfl).trans ?_
              refine (rn_iload_n (pc := 87) (dd bX13_makes dX13_makes_87) rfl).trans ?_
              exact rg_virtual (pc := 88) (dd bX13_makes dX13_makes_88) rfl rfl (by decide) (kc := 34) rfl s1.1 (as := [(1, 282), (0, x1)]) rfl ⟨Nat.le_of_ble_eq_true rfl, Nat.le_of_ble_eq_true rfl, Nat.le_of_ble_eq_true rfl, Nat.le_of_ble_eq_true rfl⟩
            · refine (rn_tableD (t := 95) (pc := 1) (dd bX13_makes dX13_makes_1) (by omega) rfl).trans ?_
              refine (rn_aload_n (pc := 95) (dd bX13_makes dX13_makes_95) rfl).trans ?_
              refine (rn_iload_n (pc := 96) (dd bX13_makes dX13_makes_96) rfl).trans ?_
              refine (rn_iload_n (pc := 97) (dd bX13_makes dX13_makes_97) rfl).trans ?_
              refine (rn_bipush (pc := 98) (dd bX13_makes dX13_makes_98) (by decide)).trans ?_
              have e3 : vrun mX13_makes 100 [(1, 282), (0, x1), (0, x2), (9, 0), (9, 0)] [(0, 6), (0, x2), (0, x1), (1, 282)] h = vrun mX13_makes 119 [(1, 282), (0, x1), (0, x2), (9, 0), (9, 0)] [(0, (if x2 = 6 then -h 2 310 x1 else h 2 310 x1)), (0, x1), (1, 282)] h := by
                refine (rg_icmp_ne (t := 113) (pc := 100) (dd bX13_makes dX13_makes_100) rfl).trans ?_
                by_cases c9 : x2 = 6
                · refine (if_pos c9).trans ?_
                  refine (rn_aload_n (pc := 103) (dd bX13_makes dX13_makes_103) rfl).trans ?_
                  refine (rg_gf (pc := 104) (dd bX13_makes dX13_makes_104) (ci := 14) (j := 29) rfl rfl (key := 1529) rfl (kc := 34) rfl s1.1 s1.2.2.2.2.2.2.2.2.2.2.2.2.2.2.2.2.2.2.2.2.2.2.2.2.2.2.2.2.2.2.2.2.2.2.2.2.2.2.2.2.2.2.2.2.2.2.2.2.2.2.2.2.2.2.2.2.2.2.2.2.2.2.2.2.2.2.2.2.2.2.2.2.2.2.2.2.2.2.2.2.2.2.1).trans ?_
                  refine (rn_iload_n (pc := 107) (dd bX13_makes dX13_makes_107) rfl).trans ?_
                  refine (rg_iaload (pc := 108) (dd bX13_makes dX13_makes_108) s1.2.2.2.2.2.2.2.2.2.2.2.2.2.2.2.2.2.2.2.2.2.2.2.2.2.2.2.2.2.2.2.2.2.2.2.2.2.2.2.2.2.2.2.2.2.2.2.2.2.2.2.2.2.2.2.2.2.2.2.2.2.2.2.2.2.2.2.2.2.2.2.2.2.2.2.2.2.2.2.2.2.2.2.1 s1.2.2.2.2.2.2.2.2.2.2.2.2.2.2.2.2.2.2.2.2.2.2.2.2.2.2.2.2.2.2.2.2.2.2.2.2.2.2.2.2.2.2.2.2.2.2.2.2.2.2.2.2.2.2.2.2.2.2.2.2.2.2.2.2.2.2.2.2.2.2.2.2.2.2.2.2.2.2.2.2.2.2.2.2.1 (p2 c1 c2 c3 c5 c7 c8 c9) (p3 c1 c2 c3 c5 c7 c8 c9) rfl).trans ?_
                  refine (rg_ineg (pc := 109) (dd bX13_makes dX13_makes_109) (p4 c1 c2 c3 c5 c7 c8 c9) (p5 c1 c2 c3 c5 c7 c8 c9)).trans ?_
                  refine (rn_goto (t := 119) (pc := 110) (dd bX13_makes dX13_makes_110) rfl).trans ?_
                  refine Eq.trans (b := vrun mX13_makes 119 [(1, 282), (0, x1), (0, x2), (9, 0), (9, 0)] [(0, -h 2 310 x1), (0, x1), (1, 282)] h) rfl ?_
                  simp only [if_pos c9]
                · refine (if_neg c9).trans ?_
                  refine (rn_aload_n (pc := 113) (dd bX13_makes dX13_makes_113) rfl).trans ?_
                  refine (rg_gf (pc := 114) (dd bX13_makes dX13_makes_114) (ci := 14) (j := 29) rfl rfl (key := 1529) rfl (kc := 34) rfl s1.1 s1.2.2.2.2.2.2.2.2.2.2.2.2.2.2.2.2.2.2.2.2.2.2.2.2.2.2.2.2.2.2.2.2.2.2.2.2.2.2.2.2.2.2.2.2.2.2.2.2.2.2.2.2.2.2.2.2.2.2.2.2.2.2.2.2.2.2.2.2.2.2.2.2.2.2.2.2.2.2.2.2.2.2.1).trans ?_
                  refine (rn_iload_n (pc := 117) (dd bX13_makes dX13_makes_117) rfl).trans ?_
                  refine (rg_iaload (pc := 118) (dd bX13_makes dX13_makes_118) s1.2.2.2.2.2.2.2.2.2.2.2.2.2.2.2.2.2.2.2.2.2.2.2.2.2.2.2.2.2.2.2.2.2.2.2.2.2.2.2.2.2.2.2.2.2.2.2.2.2.2.2.2.2.2.2.2.2.2.2.2.2.2.2.2.2.2.2.2.2.2.2.2.2.2.2.2.2.2.2.2.2.2.2.1 s1.2.2.2.2.2.2.2.2.2.2.2.2.2.2.2.2.2.2.2.2.2.2.2.2.2.2.2.2.2.2.2.2.2.2.2.2.2.2.2.2.2.2.2.2.2.2.2.2.2.2.2.2.2.2.2.2.2.2.2.2.2.2.2.2.2.2.2.2.2.2.2.2.2.2.2.2.2.2.2.2.2.2.2.2.1 (p6 c1 c2 c3 c5 c7 c8 c9) (p7 c1 c2 c3 c5 c7 c8 c9) rfl).trans ?_
                  refine Eq.trans (b := vrun mX13_makes 119 [(1, 282), (0, x1), (0, x2), (9, 0), (9, 0)] [(0, h 2 310 x1), (0, x1), (1, 282)] h) rfl ?_
                  simp only [if_neg c9]
              refine e3.trans ?_
              exact rg_virtual (pc := 119) (dd bX13_makes dX13_makes_119) rfl rfl (by decide) (kc := 34) rfl s1.1 (as := [(1, 282), (0, x1), (0, (if x2 = 6 then -h 2 310 x1 else h 2 310 x1))]) rfl ⟨Nat.le_of_ble_eq_true rfl, Nat.le_of_ble_eq_true rfl, Nat.le_of_ble_eq_true rfl, Nat.le_of_ble_eq_true rfl⟩
theorem rX13_makes_45 {x1 : Int} {x2 : Int} {y0 : Int} {h : vH} (s1 : shModel h) (p2 : x2 = 2 ∨ x2 = 3 ∨ ¬ (x2 < 6) → 0 ≤ x1) (p3 : x2 = 2 ∨ x2 = 3 ∨ ¬ (x2 < 6) → x1 < 4) (p4 : x2 = 2 ∨ x2 = 3 ∨ ¬ (x2 < 6) → y0 = 0 → y0 = 0 ∨ y0 = 1) : vrun mX13_makes 45 [(1, 282), (0, x1), (0, x2), (9, 0), (9, 0)] [(0, y0)] h = if x2 = 2 ∨ x2 = 3 ∨ ¬ (x2 < 6) then if y0 = 0 then some (.inl (some (0, y0)), vup h 2 307 x1 (h 2 307 x1)) else vret vrun mX13_makes 177 [(1, 282), (0, x1), (0, x2), (0, y0), (0, (if x2 = 2 ∨ x2 = 3 ∨ ¬ (x2 < 6) then 1 else 0))] [] (vcl mX13_looks [(1, 282), (0, x1)] (vup h 2 307 x1 (h 2 307 x1))) else vret vrun mX13_makes 167 [(1, 282), (0, x1), (0, x2), (0, y0), (0, (if x2 = 2 ∨ x2 = 3 ∨ ¬ (x2 < 6) then 1 else 0))] [(0, x1), (1, 307)] (vcl mX13_columnNow [(1, 282), (0, x1)] h) := by
  refine (rn_istore_n (pc := 45) (dd bX13_makes dX13_makes_45) (Nat.le_of_ble_eq_true rfl) rfl).trans ?_
  refine (rn_goto (t := 123) (pc := 46) (dd bX13_makes dX13_makes_46) rfl).trans ?_
  refine (rn_iload_n (pc := 123) (dd bX13_makes dX13_makes_123) rfl).trans ?_
  refine (rn_iconst (pc := 124) (dd bX13_makes dX13_makes_124) (by decide)).trans ?_
  have e3 : vrun mX13_makes 125 [(1, 282), (0, x1), (0, x2), (0, y0), (9, 0)] [(0, 2), (0, x2)] h = vrun mX13_makes 144 [(1, 282), (0, x1), (0, x2), (0, y0), (9, 0)] [(0, (if x2 = 2 ∨ x2 = 3 ∨ ¬ (x2 < 6) then 1 else 0))] h := by
    refine (rn_icmp_eq (t := 139) (pc := 125) (dd bX13_makes dX13_makes_125) rfl).trans ?_
    by_cases c1 : x2 = 2
    · refine (if_pos c1).trans ?_
      refine (rn_iconst (pc := 139) (dd bX13_makes dX13_makes_139) (by decide)).trans ?_
      refine (rn_goto (t := 144) (pc := 140) (dd bX13_makes dX13_makes_140) rfl).trans ?_
      refine Eq.trans (b := vrun mX13_makes 144 [(1, 282), (0, x1), (0, x2), (0, y0), (9, 0)] [(0, 1)] h) rfl ?_
      simp only [c1, true_or, false_or, or_true, or_false, true_and, false_and, and_true, and_false, not_true_eq_false, not_false_eq_true, ne_eq, if_true, if_false, ↓reduceIte]
    · refine (if_neg c1).trans ?_
      refine (rn_iload_n (pc := 128) (dd bX13_makes dX13_makes_128) rfl).trans ?_
      refine (rn_iconst (pc := 129) (dd bX13_makes dX13_makes_129) (by decide)).trans ?_
      have e2 : vrun mX13_makes 130 [(1, 282), (0, x1), (0, x2), (0, y0), (9, 0)] [(0, 3), (0, x2)] h = vrun mX13_makes 144 [(1, 282), (0, x1), (0, x2), (0, y0), (9, 0)] [(0, (if x2 = 3 ∨ ¬ (x2 < 6) then 1 else 0))] h := by
        refine (rn_icmp_eq (t := 139) (pc := 130) (dd bX13_makes dX13_makes_130) rfl).trans ?_
        by_cases c2 : x2 = 3
        · refine (if_pos c2).trans ?_
          refine (rn_iconst (pc := 139) (dd bX13_makes dX13_makes_139) (by decide)).trans ?_
          refine (rn_goto (t := 144) (pc := 140) (dd bX13_makes dX13_makes_140) rfl).trans ?_
          refine Eq.trans (b := vrun mX13_makes 144 [(1, 282), (0, x1), (0, x2), (0, y0), (9, 0)] [(0, 1)] h) rfl ?_
          simp only [c2, true_or, false_or, or_true, or_false, true_and, false_and, and_true, and_false, not_true_eq_false, not_false_eq_true, ne_eq, if_true, if_false, ↓reduceIte]
        · refine (if_neg c2).trans ?_
          refine (rn_iload_n (pc := 133) (dd bX13_makes dX13_makes_133) rfl).trans ?_
          refine (rn_bipush (pc := 134) (dd bX13_makes dX13_makes_134) (by decide)).trans ?_
          have e1 : vrun mX13_makes 136 [(1, 282), (0, x1), (0, x2), (0, y0), (9, 0)] [(0, 6), (0, x2)] h = vrun mX13_makes 144 [(1, 282), (0, x1), (0, x2), (0, y0), (9, 0)] [(0, (if ¬ (x2 < 6) then 1 else 0))] h := by
            refine (rn_icmp_lt (t := 143) (pc := 136) (dd bX13_makes dX13_makes_136) rfl).trans ?_
            by_cases c3 : x2 < 6
            · refine (if_pos c3).trans ?_
              refine (rn_iconst (pc := 143) (dd bX13_makes dX13_makes_143) (by decide)).trans ?_
              refine Eq.trans (b := vrun mX13_makes 144 [(1, 282), (0, x1), (0, x2), (0, y0), (9, 0)] [(0, 0)] h) rfl ?_
              simp only [c3, true_or, false_or, or_true, or_false, true_and, false_and, and_true, and_false, not_true_eq_false, not_false_eq_true, ne_eq, if_true, if_false, ↓reduceIte]
            · refine (if_neg c3).trans ?_
              refine (rn_iconst (pc := 139) (dd bX13_makes dX13_makes_139) (by decide)).trans ?_
              refine (rn_goto (t := 144) (pc := 140) (dd bX13_makes dX13_makes_140) rfl).trans ?_
              refine Eq.trans (b := vrun mX13_makes 144 [(1, 282), (0, x1), (0, x2), (0, y0), (9, 0)] [(0, 1)] h) rfl ?_
              simp only [c3, true_or, false_or, or_true, or_false, true_and, false_and, and_true, and_false, not_true_eq_false, not_false_eq_true, ne_eq, if_true, if_false, ↓reduceIte]
          refine e1.trans ?_
          refine Eq.trans (b := vrun mX13_makes 144 [(1, 282), (0, x1), (0, x2), (0, y0), (9, 0)] [(0, (if ¬ (x2 < 6) then 1 else 0))] h) rfl ?_
          simp only [c2, true_or, false_or, or_true, or_false, true_and, false_and, and_true, and_false, not_true_eq_false, not_false_eq_true, ne_eq, if_true, if_false, ↓reduceIte]
      refine e2.trans ?_
      refine Eq.trans (b := vrun mX13_makes 144 [(1, 282), (0, x1), (0, x2), (0, y0), (9, 0)] [(0, (if x2 = 3 ∨ ¬ (x2 < 6) then 1 else 0))] h) rfl ?_
      simp only [c1, true_or, false_or, or_true, or_false, true_and, false_and, and_true, and_false, not_true_eq_false, not_false_eq_true, ne_eq, if_true, if_false, ↓reduceIte]
  refine e3.trans ?_
  refine (rn_istore (pc := 144) (dd bX13_makes dX13_makes_144) (Nat.le_of_ble_eq_true rfl) rfl).trans ?_
  refine (rn_aload_n (pc := 146) (dd bX13_makes dX13_makes_146) rfl).trans ?_
  refine (rg_gf (pc := 147) (dd bX13_makes dX13_makes_147) (ci := 14) (j := 26) rfl rfl (key := 1526) rfl (kc := 34) rfl s1.1 s1.2.2.2.2.2.2.2.2.2.2.2.2.2.2.2.2.2.2.2.2.2.2.2.2.2.2.2.2.2.2.2.2.2.2.2.2.2.2.2.2.2.2.2.2.2.2.2.2.2.2.2.2.2.2.2.2.2.2.2.2.2.2.2.2.2.2.2.2.2.2.2.2.2.1).trans ?_
  refine (rn_iload_n (pc := 150) (dd bX13_makes dX13_makes_150) rfl).trans ?_
  refine (rn_iload (pc := 151) (dd bX13_makes dX13_makes_151) rfl).trans ?_
  refine (rg_beq (t := 165) (pc := 153) (dd bX13_makes dX13_makes_153) rfl).trans (itec (fun c4 => ?_) (fun c4 => ?_))
  · refine (rn_aload_n (pc := 156) (dd bX13_makes dX13_makes_156) rfl).trans ?_
    refine (rg_gf (pc := 157) (dd bX13_makes dX13_makes_157) (ci := 14) (j := 26) rfl rfl (key := 1526) rfl (kc := 34) rfl s1.1 s1.2.2.2.2.2.2.2.2.2.2.2.2.2.2.2.2.2.2.2.2.2.2.2.2.2.2.2.2.2.2.2.2.2.2.2.2.2.2.2.2.2.2.2.2.2.2.2.2.2.2.2.2.2.2.2.2.2.2.2.2.2.2.2.2.2.2.2.2.2.2.2.2.2.1).trans ?_
    refine (rn_iload_n (pc := 160) (dd bX13_makes dX13_makes_160) rfl).trans ?_
    refine (rg_iaload (pc := 161) (dd bX13_makes dX13_makes_161) s1.2.2.2.2.2.2.2.2.2.2.2.2.2.2.2.2.2.2.2.2.2.2.2.2.2.2.2.2.2.2.2.2.2.2.2.2.2.2.2.2.2.2.2.2.2.2.2.2.2.2.2.2.2.2.2.2.2.2.2.2.2.2.2.2.2.2.2.2.2.2.2.2.2.2.1 s1.2.2.2.2.2.2.2.2.2.2.2.2.2.2.2.2.2.2.2.2.2.2.2.2.2.2.2.2.2.2.2.2.2.2.2.2.2.2.2.2.2.2.2.2.2.2.2.2.2.2.2.2.2.2.2.2.2.2.2.2.2.2.2.2.2.2.2.2.2.2.2.2.2.2.2.1 (p2 c4) (p3 c4) rfl).trans ?_
    refine (rn_goto (t := 170) (pc := 162) (dd bX13_makes dX13_makes_162) rfl).trans ?_
    refine (rg_iastore (pc := 170) (dd bX13_makes dX13_makes_170) s1.2.2.2.2.2.2.2.2.2.2.2.2.2.2.2.2.2.2.2.2.2.2.2.2.2.2.2.2.2.2.2.2.2.2.2.2.2.2.2.2.2.2.2.2.2.2.2.2.2.2.2.2.2.2.2.2.2.2.2.2.2.2.2.2.2.2.2.2.2.2.2.2.2.2.1 s1.2.2.2.2.2.2.2.2.2.2.2.2.2.2.2.2.2.2.2.2.2.2.2.2.2.2.2.2.2.2.2.2.2.2.2.2.2.2.2.2.2.2.2.2.2.2.2.2.2.2.2.2.2.2.2.2.2.2.2.2.2.2.2.2.2.2.2.2.2.2.2.2.2.2.2.1 (by have z0 := p2 c4; have z1 := p3 c4; omega) (by have z0 := p2 c4; have z1 := p3 c4; omega)).trans ?_
    refine (rn_iload_n (pc := 171) (dd bX13_makes dX13_makes_171) rfl).trans ?_
    refine (rn_if_eq (t := 180) (pc := 172) (dd bX13_makes dX13_makes_172) rfl).trans (itec (fun c5 => ?_) (fun c5 => ?_))
    · refine (rn_iload_n (pc := 180) (dd bX13_makes dX13_makes_180) rfl).trans ?_
      exact rn_ireturn (pc := 181) (dd bX13_makes dX13_makes_181) (Or.inr ⟨rfl, (p4 c4 c5)⟩)
    · refine (rn_aload_n (pc := 175) (dd bX13_makes dX13_makes_175) rfl).trans ?_
      refine (rn_iload_n (pc := 176) (dd bX13_makes dX13_makes_176) rfl).trans ?_
      exact rg_virtual (pc := 177) (dd bX13_makes dX13_makes_177) rfl rfl (by decide) (kc := 34) rfl ((vup_k (by decide)).trans s1.1) (as := [(1, 282), (0, x1)]) rfl ⟨Nat.le_of_ble_eq_true rfl, Nat.le_of_ble_eq_true rfl, Nat.le_of_ble_eq_true rfl, Nat.le_of_ble_eq_true rfl⟩
  · refine (rn_aload_n (pc := 165) (dd bX13_makes dX13_makes_165) rfl).trans ?_
    refine (rn_iload_n (pc := 166) (dd bX13_makes dX13_makes_166) rfl).trans ?_
    exact rg_virtual (pc := 167) (dd bX13_makes dX13_makes_167) rfl rfl (by decide) (kc := 34) rfl s1.1 (as := [(1, 282), (0, x1)]) rfl ⟨Nat.le_of_ble_eq_true rfl, Nat.le_of_ble_eq_true rfl, Nat.le_of_ble_eq_true rfl, Nat.le_of_ble_eq_true rfl⟩
theorem rX13_makes_54 {x1 : Int} {x2 : Int} {y0 : Int} {h : vH} (s1 : shModel h) (p2 : x2 = 2 ∨ x2 = 3 ∨ ¬ (x2 < 6) → 0 ≤ x1) (p3 : x2 = 2 ∨ x2 = 3 ∨ ¬ (x2 < 6) → x1 < 4) (p4 : x2 = 2 ∨ x2 = 3 ∨ ¬ (x2 < 6) → y0 = 0 → y0 = 0 ∨ y0 = 1) : vrun mX13_makes 54 [(1, 282), (0, x1), (0, x2), (9, 0), (9, 0)] [(0, y0)] h = if x2 = 2 ∨ x2 = 3 ∨ ¬ (x2 < 6) then if y0 = 0 then some (.inl (some (0, y0)), vup h 2 307 x1 (h 2 307 x1)) else vret vrun mX13_makes 177 [(1, 282), (0, x1), (0, x2), (0, y0), (0, (if x2 = 2 ∨ x2 = 3 ∨ ¬ (x2 < 6) then 1 else 0))] [] (vcl mX13_looks [(1, 282), (0, x1)] (vup h 2 307 x1 (h 2 307 x1))) else vret vrun mX13_makes 167 [(1, 282), (0, x1), (0, x2), (0, y0), (0, (if x2 = 2 ∨ x2 = 3 ∨ ¬ (x2 < 6) then 1 else 0))] [(0, x1), (1, 307)] (vcl mX13_columnNow [(1, 282), (0, x1)] h) := by
  refine (rn_istore_n (pc := 54) (dd bX13_makes dX13_makes_54) (Nat.le_of_ble_eq_true rfl) rfl).trans ?_
  refine (rn_goto (t := 123) (pc := 55) (dd bX13_makes dX13_makes_55) rfl).trans ?_
  refine (rn_iload_n (pc := 123) (dd bX13_makes dX13_makes_123) rfl).trans ?_
  refine (rn_iconst (pc := 124) (dd bX13_makes dX13_makes_124) (by decide)).trans ?_
  have e3 : vrun mX13_makes 125 [(1, 282), (0, x1), (0, x2), (0, y0), (9, 0)] [(0, 2), (0, x2)] h = vrun mX13_makes 144 [(1, 282), (0, x1), (0, x2), (0, y0), (9, 0)] [(0, (if x2 = 2 ∨ x2 = 3 ∨ ¬ (x2 < 6) then 1 else 0))] h := by
    refine (rn_icmp_eq (t := 139) (pc := 125) (dd bX13_makes dX13_makes_125) rfl).trans ?_
    by_cases c1 : x2 = 2
    · refine (if_pos c1).trans ?_
      refine (rn_iconst (pc := 139) (dd bX13_makes dX13_makes_139) (by decide)).trans ?_
      refine (rn_goto (t := 144) (pc := 140) (dd bX13_makes dX13_makes_140) rfl).trans ?_
      refine Eq.trans (b := vrun mX13_makes 144 [(1, 282), (0, x1), (0, x2), (0, y0), (9, 0)] [(0, 1)] h) rfl ?_
      simp only [c1, true_or, false_or, or_true, or_false, true_and, false_and, and_true, and_false, not_true_eq_false, not_false_eq_true, ne_eq, if_true, if_false, ↓reduceIte]
    · refine (if_neg c1).trans ?_
      refine (rn_iload_n (pc := 128) (dd bX13_makes dX13_makes_128) rfl).trans ?_
      refine (rn_iconst (pc := 129) (dd bX13_makes dX13_makes_129) (by decide)).trans ?_
      have e2 : vrun mX13_makes 130 [(1, 282), (0, x1), (0, x2), (0, y0), (9, 0)] [(0, 3), (0, x2)] h = vrun mX13_makes 144 [(1, 282), (0, x1), (0, x2), (0, y0), (9, 0)] [(0, (if x2 = 3 ∨ ¬ (x2 < 6) then 1 else 0))] h := by
        refine (rn_icmp_eq (t := 139) (pc := 130) (dd bX13_makes dX13_makes_130) rfl).trans ?_
        by_cases c2 : x2 = 3
        · refine (if_pos c2).trans ?_
          refine (rn_iconst (pc := 139) (dd bX13_makes dX13_makes_139) (by decide)).trans ?_
          refine (rn_goto (t := 144) (pc := 140) (dd bX13_makes dX13_makes_140) rfl).trans ?_
          refine Eq.trans (b := vrun mX13_makes 144 [(1, 282), (0, x1), (0, x2), (0, y0), (9, 0)] [(0, 1)] h) rfl ?_
          simp only [c2, true_or, false_or, or_true, or_false, true_and, false_and, and_true, and_false, not_true_eq_false, not_false_eq_true, ne_eq, if_true, if_false, ↓reduceIte]
        · refine (if_neg c2).trans ?_
          refine (rn_iload_n (pc := 133) (dd bX13_makes dX13_makes_133) rfl).trans ?_
          refine (rn_bipush (pc := 134) (dd bX13_makes dX13_makes_134) (by decide)).trans ?_
          have e1 : vrun mX13_makes 136 [(1, 282), (0, x1), (0, x2), (0, y0), (9, 0)] [(0, 6), (0, x2)] h = vrun mX13_makes 144 [(1, 282), (0, x1), (0, x2), (0, y0), (9, 0)] [(0, (if ¬ (x2 < 6) then 1 else 0))] h := by
            refine (rn_icmp_lt (t := 143) (pc := 136) (dd bX13_makes dX13_makes_136) rfl).trans ?_
            by_cases c3 : x2 < 6
            · refine (if_pos c3).trans ?_
              refine (rn_iconst (pc := 143) (dd bX13_makes dX13_makes_143) (by decide)).trans ?_
              refine Eq.trans (b := vrun mX13_makes 144 [(1, 282), (0, x1), (0, x2), (0, y0), (9, 0)] [(0, 0)] h) rfl ?_
              simp only [c3, true_or, false_or, or_true, or_false, true_and, false_and, and_true, and_false, not_true_eq_false, not_false_eq_true, ne_eq, if_true, if_false, ↓reduceIte]
            · refine (if_neg c3).trans ?_
              refine (rn_iconst (pc := 139) (dd bX13_makes dX13_makes_139) (by decide)).trans ?_
              refine (rn_goto (t := 144) (pc := 140) (dd bX13_makes dX13_makes_140) rfl).trans ?_
              refine Eq.trans (b := vrun mX13_makes 144 [(1, 282), (0, x1), (0, x2), (0, y0), (9, 0)] [(0, 1)] h) rfl ?_
              simp only [c3, true_or, false_or, or_true, or_false, true_and, false_and, and_true, and_false, not_true_eq_false, not_false_eq_true, ne_eq, if_true, if_false, ↓reduceIte]
          refine e1.trans ?_
          refine Eq.trans (b := vrun mX13_makes 144 [(1, 282), (0, x1), (0, x2), (0, y0), (9, 0)] [(0, (if ¬ (x2 < 6) then 1 else 0))] h) rfl ?_
          simp only [c2, true_or, false_or, or_true, or_false, true_and, false_and, and_true, and_false, not_true_eq_false, not_false_eq_true, ne_eq, if_true, if_false, ↓reduceIte]
      refine e2.trans ?_
      refine Eq.trans (b := vrun mX13_makes 144 [(1, 282), (0, x1), (0, x2), (0, y0), (9, 0)] [(0, (if x2 = 3 ∨ ¬ (x2 < 6) then 1 else 0))] h) rfl ?_
      simp only [c1, true_or, false_or, or_true, or_false, true_and, false_and, and_true, and_false, not_true_eq_false, not_false_eq_true, ne_eq, if_true, if_false, ↓reduceIte]
  refine e3.trans ?_
  refine (rn_istore (pc := 144) (dd bX13_makes dX13_makes_144) (Nat.le_of_ble_eq_true rfl) rfl).trans ?_
  refine (rn_aload_n (pc := 146) (dd bX13_makes dX13_makes_146) rfl).trans ?_
  refine (rg_gf (pc := 147) (dd bX13_makes dX13_makes_147) (ci := 14) (j := 26) rfl rfl (key := 1526) rfl (kc := 34) rfl s1.1 s1.2.2.2.2.2.2.2.2.2.2.2.2.2.2.2.2.2.2.2.2.2.2.2.2.2.2.2.2.2.2.2.2.2.2.2.2.2.2.2.2.2.2.2.2.2.2.2.2.2.2.2.2.2.2.2.2.2.2.2.2.2.2.2.2.2.2.2.2.2.2.2.2.2.1).trans ?_
  refine (rn_iload_n (pc := 150) (dd bX13_makes dX13_makes_150) rfl).trans ?_
  refine (rn_iload (pc := 151) (dd bX13_makes dX13_makes_151) rfl).trans ?_
  refine (rg_beq (t := 165) (pc := 153) (dd bX13_makes dX13_makes_153) rfl).trans (itec (fun c4 => ?_) (fun c4 => ?_))
  · refine (rn_aload_n (pc := 156) (dd bX13_makes dX13_makes_156) rfl).trans ?_
    refine (rg_gf (pc := 157) (dd bX13_makes dX13_makes_157) (ci := 14) (j := 26) rfl rfl (key := 1526) rfl (kc := 34) rfl s1.1 s1.2.2.2.2.2.2.2.2.2.2.2.2.2.2.2.2.2.2.2.2.2.2.2.2.2.2.2.2.2.2.2.2.2.2.2.2.2.2.2.2.2.2.2.2.2.2.2.2.2.2.2.2.2.2.2.2.2.2.2.2.2.2.2.2.2.2.2.2.2.2.2.2.2.1).trans ?_
    refine (rn_iload_n (pc := 160) (dd bX13_makes dX13_makes_160) rfl).trans ?_
    refine (rg_iaload (pc := 161) (dd bX13_makes dX13_makes_161) s1.2.2.2.2.2.2.2.2.2.2.2.2.2.2.2.2.2.2.2.2.2.2.2.2.2.2.2.2.2.2.2.2.2.2.2.2.2.2.2.2.2.2.2.2.2.2.2.2.2.2.2.2.2.2.2.2.2.2.2.2.2.2.2.2.2.2.2.2.2.2.2.2.2.2.1 s1.2.2.2.2.2.2.2.2.2.2.2.2.2.2.2.2.2.2.2.2.2.2.2.2.2.2.2.2.2.2.2.2.2.2.2.2.2.2.2.2.2.2.2.2.2.2.2.2.2.2.2.2.2.2.2.2.2.2.2.2.2.2.2.2.2.2.2.2.2.2.2.2.2.2.2.1 (p2 c4) (p3 c4) rfl).trans ?_
    refine (rn_goto (t := 170) (pc := 162) (dd bX13_makes dX13_makes_162) rfl).trans ?_
    refine (rg_iastore (pc := 170) (dd bX13_makes dX13_makes_170) s1.2.2.2.2.2.2.2.2.2.2.2.2.2.2.2.2.2.2.2.2.2.2.2.2.2.2.2.2.2.2.2.2.2.2.2.2.2.2.2.2.2.2.2.2.2.2.2.2.2.2.2.2.2.2.2.2.2.2.2.2.2.2.2.2.2.2.2.2.2.2.2.2.2.2.1 s1.2.2.2.2.2.2.2.2.2.2.2.2.2.2.2.2.2.2.2.2.2.2.2.2.2.2.2.2.2.2.2.2.2.2.2.2.2.2.2.2.2.2.2.2.2.2.2.2.2.2.2.2.2.2.2.2.2.2.2.2.2.2.2.2.2.2.2.2.2.2.2.2.2.2.2.1 (by have z0 := p2 c4; have z1 := p3 c4; omega) (by have z0 := p2 c4; have z1 := p3 c4; omega)).trans ?_
    refine (rn_iload_n (pc := 171) (dd bX13_makes dX13_makes_171) rfl).trans ?_
    refine (rn_if_eq (t := 180) (pc := 172) (dd bX13_makes dX13_makes_172) rfl).trans (itec (fun c5 => ?_) (fun c5 => ?_))
    · refine (rn_iload_n (pc := 180) (dd bX13_makes dX13_makes_180) rfl).trans ?_
      exact rn_ireturn (pc := 181) (dd bX13_makes dX13_makes_181) (Or.inr ⟨rfl, (p4 c4 c5)⟩)
    · refine (rn_aload_n (pc := 175) (dd bX13_makes dX13_makes_175) rfl).trans ?_
      refine (rn_iload_n (pc := 176) (dd bX13_makes dX13_makes_176) rfl).trans ?_
      exact rg_virtual (pc := 177) (dd bX13_makes dX13_makes_177) rfl rfl (by decide) (kc := 34) rfl ((vup_k (by decide)).trans s1.1) (as := [(1, 282), (0, x1)]) rfl ⟨Nat.le_of_ble_eq_true rfl, Nat.le_of_ble_eq_true rfl, Nat.le_of_ble_eq_true rfl, Nat.le_of_ble_eq_true rfl⟩
  · refine (rn_aload_n (pc := 165) (dd bX13_makes dX13_makes_165) rfl).trans ?_
    refine (rn_iload_n (pc := 166) (dd bX13_makes dX13_makes_166) rfl).trans ?_
    exact rg_virtual (pc := 167) (dd bX13_makes dX13_makes_167) rfl rfl (by decide) (kc := 34) rfl s1.1 (as := [(1, 282), (0, x1)]) rfl ⟨Nat.le_of_ble_eq_true rfl, Nat.le_of_ble_eq_true rfl, Nat.le_of_ble_eq_true rfl, Nat.le_of_ble_eq_true rfl⟩
theorem rX13_makes_73 {x1 : Int} {x2 : Int} {y0 : Int} {h : vH} (s1 : shModel h) (p2 : x2 = 2 ∨ x2 = 3 ∨ ¬ (x2 < 6) → 0 ≤ x1) (p3 : x2 = 2 ∨ x2 = 3 ∨ ¬ (x2 < 6) → x1 < 4) (p4 : x2 = 2 ∨ x2 = 3 ∨ ¬ (x2 < 6) → y0 = 0 → y0 = 0 ∨ y0 = 1) : vrun mX13_makes 73 [(1, 282), (0, x1), (0, x2), (9, 0), (9, 0)] [(0, y0)] h = if x2 = 2 ∨ x2 = 3 ∨ ¬ (x2 < 6) then if y0 = 0 then some (.inl (some (0, y0)), vup h 2 307 x1 (h 2 307 x1)) else vret vrun mX13_makes 177 [(1, 282), (0, x1), (0, x2), (0, y0), (0, (if x2 = 2 ∨ x2 = 3 ∨ ¬ (x2 < 6) then 1 else 0))] [] (vcl mX13_looks [(1, 282), (0, x1)] (vup h 2 307 x1 (h 2 307 x1))) else vret vrun mX13_makes 167 [(1, 282), (0, x1), (0, x2), (0, y0), (0, (if x2 = 2 ∨ x2 = 3 ∨ ¬ (x2 < 6) then 1 else 0))] [(0, x1), (1, 307)] (vcl mX13_columnNow [(1, 282), (0, x1)] h) := by
  refine (rn_istore_n (pc := 73) (dd bX13_makes dX13_makes_73) (Nat.le_of_ble_eq_true rfl) rfl).trans ?_
  refine (rn_goto (t := 123) (pc := 74) (dd bX13_makes dX13_makes_74) rfl).trans ?_
  refine (rn_iload_n (pc := 123) (dd bX13_makes dX13_makes_123) rfl).trans ?_
  refine (rn_iconst (pc := 124) (dd bX13_makes dX13_makes_124) (by decide)).trans ?_
  have e3 : vrun mX13_makes 125 [(1, 282), (0, x1), (0, x2), (0, y0), (9, 0)] [(0, 2), (0, x2)] h = vrun mX13_makes 144 [(1, 282), (0, x1), (0, x2), (0, y0), (9, 0)] [(0, (if x2 = 2 ∨ x2 = 3 ∨ ¬ (x2 < 6) then 1 else 0))] h := by
    refine (rn_icmp_eq (t := 139) (pc := 125) (dd bX13_makes dX13_makes_125) rfl).trans ?_
    by_cases c1 : x2 = 2
    · refine (if_pos c1).trans ?_
      refine (rn_iconst (pc := 139) (dd bX13_makes dX13_makes_139) (by decide)).trans ?_
      refine (rn_goto (t := 144) (pc := 140) (dd bX13_makes dX13_makes_140) rfl).trans ?_
      refine Eq.trans (b := vrun mX13_makes 144 [(1, 282), (0, x1), (0, x2), (0, y0), (9, 0)] [(0, 1)] h) rfl ?_
      simp only [c1, true_or, false_or, or_true, or_false, true_and, false_and, and_true, and_false, not_true_eq_false, not_false_eq_true, ne_eq, if_true, if_false, ↓reduceIte]
    · refine (if_neg c1).trans ?_
      refine (rn_iload_n (pc := 128) (dd bX13_makes dX13_makes_128) rfl).trans ?_
      refine (rn_iconst (pc := 129) (dd bX13_makes dX13_makes_129) (by decide)).trans ?_
      have e2 : vrun mX13_makes 130 [(1, 282), (0, x1), (0, x2), (0, y0), (9, 0)] [(0, 3), (0, x2)] h = vrun mX13_makes 144 [(1, 282), (0, x1), (0, x2), (0, y0), (9, 0)] [(0, (if x2 = 3 ∨ ¬ (x2 < 6) then 1 else 0))] h := by
        refine (rn_icmp_eq (t := 139) (pc := 130) (dd bX13_makes dX13_makes_130) rfl).trans ?_
        by_cases c2 : x2 = 3
        · refine (if_pos c2).trans ?_
          refine (rn_iconst (pc := 139) (dd bX13_makes dX13_makes_139) (by decide)).trans ?_
          refine (rn_goto (t := 144) (pc := 140) (dd bX13_makes dX13_makes_140) rfl).trans ?_
          refine Eq.trans (b := vrun mX13_makes 144 [(1, 282), (0, x1), (0, x2), (0, y0), (9, 0)] [(0, 1)] h) rfl ?_
          simp only [c2, true_or, false_or, or_true, or_false, true_and, false_and, and_true, and_false, not_true_eq_false, not_false_eq_true, ne_eq, if_true, if_false, ↓reduceIte]
        · refine (if_neg c2).trans ?_
          refine (rn_iload_n (pc := 133) (dd bX13_makes dX13_makes_133) rfl).trans ?_
          refine (rn_bipush (pc := 134) (dd bX13_makes dX13_makes_134) (by decide)).trans ?_
          have e1 : vrun mX13_makes 136 [(1, 282), (0, x1), (0, x2), (0, y0), (9, 0)] [(0, 6), (0, x2)] h = vrun mX13_makes 144 [(1, 282), (0, x1), (0, x2), (0, y0), (9, 0)] [(0, (if ¬ (x2 < 6) then 1 else 0))] h := by
            refine (rn_icmp_lt (t := 143) (pc := 136) (dd bX13_makes dX13_makes_136) rfl).trans ?_
            by_cases c3 : x2 < 6
            · refine (if_pos c3).trans ?_
              refine (rn_iconst (pc := 143) (dd bX13_makes dX13_makes_143) (by decide)).trans ?_
              refine Eq.trans (b := vrun mX13_makes 144 [(1, 282), (0, x1), (0, x2), (0, y0), (9, 0)] [(0, 0)] h) rfl ?_
              simp only [c3, true_or, false_or, or_true, or_false, true_and, false_and, and_true, and_false, not_true_eq_false, not_false_eq_true, ne_eq, if_true, if_false, ↓reduceIte]
            · refine (if_neg c3).trans ?_
              refine (rn_iconst (pc := 139) (dd bX13_makes dX13_makes_139) (by decide)).trans ?_
              refine (rn_goto (t := 144) (pc := 140) (dd bX13_makes dX13_makes_140) rfl).trans ?_
              refine Eq.trans (b := vrun mX13_makes 144 [(1, 282), (0, x1), (0, x2), (0, y0), (9, 0)] [(0, 1)] h) rfl ?_
              simp only [c3, true_or, false_or, or_true, or_false, true_and, false_and, and_true, and_false, not_true_eq_false, not_false_eq_true, ne_eq, if_true, if_false, ↓reduceIte]
          refine e1.trans ?_
          refine Eq.trans (b := vrun mX13_makes 144 [(1, 282), (0, x1), (0, x2), (0, y0), (9, 0)] [(0, (if ¬ (x2 < 6) then 1 else 0))] h) rfl ?_
          simp only [c2, true_or, false_or, or_true, or_false, true_and, false_and, and_true, and_false, not_true_eq_false, not_false_eq_true, ne_eq, if_true, if_false, ↓reduceIte]
      refine e2.trans ?_
      refine Eq.trans (b := vrun mX13_makes 144 [(1, 282), (0, x1), (0, x2), (0, y0), (9, 0)] [(0, (if x2 = 3 ∨ ¬ (x2 < 6) then 1 else 0))] h) rfl ?_
      simp only [c1, true_or, false_or, or_true, or_false, true_and, false_and, and_true, and_false, not_true_eq_false, not_false_eq_true, ne_eq, if_true, if_false, ↓reduceIte]
  refine e3.trans ?_
  refine (rn_istore (pc := 144) (dd bX13_makes dX13_makes_144) (Nat.le_of_ble_eq_true rfl) rfl).trans ?_
  refine (rn_aload_n (pc := 146) (dd bX13_makes dX13_makes_146) rfl).trans ?_
  refine (rg_gf (pc := 147) (dd bX13_makes dX13_makes_147) (ci := 14) (j := 26) rfl rfl (key := 1526) rfl (kc := 34) rfl s1.1 s1.2.2.2.2.2.2.2.2.2.2.2.2.2.2.2.2.2.2.2.2.2.2.2.2.2.2.2.2.2.2.2.2.2.2.2.2.2.2.2.2.2.2.2.2.2.2.2.2.2.2.2.2.2.2.2.2.2.2.2.2.2.2.2.2.2.2.2.2.2.2.2.2.2.1).trans ?_
  refine (rn_iload_n (pc := 150) (dd bX13_makes dX13_makes_150) rfl).trans ?_
  refine (rn_iload (pc := 151) (dd bX13_makes dX13_makes_151) rfl).trans ?_
  refine (rg_beq (t := 165) (pc := 153) (dd bX13_makes dX13_makes_153) rfl).trans (itec (fun c4 => ?_) (fun c4 => ?_))
  · refine (rn_aload_n (pc := 156) (dd bX13_makes dX13_makes_156) rfl).trans ?_
    refine (rg_gf (pc := 157) (dd bX13_makes dX13_makes_157) (ci := 14) (j := 26) rfl rfl (key := 1526) rfl (kc := 34) rfl s1.1 s1.2.2.2.2.2.2.2.2.2.2.2.2.2.2.2.2.2.2.2.2.2.2.2.2.2.2.2.2.2.2.2.2.2.2.2.2.2.2.2.2.2.2.2.2.2.2.2.2.2.2.2.2.2.2.2.2.2.2.2.2.2.2.2.2.2.2.2.2.2.2.2.2.2.1).trans ?_
    refine (rn_iload_n (pc := 160) (dd bX13_makes dX13_makes_160) rfl).trans ?_
    refine (rg_iaload (pc := 161) (dd bX13_makes dX13_makes_161) s1.2.2.2.2.2.2.2.2.2.2.2.2.2.2.2.2.2.2.2.2.2.2.2.2.2.2.2.2.2.2.2.2.2.2.2.2.2.2.2.2.2.2.2.2.2.2.2.2.2.2.2.2.2.2.2.2.2.2.2.2.2.2.2.2.2.2.2.2.2.2.2.2.2.2.1 s1.2.2.2.2.2.2.2.2.2.2.2.2.2.2.2.2.2.2.2.2.2.2.2.2.2.2.2.2.2.2.2.2.2.2.2.2.2.2.2.2.2.2.2.2.2.2.2.2.2.2.2.2.2.2.2.2.2.2.2.2.2.2.2.2.2.2.2.2.2.2.2.2.2.2.2.1 (p2 c4) (p3 c4) rfl).trans ?_
    refine (rn_goto (t := 170) (pc := 162) (dd bX13_makes dX13_makes_162) rfl).trans ?_
    refine (rg_iastore (pc := 170) (dd bX13_makes dX13_makes_170) s1.2.2.2.2.2.2.2.2.2.2.2.2.2.2.2.2.2.2.2.2.2.2.2.2.2.2.2.2.2.2.2.2.2.2.2.2.2.2.2.2.2.2.2.2.2.2.2.2.2.2.2.2.2.2.2.2.2.2.2.2.2.2.2.2.2.2.2.2.2.2.2.2.2.2.1 s1.2.2.2.2.2.2.2.2.2.2.2.2.2.2.2.2.2.2.2.2.2.2.2.2.2.2.2.2.2.2.2.2.2.2.2.2.2.2.2.2.2.2.2.2.2.2.2.2.2.2.2.2.2.2.2.2.2.2.2.2.2.2.2.2.2.2.2.2.2.2.2.2.2.2.2.1 (by have z0 := p2 c4; have z1 := p3 c4; omega) (by have z0 := p2 c4; have z1 := p3 c4; omega)).trans ?_
    refine (rn_iload_n (pc := 171) (dd bX13_makes dX13_makes_171) rfl).trans ?_
    refine (rn_if_eq (t := 180) (pc := 172) (dd bX13_makes dX13_makes_172) rfl).trans (itec (fun c5 => ?_) (fun c5 => ?_))
    · refine (rn_iload_n (pc := 180) (dd bX13_makes dX13_makes_180) rfl).trans ?_
      exact rn_ireturn (pc := 181) (dd bX13_makes dX13_makes_181) (Or.inr ⟨rfl, (p4 c4 c5)⟩)
    · refine (rn_aload_n (pc := 175) (dd bX13_makes dX13_makes_175) rfl).trans ?_
      refine (rn_iload_n (pc := 176) (dd bX13_makes dX13_makes_176) rfl).trans ?_
      exact rg_virtual (pc := 177) (dd bX13_makes dX13_makes_177) rfl rfl (by decide) (kc := 34) rfl ((vup_k (by decide)).trans s1.1) (as := [(1, 282), (0, x1)]) rfl ⟨Nat.le_of_ble_eq_true rfl, Nat.le_of_ble_eq_true rfl, Nat.le_of_ble_eq_true rfl, Nat.le_of_ble_eq_true rfl⟩
  · refine (rn_aload_n (pc := 165) (dd bX13_makes dX13_makes_165) rfl).trans ?_
    refine (rn_iload_n (pc := 166) (dd bX13_makes dX13_makes_166) rfl).trans ?_
    exact rg_virtual (pc := 167) (dd bX13_makes dX13_makes_167) rfl rfl (by decide) (kc := 34) rfl s1.1 (as := [(1, 282), (0, x1)]) rfl ⟨Nat.le_of_ble_eq_true rfl, Nat.le_of_ble_eq_true rfl, Nat.le_of_ble_eq_true rfl, Nat.le_of_ble_eq_true rfl⟩
theorem rX13_makes_82 {x1 : Int} {x2 : Int} {y0 : Int} {h : vH} (s1 : shModel h) (p2 : x2 = 2 ∨ x2 = 3 ∨ ¬ (x2 < 6) → 0 ≤ x1) (p3 : x2 = 2 ∨ x2 = 3 ∨ ¬ (x2 < 6) → x1 < 4) (p4 : x2 = 2 ∨ x2 = 3 ∨ ¬ (x2 < 6) → y0 = 0 → y0 = 0 ∨ y0 = 1) : vrun mX13_makes 82 [(1, 282), (0, x1), (0, x2), (9, 0), (9, 0)] [(0, y0)] h = if x2 = 2 ∨ x2 = 3 ∨ ¬ (x2 < 6) then if y0 = 0 then some (.inl (some (0, y0)), vup h 2 307 x1 (h 2 307 x1)) else vret vrun mX13_makes 177 [(1, 282), (0, x1), (0, x2), (0, y0), (0, (if x2 = 2 ∨ x2 = 3 ∨ ¬ (x2 < 6) then 1 else 0))] [] (vcl mX13_looks [(1, 282), (0, x1)] (vup h 2 307 x1 (h 2 307 x1))) else vret vrun mX13_makes 167 [(1, 282), (0, x1), (0, x2), (0, y0), (0, (if x2 = 2 ∨ x2 = 3 ∨ ¬ (x2 < 6) then 1 else 0))] [(0, x1), (1, 307)] (vcl mX13_columnNow [(1, 282), (0, x1)] h) := by
  refine (rn_istore_n (pc := 82) (dd bX13_makes dX13_makes_82) (Nat.le_of_ble_eq_true rfl) rfl).trans ?_
  refine (rn_goto (t := 123) (pc := 83) (dd bX13_makes dX13_makes_83) rfl).trans ?_
  refine (rn_iload_n (pc := 123) (dd bX13_makes dX13_makes_123) rfl).trans ?_
  refine (rn_iconst (pc := 124) (dd bX13_makes dX13_makes_124) (by decide)).trans ?_
  have e3 : vrun mX13_makes 125 [(1, 282), (0, x1), (0, x2), (0, y0), (9, 0)] [(0, 2), (0, x2)] h = vrun mX13_makes 144 [(1, 282), (0, x1), (0, x2), (0, y0), (9, 0)] [(0, (if x2 = 2 ∨ x2 = 3 ∨ ¬ (x2 < 6) then 1 else 0))] h := by
    refine (rn_icmp_eq (t := 139) (pc := 125) (dd bX13_makes dX13_makes_125) rfl).trans ?_
    by_cases c1 : x2 = 2
    · refine (if_pos c1).trans ?_
      refine (rn_iconst (pc := 139) (dd bX13_makes dX13_makes_139) (by decide)).trans ?_
      refine (rn_goto (t := 144) (pc := 140) (dd bX13_makes dX13_makes_140) rfl).trans ?_
      refine Eq.trans (b := vrun mX13_makes 144 [(1, 282), (0, x1), (0, x2), (0, y0), (9, 0)] [(0, 1)] h) rfl ?_
      simp only [c1, true_or, false_or, or_true, or_false, true_and, false_and, and_true, and_false, not_true_eq_false, not_false_eq_true, ne_eq, if_true, if_false, ↓reduceIte]
    · refine (if_neg c1).trans ?_
      refine (rn_iload_n (pc := 128) (dd bX13_makes dX13_makes_128) rfl).trans ?_
      refine (rn_iconst (pc := 129) (dd bX13_makes dX13_makes_129) (by decide)).trans ?_
      have e2 : vrun mX13_makes 130 [(1, 282), (0, x1), (0, x2), (0, y0), (9, 0)] [(0, 3), (0, x2)] h = vrun mX13_makes 144 [(1, 282), (0, x1), (0, x2), (0, y0), (9, 0)] [(0, (if x2 = 3 ∨ ¬ (x2 < 6) then 1 else 0))] h := by
        refine (rn_icmp_eq (t := 139) (pc := 130) (dd bX13_makes dX13_makes_130) rfl).trans ?_
        by_cases c2 : x2 = 3
        · refine (if_pos c2).trans ?_
          refine (rn_iconst (pc := 139) (dd bX13_makes dX13_makes_139) (by decide)).trans ?_
          refine (rn_goto (t := 144) (pc := 140) (dd bX13_makes dX13_makes_140) rfl).trans ?_
          refine Eq.trans (b := vrun mX13_makes 144 [(1, 282), (0, x1), (0, x2), (0, y0), (9, 0)] [(0, 1)] h) rfl ?_
          simp only [c2, true_or, false_or, or_true, or_false, true_and, false_and, and_true, and_false, not_true_eq_false, not_false_eq_true, ne_eq, if_true, if_false, ↓reduceIte]
        · refine (if_neg c2).trans ?_
          refine (rn_iload_n (pc := 133) (dd bX13_makes dX13_makes_133) rfl).trans ?_
          refine (rn_bipush (pc := 134) (dd bX13_makes dX13_makes_134) (by decide)).trans ?_
          have e1 : vrun mX13_makes 136 [(1, 282), (0, x1), (0, x2), (0, y0), (9, 0)] [(0, 6), (0, x2)] h = vrun mX13_makes 144 [(1, 282), (0, x1), (0, x2), (0, y0), (9, 0)] [(0, (if ¬ (x2 < 6) then 1 else 0))] h := by
            refine (rn_icmp_lt (t := 143) (pc := 136) (dd bX13_makes dX13_makes_136) rfl).trans ?_
            by_cases c3 : x2 < 6
            · refine (if_pos c3).trans ?_
              refine (rn_iconst (pc := 143) (dd bX13_makes dX13_makes_143) (by decide)).trans ?_
              refine Eq.trans (b := vrun mX13_makes 144 [(1, 282), (0, x1), (0, x2), (0, y0), (9, 0)] [(0, 0)] h) rfl ?_
              simp only [c3, true_or, false_or, or_true, or_false, true_and, false_and, and_true, and_false, not_true_eq_false, not_false_eq_true, ne_eq, if_true, if_false, ↓reduceIte]
            · refine (if_neg c3).trans ?_
              refine (rn_iconst (pc := 139) (dd bX13_makes dX13_makes_139) (by decide)).trans ?_
              refine (rn_goto (t := 144) (pc := 140) (dd bX13_makes dX13_makes_140) rfl).trans ?_
              refine Eq.trans (b := vrun mX13_makes 144 [(1, 282), (0, x1), (0, x2), (0, y0), (9, 0)] [(0, 1)] h) rfl ?_
              simp only [c3, true_or, false_or, or_true, or_false, true_and, false_and, and_true, and_false, not_true_eq_false, not_false_eq_true, ne_eq, if_true, if_false, ↓reduceIte]
          refine e1.trans ?_
          refine Eq.trans (b := vrun mX13_makes 144 [(1, 282), (0, x1), (0, x2), (0, y0), (9, 0)] [(0, (if ¬ (x2 < 6) then 1 else 0))] h) rfl ?_
          simp only [c2, true_or, false_or, or_true, or_false, true_and, false_and, and_true, and_false, not_true_eq_false, not_false_eq_true, ne_eq, if_true, if_false, ↓reduceIte]
      refine e2.trans ?_
      refine Eq.trans (b := vrun mX13_makes 144 [(1, 282), (0, x1), (0, x2), (0, y0), (9, 0)] [(0, (if x2 = 3 ∨ ¬ (x2 < 6) then 1 else 0))] h) rfl ?_
      simp only [c1, true_or, false_or, or_true, or_false, true_and, false_and, and_true, and_false, not_true_eq_false, not_false_eq_true, ne_eq, if_true, if_false, ↓reduceIte]
  refine e3.trans ?_
  refine (rn_istore (pc := 144) (dd bX13_makes dX13_makes_144) (Nat.le_of_ble_eq_true rfl) rfl).trans ?_
  refine (rn_aload_n (pc := 146) (dd bX13_makes dX13_makes_146) rfl).trans ?_
  refine (rg_gf (pc := 147) (dd bX13_makes dX13_makes_147) (ci := 14) (j := 26) rfl rfl (key := 1526) rfl (kc := 34) rfl s1.1 s1.2.2.2.2.2.2.2.2.2.2.2.2.2.2.2.2.2.2.2.2.2.2.2.2.2.2.2.2.2.2.2.2.2.2.2.2.2.2.2.2.2.2.2.2.2.2.2.2.2.2.2.2.2.2.2.2.2.2.2.2.2.2.2.2.2.2.2.2.2.2.2.2.2.1).trans ?_
  refine (rn_iload_n (pc := 150) (dd bX13_makes dX13_makes_150) rfl).trans ?_
  refine (rn_iload (pc := 151) (dd bX13_makes dX13_makes_151) rfl).trans ?_
  refine (rg_beq (t := 165) (pc := 153) (dd bX13_makes dX13_makes_153) rfl).trans (itec (fun c4 => ?_) (fun c4 => ?_))
  · refine (rn_aload_n (pc := 156) (dd bX13_makes dX13_makes_156) rfl).trans ?_
    refine (rg_gf (pc := 157) (dd bX13_makes dX13_makes_157) (ci := 14) (j := 26) rfl rfl (key := 1526) rfl (kc := 34) rfl s1.1 s1.2.2.2.2.2.2.2.2.2.2.2.2.2.2.2.2.2.2.2.2.2.2.2.2.2.2.2.2.2.2.2.2.2.2.2.2.2.2.2.2.2.2.2.2.2.2.2.2.2.2.2.2.2.2.2.2.2.2.2.2.2.2.2.2.2.2.2.2.2.2.2.2.2.1).trans ?_
    refine (rn_iload_n (pc := 160) (dd bX13_makes dX13_makes_160) rfl).trans ?_
    refine (rg_iaload (pc := 161) (dd bX13_makes dX13_makes_161) s1.2.2.2.2.2.2.2.2.2.2.2.2.2.2.2.2.2.2.2.2.2.2.2.2.2.2.2.2.2.2.2.2.2.2.2.2.2.2.2.2.2.2.2.2.2.2.2.2.2.2.2.2.2.2.2.2.2.2.2.2.2.2.2.2.2.2.2.2.2.2.2.2.2.2.1 s1.2.2.2.2.2.2.2.2.2.2.2.2.2.2.2.2.2.2.2.2.2.2.2.2.2.2.2.2.2.2.2.2.2.2.2.2.2.2.2.2.2.2.2.2.2.2.2.2.2.2.2.2.2.2.2.2.2.2.2.2.2.2.2.2.2.2.2.2.2.2.2.2.2.2.2.1 (p2 c4) (p3 c4) rfl).trans ?_
    refine (rn_goto (t := 170) (pc := 162) (dd bX13_makes dX13_makes_162) rfl).trans ?_
    refine (rg_iastore (pc := 170) (dd bX13_makes dX13_makes_170) s1.2.2.2.2.2.2.2.2.2.2.2.2.2.2.2.2.2.2.2.2.2.2.2.2.2.2.2.2.2.2.2.2.2.2.2.2.2.2.2.2.2.2.2.2.2.2.2.2.2.2.2.2.2.2.2.2.2.2.2.2.2.2.2.2.2.2.2.2.2.2.2.2.2.2.1 s1.2.2.2.2.2.2.2.2.2.2.2.2.2.2.2.2.2.2.2.2.2.2.2.2.2.2.2.2.2.2.2.2.2.2.2.2.2.2.2.2.2.2.2.2.2.2.2.2.2.2.2.2.2.2.2.2.2.2.2.2.2.2.2.2.2.2.2.2.2.2.2.2.2.2.2.1 (by have z0 := p2 c4; have z1 := p3 c4; omega) (by have z0 := p2 c4; have z1 := p3 c4; omega)).trans ?_
    refine (rn_iload_n (pc := 171) (dd bX13_makes dX13_makes_171) rfl).trans ?_
    refine (rn_if_eq (t := 180) (pc := 172) (dd bX13_makes dX13_makes_172) rfl).trans (itec (fun c5 => ?_) (fun c5 => ?_))
    · refine (rn_iload_n (pc := 180) (dd bX13_makes dX13_makes_180) rfl).trans ?_
      exact rn_ireturn (pc := 181) (dd bX13_makes dX13_makes_181) (Or.inr ⟨rfl, (p4 c4 c5)⟩)
    · refine (rn_aload_n (pc := 175) (dd bX13_makes dX13_makes_175) rfl).trans ?_
      refine (rn_iload_n (pc := 176) (dd bX13_makes dX13_makes_176) rfl).trans ?_
      exact rg_virtual (pc := 177) (dd bX13_makes dX13_makes_177) rfl rfl (by decide) (kc := 34) rfl ((vup_k (by decide)).trans s1.1) (as := [(1, 282), (0, x1)]) rfl ⟨Nat.le_of_ble_eq_true rfl, Nat.le_of_ble_eq_true rfl, Nat.le_of_ble_eq_true rfl, Nat.le_of_ble_eq_true rfl⟩
  · refine (rn_aload_n (pc := 165) (dd bX13_makes dX13_makes_165) rfl).trans ?_
    refine (rn_iload_n (pc := 166) (dd bX13_makes dX13_makes_166) rfl).trans ?_
    exact rg_virtual (pc := 167) (dd bX13_makes dX13_makes_167) rfl rfl (by decide) (kc := 34) rfl s1.1 (as := [(1, 282), (0, x1)]) rfl ⟨Nat.le_of_ble_eq_true rfl, Nat.le_of_ble_eq_true rfl, Nat.le_of_ble_eq_true rfl, Nat.le_of_ble_eq_true rfl⟩
theorem rX13_makes_91 {x1 : Int} {x2 : Int} {y0 : Int} {h : vH} (s1 : shModel h) (p2 : x2 = 2 ∨ x2 = 3 ∨ ¬ (x2 < 6) → 0 ≤ x1) (p3 : x2 = 2 ∨ x2 = 3 ∨ ¬ (x2 < 6) → x1 < 4) (p4 : x2 = 2 ∨ x2 = 3 ∨ ¬ (x2 < 6) → y0 = 0 → y0 = 0 ∨ y0 = 1) : vrun mX13_makes 91 [(1, 282), (0, x1), (0, x2), (9, 0), (9, 0)] [(0, y0)] h = if x2 = 2 ∨ x2 = 3 ∨ ¬ (x2 < 6) then if y0 = 0 then some (.inl (some (0, y0)), vup h 2 307 x1 (h 2 307 x1)) else vret vrun mX13_makes 177 [(1, 282), (0, x1), (0, x2), (0, y0), (0, (if x2 = 2 ∨ x2 = 3 ∨ ¬ (x2 < 6) then 1 else 0))] [] (vcl mX13_looks [(1, 282), (0, x1)] (vup h 2 307 x1 (h 2 307 x1))) else vret vrun mX13_makes 167 [(1, 282), (0, x1), (0, x2), (0, y0), (0, (if x2 = 2 ∨ x2 = 3 ∨ ¬ (x2 < 6) then 1 else 0))] [(0, x1), (1, 307)] (vcl mX13_columnNow [(1, 282), (0, x1)] h) := by
  refine (rn_istore_n (pc := 91) (dd bX13_makes dX13_makes_91) (Nat.le_of_ble_eq_true rfl) rfl).trans ?_
  refine (rn_goto (t := 123) (pc := 92) (dd bX13_makes dX13_makes_92) rfl).trans ?_
  refine (rn_iload_n (pc := 123) (dd bX13_makes dX13_makes_123) rfl).trans ?_
  refine (rn_iconst (pc := 124) (dd bX13_makes dX13_makes_124) (by decide)).trans ?_
  have e3 : vrun mX13_makes 125 [(1, 282), (0, x1), (0, x2), (0, y0), (9, 0)] [(0, 2), (0, x2)] h = vrun mX13_makes 144 [(1, 282), (0, x1), (0, x2), (0, y0), (9, 0)] [(0, (if x2 = 2 ∨ x2 = 3 ∨ ¬ (x2 < 6) then 1 else 0))] h := by
    refine (rn_icmp_eq (t := 139) (pc := 125) (dd bX13_makes dX13_makes_125) rfl).trans ?_
    by_cases c1 : x2 = 2
    · refine (if_pos c1).trans ?_
      refine (rn_iconst (pc := 139) (dd bX13_makes dX13_makes_139) (by decide)).trans ?_
      refine (rn_goto (t := 144) (pc := 140) (dd bX13_makes dX13_makes_140) rfl).trans ?_
      refine Eq.trans (b := vrun mX13_makes 144 [(1, 282), (0, x1), (0, x2), (0, y0), (9, 0)] [(0, 1)] h) rfl ?_
      simp only [c1, true_or, false_or, or_true, or_false, true_and, false_and, and_true, and_false, not_true_eq_false, not_false_eq_true, ne_eq, if_true, if_false, ↓reduceIte]
    · refine (if_neg c1).trans ?_
      refine (rn_iload_n (pc := 128) (dd bX13_makes dX13_makes_128) rfl).trans ?_
      refine (rn_iconst (pc := 129) (dd bX13_makes dX13_makes_129) (by decide)).trans ?_
      have e2 : vrun mX13_makes 130 [(1, 282), (0, x1), (0, x2), (0, y0), (9, 0)] [(0, 3), (0, x2)] h = vrun mX13_makes 144 [(1, 282), (0, x1), (0, x2), (0, y0), (9, 0)] [(0, (if x2 = 3 ∨ ¬ (x2 < 6) then 1 else 0))] h := by
        refine (rn_icmp_eq (t := 139) (pc := 130) (dd bX13_makes dX13_makes_130) rfl).trans ?_
        by_cases c2 : x2 = 3
        · refine (if_pos c2).trans ?_
          refine (rn_iconst (pc := 139) (dd bX13_makes dX13_makes_139) (by decide)).trans ?_
          refine (rn_goto (t := 144) (pc := 140) (dd bX13_makes dX13_makes_140) rfl).trans ?_
          refine Eq.trans (b := vrun mX13_makes 144 [(1, 282), (0, x1), (0, x2), (0, y0), (9, 0)] [(0, 1)] h) rfl ?_
          simp only [c2, true_or, false_or, or_true, or_false, true_and, false_and, and_true, and_false, not_true_eq_false, not_false_eq_true, ne_eq, if_true, if_false, ↓reduceIte]
        · refine (if_neg c2).trans ?_
          refine (rn_iload_n (pc := 133) (dd bX13_makes dX13_makes_133) rfl).trans ?_
          refine (rn_bipush (pc := 134) (dd bX13_makes dX13_makes_134) (by decide)).trans ?_
          have e1 : vrun mX13_makes 136 [(1, 282), (0, x1), (0, x2), (0, y0), (9, 0)] [(0, 6), (0, x2)] h = vrun mX13_makes 144 [(1, 282), (0, x1), (0, x2), (0, y0), (9, 0)] [(0, (if ¬ (x2 < 6) then 1 else 0))] h := by
            refine (rn_icmp_lt (t := 143) (pc := 136) (dd bX13_makes dX13_makes_136) rfl).trans ?_
            by_cases c3 : x2 < 6
            · refine (if_pos c3).trans ?_
              refine (rn_iconst (pc := 143) (dd bX13_makes dX13_makes_143) (by decide)).trans ?_
              refine Eq.trans (b := vrun mX13_makes 144 [(1, 282), (0, x1), (0, x2), (0, y0), (9, 0)] [(0, 0)] h) rfl ?_
              simp only [c3, true_or, false_or, or_true, or_false, true_and, false_and, and_true, and_false, not_true_eq_false, not_false_eq_true, ne_eq, if_true, if_false, ↓reduceIte]
            · refine (if_neg c3).trans ?_
              refine (rn_iconst (pc := 139) (dd bX13_makes dX13_makes_139) (by decide)).trans ?_
              refine (rn_goto (t := 144) (pc := 140) (dd bX13_makes dX13_makes_140) rfl).trans ?_
              refine Eq.trans (b := vrun mX13_makes 144 [(1, 282), (0, x1), (0, x2), (0, y0), (9, 0)] [(0, 1)] h) rfl ?_
              simp only [c3, true_or, false_or, or_true, or_false, true_and, false_and, and_true, and_false, not_true_eq_false, not_false_eq_true, ne_eq, if_true, if_false, ↓reduceIte]
          refine e1.trans ?_
          refine Eq.trans (b := vrun mX13_makes 144 [(1, 282), (0, x1), (0, x2), (0, y0), (9, 0)] [(0, (if ¬ (x2 < 6) then 1 else 0))] h) rfl ?_
          simp only [c2, true_or, false_or, or_true, or_false, true_and, false_and, and_true, and_false, not_true_eq_false, not_false_eq_true, ne_eq, if_true, if_false, ↓reduceIte]
      refine e2.trans ?_
      refine Eq.trans (b := vrun mX13_makes 144 [(1, 282), (0, x1), (0, x2), (0, y0), (9, 0)] [(0, (if x2 = 3 ∨ ¬ (x2 < 6) then 1 else 0))] h) rfl ?_
      simp only [c1, true_or, false_or, or_true, or_false, true_and, false_and, and_true, and_false, not_true_eq_false, not_false_eq_true, ne_eq, if_true, if_false, ↓reduceIte]
  refine e3.trans ?_
  refine (rn_istore (pc := 144) (dd bX13_makes dX13_makes_144) (Nat.le_of_ble_eq_true rfl) rfl).trans ?_
  refine (rn_aload_n (pc := 146) (dd bX13_makes dX13_makes_146) rfl).trans ?_
  refine (rg_gf (pc := 147) (dd bX13_makes dX13_makes_147) (ci := 14) (j := 26) rfl rfl (key := 1526) rfl (kc := 34) rfl s1.1 s1.2.2.2.2.2.2.2.2.2.2.2.2.2.2.2.2.2.2.2.2.2.2.2.2.2.2.2.2.2.2.2.2.2.2.2.2.2.2.2.2.2.2.2.2.2.2.2.2.2.2.2.2.2.2.2.2.2.2.2.2.2.2.2.2.2.2.2.2.2.2.2.2.2.1).trans ?_
  refine (rn_iload_n (pc := 150) (dd bX13_makes dX13_makes_150) rfl).trans ?_
  refine (rn_iload (pc := 151) (dd bX13_makes dX13_makes_151) rfl).trans ?_
  refine (rg_beq (t := 165) (pc := 153) (dd bX13_makes dX13_makes_153) rfl).trans (itec (fun c4 => ?_) (fun c4 => ?_))
  · refine (rn_aload_n (pc := 156) (dd bX13_makes dX13_makes_156) rfl).trans ?_
    refine (rg_gf (pc := 157) (dd bX13_makes dX13_makes_157) (ci := 14) (j := 26) rfl rfl (key := 1526) rfl (kc := 34) rfl s1.1 s1.2.2.2.2.2.2.2.2.2.2.2.2.2.2.2.2.2.2.2.2.2.2.2.2.2.2.2.2.2.2.2.2.2.2.2.2.2.2.2.2.2.2.2.2.2.2.2.2.2.2.2.2.2.2.2.2.2.2.2.2.2.2.2.2.2.2.2.2.2.2.2.2.2.1).trans ?_
    refine (rn_iload_n (pc := 160) (dd bX13_makes dX13_makes_160) rfl).trans ?_
    refine (rg_iaload (pc := 161) (dd bX13_makes dX13_makes_161) s1.2.2.2.2.2.2.2.2.2.2.2.2.2.2.2.2.2.2.2.2.2.2.2.2.2.2.2.2.2.2.2.2.2.2.2.2.2.2.2.2.2.2.2.2.2.2.2.2.2.2.2.2.2.2.2.2.2.2.2.2.2.2.2.2.2.2.2.2.2.2.2.2.2.2.1 s1.2.2.2.2.2.2.2.2.2.2.2.2.2.2.2.2.2.2.2.2.2.2.2.2.2.2.2.2.2.2.2.2.2.2.2.2.2.2.2.2.2.2.2.2.2.2.2.2.2.2.2.2.2.2.2.2.2.2.2.2.2.2.2.2.2.2.2.2.2.2.2.2.2.2.2.1 (p2 c4) (p3 c4) rfl).trans ?_
    refine (rn_goto (t := 170) (pc := 162) (dd bX13_makes dX13_makes_162) rfl).trans ?_
    refine (rg_iastore (pc := 170) (dd bX13_makes dX13_makes_170) s1.2.2.2.2.2.2.2.2.2.2.2.2.2.2.2.2.2.2.2.2.2.2.2.2.2.2.2.2.2.2.2.2.2.2.2.2.2.2.2.2.2.2.2.2.2.2.2.2.2.2.2.2.2.2.2.2.2.2.2.2.2.2.2.2.2.2.2.2.2.2.2.2.2.2.1 s1.2.2.2.2.2.2.2.2.2.2.2.2.2.2.2.2.2.2.2.2.2.2.2.2.2.2.2.2.2.2.2.2.2.2.2.2.2.2.2.2.2.2.2.2.2.2.2.2.2.2.2.2.2.2.2.2.2.2.2.2.2.2.2.2.2.2.2.2.2.2.2.2.2.2.2.1 (by have z0 := p2 c4; have z1 := p3 c4; omega) (by have z0 := p2 c4; have z1 := p3 c4; omega)).trans ?_
    refine (rn_iload_n (pc := 171) (dd bX13_makes dX13_makes_171) rfl).trans ?_
    refine (rn_if_eq (t := 180) (pc := 172) (dd bX13_makes dX13_makes_172) rfl).trans (itec (fun c5 => ?_) (fun c5 => ?_))
    · refine (rn_iload_n (pc := 180) (dd bX13_makes dX13_makes_180) rfl).trans ?_
      exact rn_ireturn (pc := 181) (dd bX13_makes dX13_makes_181) (Or.inr ⟨rfl, (p4 c4 c5)⟩)
    · refine (rn_aload_n (pc := 175) (dd bX13_makes dX13_makes_175) rfl).trans ?_
      refine (rn_iload_n (pc := 176) (dd bX13_makes dX13_makes_176) rfl).trans ?_
      exact rg_virtual (pc := 177) (dd bX13_makes dX13_makes_177) rfl rfl (by decide) (kc := 34) rfl ((vup_k (by decide)).trans s1.1) (as := [(1, 282), (0, x1)]) rfl ⟨Nat.le_of_ble_eq_true rfl, Nat.le_of_ble_eq_true rfl, Nat.le_of_ble_eq_true rfl, Nat.le_of_ble_eq_true rfl⟩
  · refine (rn_aload_n (pc := 165) (dd bX13_makes dX13_makes_165) rfl).trans ?_
    refine (rn_iload_n (pc := 166) (dd bX13_makes dX13_makes_166) rfl).trans ?_
    exact rg_virtual (pc := 167) (dd bX13_makes dX13_makes_167) rfl rfl (by decide) (kc := 34) rfl s1.1 (as := [(1, 282), (0, x1)]) rfl ⟨Nat.le_of_ble_eq_true rfl, Nat.le_of_ble_eq_true rfl, Nat.le_of_ble_eq_true rfl, Nat.le_of_ble_eq_true rfl⟩
theorem rX13_makes_122 {x1 : Int} {x2 : Int} {y0 : Int} {h : vH} (s1 : shModel h) (p2 : x2 = 2 ∨ x2 = 3 ∨ ¬ (x2 < 6) → 0 ≤ x1) (p3 : x2 = 2 ∨ x2 = 3 ∨ ¬ (x2 < 6) → x1 < 4) (p4 : x2 = 2 ∨ x2 = 3 ∨ ¬ (x2 < 6) → y0 = 0 → y0 = 0 ∨ y0 = 1) : vrun mX13_makes 122 [(1, 282), (0, x1), (0, x2), (9, 0), (9, 0)] [(0, y0)] h = if x2 = 2 ∨ x2 = 3 ∨ ¬ (x2 < 6) then if y0 = 0 then some (.inl (some (0, y0)), vup h 2 307 x1 (h 2 307 x1)) else vret vrun mX13_makes 177 [(1, 282), (0, x1), (0, x2), (0, y0), (0, (if x2 = 2 ∨ x2 = 3 ∨ ¬ (x2 < 6) then 1 else 0))] [] (vcl mX13_looks [(1, 282), (0, x1)] (vup h 2 307 x1 (h 2 307 x1))) else vret vrun mX13_makes 167 [(1, 282), (0, x1), (0, x2), (0, y0), (0, (if x2 = 2 ∨ x2 = 3 ∨ ¬ (x2 < 6) then 1 else 0))] [(0, x1), (1, 307)] (vcl mX13_columnNow [(1, 282), (0, x1)] h) := by
  refine (rn_istore_n (pc := 122) (dd bX13_makes dX13_makes_122) (Nat.le_of_ble_eq_true rfl) rfl).trans ?_
  refine (rn_iload_n (pc := 123) (dd bX13_makes dX13_makes_123) rfl).trans ?_
  refine (rn_iconst (pc := 124) (dd bX13_makes dX13_makes_124) (by decide)).trans ?_
  have e3 : vrun mX13_makes 125 [(1, 282), (0, x1), (0, x2), (0, y0), (9, 0)] [(0, 2), (0, x2)] h = vrun mX13_makes 144 [(1, 282), (0, x1), (0, x2), (0, y0), (9, 0)] [(0, (if x2 = 2 ∨ x2 = 3 ∨ ¬ (x2 < 6) then 1 else 0))] h := by
    refine (rn_icmp_eq (t := 139) (pc := 125) (dd bX13_makes dX13_makes_125) rfl).trans ?_
    by_cases c1 : x2 = 2
    · refine (if_pos c1).trans ?_
      refine (rn_iconst (pc := 139) (dd bX13_makes dX13_makes_139) (by decide)).trans ?_
      refine (rn_goto (t := 144) (pc := 140) (dd bX13_makes dX13_makes_140) rfl).trans ?_
      refine Eq.trans (b := vrun mX13_makes 144 [(1, 282), (0, x1), (0, x2), (0, y0), (9, 0)] [(0, 1)] h) rfl ?_
      simp only [c1, true_or, false_or, or_true, or_false, true_and, false_and, and_true, and_false, not_true_eq_false, not_false_eq_true, ne_eq, if_true, if_false, ↓reduceIte]
    · refine (if_neg c1).trans ?_
      refine (rn_iload_n (pc := 128) (dd bX13_makes dX13_makes_128) rfl).trans ?_
      refine (rn_iconst (pc := 129) (dd bX13_makes dX13_makes_129) (by decide)).trans ?_
      have e2 : vrun mX13_makes 130 [(1, 282), (0, x1), (0, x2), (0, y0), (9, 0)] [(0, 3), (0, x2)] h = vrun mX13_makes 144 [(1, 282), (0, x1), (0, x2), (0, y0), (9, 0)] [(0, (if x2 = 3 ∨ ¬ (x2 < 6) then 1 else 0))] h := by
        refine (rn_icmp_eq (t := 139) (pc := 130) (dd bX13_makes dX13_makes_130) rfl).trans ?_
        by_cases c2 : x2 = 3
        · refine (if_pos c2).trans ?_
          refine (rn_iconst (pc := 139) (dd bX13_makes dX13_makes_139) (by decide)).trans ?_
          refine (rn_goto (t := 144) (pc := 140) (dd bX13_makes dX13_makes_140) rfl).trans ?_
          refine Eq.trans (b := vrun mX13_makes 144 [(1, 282), (0, x1), (0, x2), (0, y0), (9, 0)] [(0, 1)] h) rfl ?_
          simp only [c2, true_or, false_or, or_true, or_false, true_and, false_and, and_true, and_false, not_true_eq_false, not_false_eq_true, ne_eq, if_true, if_false, ↓reduceIte]
        · refine (if_neg c2).trans ?_
          refine (rn_iload_n (pc := 133) (dd bX13_makes dX13_makes_133) rfl).trans ?_
          refine (rn_bipush (pc := 134) (dd bX13_makes dX13_makes_134) (by decide)).trans ?_
          have e1 : vrun mX13_makes 136 [(1, 282), (0, x1), (0, x2), (0, y0), (9, 0)] [(0, 6), (0, x2)] h = vrun mX13_makes 144 [(1, 282), (0, x1), (0, x2), (0, y0), (9, 0)] [(0, (if ¬ (x2 < 6) then 1 else 0))] h := by
            refine (rn_icmp_lt (t := 143) (pc := 136) (dd bX13_makes dX13_makes_136) rfl).trans ?_
            by_cases c3 : x2 < 6
            · refine (if_pos c3).trans ?_
              refine (rn_iconst (pc := 143) (dd bX13_makes dX13_makes_143) (by decide)).trans ?_
              refine Eq.trans (b := vrun mX13_makes 144 [(1, 282), (0, x1), (0, x2), (0, y0), (9, 0)] [(0, 0)] h) rfl ?_
              simp only [c3, true_or, false_or, or_true, or_false, true_and, false_and, and_true, and_false, not_true_eq_false, not_false_eq_true, ne_eq, if_true, if_false, ↓reduceIte]
            · refine (if_neg c3).trans ?_
              refine (rn_iconst (pc := 139) (dd bX13_makes dX13_makes_139) (by decide)).trans ?_
              refine (rn_goto (t := 144) (pc := 140) (dd bX13_makes dX13_makes_140) rfl).trans ?_
              refine Eq.trans (b := vrun mX13_makes 144 [(1, 282), (0, x1), (0, x2), (0, y0), (9, 0)] [(0, 1)] h) rfl ?_
              simp only [c3, true_or, false_or, or_true, or_false, true_and, false_and, and_true, and_false, not_true_eq_false, not_false_eq_true, ne_eq, if_true, if_false, ↓reduceIte]
          refine e1.trans ?_
          refine Eq.trans (b := vrun mX13_makes 144 [(1, 282), (0, x1), (0, x2), (0, y0), (9, 0)] [(0, (if ¬ (x2 < 6) then 1 else 0))] h) rfl ?_
          simp only [c2, true_or, false_or, or_true, or_false, true_and, false_and, and_true, and_false, not_true_eq_false, not_false_eq_true, ne_eq, if_true, if_false, ↓reduceIte]
      refine e2.trans ?_
      refine Eq.trans (b := vrun mX13_makes 144 [(1, 282), (0, x1), (0, x2), (0, y0), (9, 0)] [(0, (if x2 = 3 ∨ ¬ (x2 < 6) then 1 else 0))] h) rfl ?_
      simp only [c1, true_or, false_or, or_true, or_false, true_and, false_and, and_true, and_false, not_true_eq_false, not_false_eq_true, ne_eq, if_true, if_false, ↓reduceIte]
  refine e3.trans ?_
  refine (rn_istore (pc := 144) (dd bX13_makes dX13_makes_144) (Nat.le_of_ble_eq_true rfl) rfl).trans ?_
  refine (rn_aload_n (pc := 146) (dd bX13_makes dX13_makes_146) rfl).trans ?_
  refine (rg_gf (pc := 147) (dd bX13_makes dX13_makes_147) (ci := 14) (j := 26) rfl rfl (key := 1526) rfl (kc := 34) rfl s1.1 s1.2.2.2.2.2.2.2.2.2.2.2.2.2.2.2.2.2.2.2.2.2.2.2.2.2.2.2.2.2.2.2.2.2.2.2.2.2.2.2.2.2.2.2.2.2.2.2.2.2.2.2.2.2.2.2.2.2.2.2.2.2.2.2.2.2.2.2.2.2.2.2.2.2.1).trans ?_
  refine (rn_iload_n (pc := 150) (dd bX13_makes dX13_makes_150) rfl).trans ?_
  refine (rn_iload (pc := 151) (dd bX13_makes dX13_makes_151) rfl).trans ?_
  refine (rg_beq (t := 165) (pc := 153) (dd bX13_makes dX13_makes_153) rfl).trans (itec (fun c4 => ?_) (fun c4 => ?_))
  · refine (rn_aload_n (pc := 156) (dd bX13_makes dX13_makes_156) rfl).trans ?_
    refine (rg_gf (pc := 157) (dd bX13_makes dX13_makes_157) (ci := 14) (j := 26) rfl rfl (key := 1526) rfl (kc := 34) rfl s1.1 s1.2.2.2.2.2.2.2.2.2.2.2.2.2.2.2.2.2.2.2.2.2.2.2.2.2.2.2.2.2.2.2.2.2.2.2.2.2.2.2.2.2.2.2.2.2.2.2.2.2.2.2.2.2.2.2.2.2.2.2.2.2.2.2.2.2.2.2.2.2.2.2.2.2.1).trans ?_
    refine (rn_iload_n (pc := 160) (dd bX13_makes dX13_makes_160) rfl).trans ?_
    refine (rg_iaload (pc := 161) (dd bX13_makes dX13_makes_161) s1.2.2.2.2.2.2.2.2.2.2.2.2.2.2.2.2.2.2.2.2.2.2.2.2.2.2.2.2.2.2.2.2.2.2.2.2.2.2.2.2.2.2.2.2.2.2.2.2.2.2.2.2.2.2.2.2.2.2.2.2.2.2.2.2.2.2.2.2.2.2.2.2.2.2.1 s1.2.2.2.2.2.2.2.2.2.2.2.2.2.2.2.2.2.2.2.2.2.2.2.2.2.2.2.2.2.2.2.2.2.2.2.2.2.2.2.2.2.2.2.2.2.2.2.2.2.2.2.2.2.2.2.2.2.2.2.2.2.2.2.2.2.2.2.2.2.2.2.2.2.2.2.1 (p2 c4) (p3 c4) rfl).trans ?_
    refine (rn_goto (t := 170) (pc := 162) (dd bX13_makes dX13_makes_162) rfl).trans ?_
    refine (rg_iastore (pc := 170) (dd bX13_makes dX13_makes_170) s1.2.2.2.2.2.2.2.2.2.2.2.2.2.2.2.2.2.2.2.2.2.2.2.2.2.2.2.2.2.2.2.2.2.2.2.2.2.2.2.2.2.2.2.2.2.2.2.2.2.2.2.2.2.2.2.2.2.2.2.2.2.2.2.2.2.2.2.2.2.2.2.2.2.2.1 s1.2.2.2.2.2.2.2.2.2.2.2.2.2.2.2.2.2.2.2.2.2.2.2.2.2.2.2.2.2.2.2.2.2.2.2.2.2.2.2.2.2.2.2.2.2.2.2.2.2.2.2.2.2.2.2.2.2.2.2.2.2.2.2.2.2.2.2.2.2.2.2.2.2.2.2.1 (by have z0 := p2 c4; have z1 := p3 c4; omega) (by have z0 := p2 c4; have z1 := p3 c4; omega)).trans ?_
    refine (rn_iload_n (pc := 171) (dd bX13_makes dX13_makes_171) rfl).trans ?_
    refine (rn_if_eq (t := 180) (pc := 172) (dd bX13_makes dX13_makes_172) rfl).trans (itec (fun c5 => ?_) (fun c5 => ?_))
    · refine (rn_iload_n (pc := 180) (dd bX13_makes dX13_makes_180) rfl).trans ?_
      exact rn_ireturn (pc := 181) (dd bX13_makes dX13_makes_181) (Or.inr ⟨rfl, (p4 c4 c5)⟩)
    · refine (rn_aload_n (pc := 175) (dd bX13_makes dX13_makes_175) rfl).trans ?_
      refine (rn_iload_n (pc := 176) (dd bX13_makes dX13_makes_176) rfl).trans ?_
      exact rg_virtual (pc := 177) (dd bX13_makes dX13_makes_177) rfl rfl (by decide) (kc := 34) rfl ((vup_k (by decide)).trans s1.1) (as := [(1, 282), (0, x1)]) rfl ⟨Nat.le_of_ble_eq_true rfl, Nat.le_of_ble_eq_true rfl, Nat.le_of_ble_eq_true rfl, Nat.le_of_ble_eq_true rfl⟩
  · refine (rn_aload_n (pc := 165) (dd bX13_makes dX13_makes_165) rfl).trans ?_
    refine (rn_iload_n (pc := 166) (dd bX13_makes dX13_makes_166) rfl).trans ?_
    exact rg_virtual (pc := 167) (dd bX13_makes dX13_makes_167) rfl rfl (by decide) (kc := 34) rfl s1.1 (as := [(1, 282), (0, x1)]) rfl ⟨Nat.le_of_ble_eq_true rfl, Nat.le_of_ble_eq_true rfl, Nat.le_of_ble_eq_true rfl, Nat.le_of_ble_eq_true rfl⟩
theorem rX13_makes_180 {x1 : Int} {x2 : Int} {x3 : Int} {x4 : Int} {h : vH} (p1 : x3 = 0 ∨ x3 = 1) : vrun mX13_makes 180 [(1, 282), (0, x1), (0, x2), (0, x3), (0, x4)] [] h = some (.inl (some (0, x3)), h) := by
  refine (rn_iload_n (pc := 180) (dd bX13_makes dX13_makes_180) rfl).trans ?_
  exact rn_ireturn (pc := 181) (dd bX13_makes dX13_makes_181) (Or.inr ⟨rfl, p1⟩)
theorem rX13_makes_170 {x1 : Int} {x2 : Int} {x3 : Int} {x4 : Int} {y0 : Int} {y1 : Int} {y2 : Int} {h : vH} (p1 : h 0 y2 0 = 1) (p2 : 0 ≤ y1) (p3 : y1 < h 1 y2 0) (p4 : x3 = 0 → x3 = 0 ∨ x3 = 1) (s5 : shModel h) : vrun mX13_makes 170 [(1, 282), (0, x1), (0, x2), (0, x3), (0, x4)] [(0, y0), (0, y1), (1, y2)] h = if x3 = 0 then some (.inl (some (0, x3)), vup h 2 y2 y1 y0) else vret vrun mX13_makes 177 [(1, 282), (0, x1), (0, x2), (0, x3), (0, x4)] [] (vcl mX13_looks [(1, 282), (0, x1)] (vup h 2 y2 y1 y0)) := by
  refine (rg_iastore (pc := 170) (dd bX13_makes dX13_makes_170) p1 rfl p2 p3).trans ?_
  refine (rn_iload_n (pc := 171) (dd bX13_makes dX13_makes_171) rfl).trans ?_
  refine (rn_if_eq (t := 180) (pc := 172) (dd bX13_makes dX13_makes_172) rfl).trans (itec (fun c1 => ?_) (fun c1 => ?_))
  · refine (rn_iload_n (pc := 180) (dd bX13_makes dX13_makes_180) rfl).trans ?_
    exact rn_ireturn (pc := 181) (dd bX13_makes dX13_makes_181) (Or.inr ⟨rfl, (p4 c1)⟩)
  · refine (rn_aload_n (pc := 175) (dd bX13_makes dX13_makes_175) rfl).trans ?_
    refine (rn_iload_n (pc := 176) (dd bX13_makes dX13_makes_176) rfl).trans ?_
    exact rg_virtual (pc := 177) (dd bX13_makes dX13_makes_177) rfl rfl (by decide) (kc := 34) rfl ((vup_k (by decide)).trans s5.1) (as := [(1, 282), (0, x1)]) rfl ⟨Nat.le_of_ble_eq_true rfl, Nat.le_of_ble_eq_true rfl, Nat.le_of_ble_eq_true rfl, Nat.le_of_ble_eq_true rfl⟩
theorem bX13_move : vmB mX13_move = cX13_move := rfl
theorem rX13_move_0 {x1 : Int} {x2 : Int} {h : vH} (s1 : shModel h) (p2 : ¬ (x1 < 0) ∧ ¬ (3 < x1) → ¬ (x2 < 0) ∧ ¬ (7 < x2) → 0 ≤ x1) (p3 : ¬ (x1 < 0) ∧ ¬ (3 < x1) → ¬ (x2 < 0) ∧ ¬ (7 < x2) → x1 < 4) : vrun mX13_move 0 [(1, 282), (0, x1), (0, x2), (9, 0)] [] h = vret vrun mX13_move 42 [(1, 282), (0, x1), (0, x2), (0, (if ¬ (x1 < 0) ∧ ¬ (3 < x1) then 1 else 0))] [] (vcl mX13_isFine [(1, 282), (0, (if ¬ (x1 < 0) ∧ ¬ (3 < x1) then (if ¬ (x2 < 0) ∧ ¬ (7 < x2) then (if h 2 289 x1 = 0 then 3 else 0) else 2) else 1))] h) := by
  refine (rn_iload_n (pc := 0) (dd bX13_move dX13_move_0) rfl).trans ?_
  refine (rg_static (pc := 1) (dd bX13_move dX13_move_1) rfl (by decide) (Nat.le_of_ble_eq_true rfl) (as := [(0, x1)]) rfl rfl ⟨Nat.le_of_ble_eq_true rfl, Nat.le_of_ble_eq_true rfl, Nat.le_of_ble_eq_true rfl, Nat.le_of_ble_eq_true rfl⟩).trans ?_
  refine (vret_v spX13_isPane).trans ?_
  refine (rn_istore_n (pc := 4) (dd bX13_move dX13_move_4) (Nat.le_of_ble_eq_true rfl) rfl).trans ?_
  refine (rn_aload_n (pc := 5) (dd bX13_move dX13_move_5) rfl).trans ?_
  refine (rn_iload_n (pc := 6) (dd bX13_move dX13_move_6) rfl).trans ?_
  have e3 : vrun mX13_move 7 [(1, 282), (0, x1), (0, x2), (0, (if ¬ (x1 < 0) ∧ ¬ (3 < x1) then 1 else 0))] [(0, (if ¬ (x1 < 0) ∧ ¬ (3 < x1) then 1 else 0)), (1, 282)] h = vrun mX13_move 42 [(1, 282), (0, x1), (0, x2), (0, (if ¬ (x1 < 0) ∧ ¬ (3 < x1) then 1 else 0))] [(0, (if ¬ (x1 < 0) ∧ ¬ (3 < x1) then (if ¬ (x2 < 0) ∧ ¬ (7 < x2) then (if h 2 289 x1 = 0 then 3 else 0) else 2) else 1)), (1, 282)] h := by
    refine (rg_bne (t := 14) (pc := 7) (dd bX13_move dX13_move_7) rfl).trans ?_
    by_cases c1 : ¬ (x1 < 0) ∧ ¬ (3 < x1)
    · refine (if_pos c1).trans ?_
      refine (rn_iload_n (pc := 14) (dd bX13_move dX13_move_14) rfl).trans ?_
      refine (rn_iconst (pc := 15) (dd bX13_move dX13_move_15) (by decide)).trans ?_
      refine (rn_bipush (pc := 16) (dd bX13_move dX13_move_16) (by decide)).trans ?_
      refine (rg_static (pc := 18) (dd bX13_move dX13_move_18) rfl (by decide) (Nat.le_of_ble_eq_true rfl) (as := [(0, x2), (0, 0), (0, 7)]) rfl rfl ⟨Nat.le_of_ble_eq_true rfl, Nat.le_of_ble_eq_true rfl, Nat.le_of_ble_eq_true rfl, Nat.le_of_ble_eq_true rfl⟩).trans ?_
      refine (vret_v spX13_isIn).trans ?_
      have e2 : vrun mX13_move 21 [(1, 282), (0, x1), (0, x2), (0, (if ¬ (x1 < 0) ∧ ¬ (3 < x1) then 1 else 0))] [(0, (if ¬ (x2 < 0) ∧ ¬ (7 < x2) then 1 else 0)), (1, 282)] h = vrun mX13_move 42 [(1, 282), (0, x1), (0, x2), (0, (if ¬ (x1 < 0) ∧ ¬ (3 < x1) then 1 else 0))] [(0, (if ¬ (x2 < 0) ∧ ¬ (7 < x2) then (if h 2 289 x1 = 0 then 3 else 0) else 2)), (1, 282)] h := by
        refine (rg_bne (t := 28) (pc := 21) (dd bX13_move dX13_move_21) rfl).trans ?_
        by_cases c2 : ¬ (x2 < 0) ∧ ¬ (7 < x2)
        · refine (if_pos c2).trans ?_
          refine (rn_aload_n (pc := 28) (dd bX13_move dX13_move_28) rfl).trans ?_
          refine (rg_gf (pc := 29) (dd bX13_move dX13_move_29) (ci := 14) (j := 8) rfl rfl (key := 1508) rfl (kc := 34) rfl s1.1 s1.2.2.2.2.2.2.2.2.2.2.2.2.2.2.2.2.2.2.2.1).trans ?_
          refine (rn_iload_n (pc := 32) (dd bX13_move dX13_move_32) rfl).trans ?_
          refine (rg_baload (pc := 33) (dd bX13_move dX13_move_33) s1.2.2.2.2.2.2.2.2.2.2.2.2.2.2.2.2.2.2.2.2.1 s1.2.2.2.2.2.2.2.2.2.2.2.2.2.2.2.2.2.2.2.2.2.1 (p2 c1 c2) (p3 c1 c2) rfl).trans ?_
          have e1 : vrun mX13_move 34 [(1, 282), (0, x1), (0, x2), (0, (if ¬ (x1 < 0) ∧ ¬ (3 < x1) then 1 else 0))] [(0, h 2 289 x1), (1, 282)] h = vrun mX13_move 42 [(1, 282), (0, x1), (0, x2), (0, (if ¬ (x1 < 0) ∧ ¬ (3 < x1) then 1 else 0))] [(0, (if h 2 289 x1 = 0 then 3 else 0)), (1, 282)] h := by
            refine (rg_if_ne (t := 41) (pc := 34) (dd bX13_move dX13_move_34) rfl).trans ?_
            by_cases c3 : h 2 289 x1 = 0
            · refine (if_pos c3).trans ?_
              refine (rn_iconst (pc := 37) (dd bX13_move dX13_move_37) (by decide)).trans ?_
              refine (rn_goto (t := 42) (pc := 38) (dd bX13_move dX13_move_38) rfl).trans ?_
              refine Eq.trans (b := vrun mX13_move 42 [(1, 282), (0, x1), (0, x2), (0, (if ¬ (x1 < 0) ∧ ¬ (3 < x1) then 1 else 0))] [(0, 3), (1, 282)] h) rfl ?_
              simp only [if_pos c3]
            · refine (if_neg c3).trans ?_
              refine (rn_iconst (pc := 41) (dd bX13_move dX13_move_41) (by decide)).trans ?_
              refine Eq.trans (b := vrun mX13_move 42 [(1, 282), (0, x1), (0, x2), (0, (if ¬ (x1 < 0) ∧ ¬ (3 < x1) then 1 else 0))] [(0, 0), (1, 282)] h) rfl ?_
              simp only [if_neg c3]
          refine e1.trans ?_
          refine Eq.trans (b := vrun mX13_move 42 [(1, 282), (0, x1), (0, x2), (0, (if ¬ (x1 < 0) ∧ ¬ (3 < x1) then 1 else 0))] [(0, (if h 2 289 x1 = 0 then 3 else 0)), (1, 282)] h) rfl ?_
          simp only [if_pos c2]
        · refine (if_neg c2).trans ?_
          refine (rn_iconst (pc := 24) (dd bX13_move dX13_move_24) (by decide)).trans ?_
          refine (rn_goto (t := 42) (pc := 25) (dd bX13_move dX13_move_25) rfl).trans ?_
          refine Eq.trans (b := vrun mX13_move 42 [(1, 282), (0, x1), (0, x2), (0, (if ¬ (x1 < 0) ∧ ¬ (3 < x1) then 1 else 0))] [(0, 2), (1, 282)] h) rfl ?_
          simp only [if_neg c2]
      refine e2.trans ?_
      refine Eq.trans (b := vrun mX13_move 42 [(1, 282), (0, x1), (0, x2), (0, (if ¬ (x1 < 0) ∧ ¬ (3 < x1) then 1 else 0))] [(0, (if ¬ (x2 < 0) ∧ ¬ (7 < x2) then (if h 2 289 x1 = 0 then 3 else 0) else 2)), (1, 282)] h) rfl ?_
      simp only [if_pos c1]
    · refine (if_neg c1).trans ?_
      refine (rn_iconst (pc := 10) (dd bX13_move dX13_move_10) (by decide)).trans ?_
      refine (rn_goto (t := 42) (pc := 11) (dd bX13_move dX13_move_11) rfl).trans ?_
      refine Eq.trans (b := vrun mX13_move 42 [(1, 282), (0, x1), (0, x2), (0, (if ¬ (x1 < 0) ∧ ¬ (3 < x1) then 1 else 0))] [(0, 1), (1, 282)] h) rfl ?_
      simp only [if_neg c1]
  refine e3.trans ?_
  exact rg_virtual (pc := 42) (dd bX13_move dX13_move_42) rfl rfl (by decide) (kc := 34) rfl s1.1 (as := [(1, 282), (0, (if ¬ (x1 < 0) ∧ ¬ (3 < x1) then (if ¬ (x2 < 0) ∧ ¬ (7 < x2) then (if h 2 289 x1 = 0 then 3 else 0) else 2) else 1))]) rfl ⟨Nat.le_of_ble_eq_true rfl, Nat.le_of_ble_eq_true rfl, Nat.le_of_ble_eq_true rfl, Nat.le_of_ble_eq_true rfl⟩
theorem rX13_move_45 {x1 : Int} {x2 : Int} {x3 : Int} {y0 : Int} {h : vH} (s1 : shModel h) : vrun mX13_move 45 [(1, 282), (0, x1), (0, x2), (0, x3)] [(0, y0)] h = if y0 = 0 then some (.inl (some (0, 0)), h) else vret vrun mX13_move 53 [(1, 282), (0, x1), (0, x2), (0, x3)] [] (vcl mX13_logs [(1, 282), (0, x1), (0, x2)] h) := by
  refine (rg_if_ne (t := 50) (pc := 45) (dd bX13_move dX13_move_45) rfl).trans (itec (fun c1 => ?_) (fun c1 => ?_))
  · refine (rn_iconst (pc := 48) (dd bX13_move dX13_move_48) (by decide)).trans ?_
    exact rn_ireturn (pc := 49) (dd bX13_move dX13_move_49) (Or.inr ⟨rfl, (by decide)⟩)
  · refine (rn_aload_n (pc := 50) (dd bX13_move dX13_move_50) rfl).trans ?_
    refine (rn_iload_n (pc := 51) (dd bX13_move dX13_move_51) rfl).trans ?_
    refine (rn_iload_n (pc := 52) (dd bX13_move dX13_move_52) rfl).trans ?_
    exact rg_virtual (pc := 53) (dd bX13_move dX13_move_53) rfl rfl (by decide) (kc := 34) rfl s1.1 (as := [(1, 282), (0, x1), (0, x2)]) rfl ⟨Nat.le_of_ble_eq_true rfl, Nat.le_of_ble_eq_true rfl, Nat.le_of_ble_eq_true rfl, Nat.le_of_ble_eq_true rfl⟩
theorem rX13_move_56 {x1 : Int} {x2 : Int} {x3 : Int} {h : vH} (s1 : shModel h) : vrun mX13_move 56 [(1, 282), (0, x1), (0, x2), (0, x3)] [] h = vret vrun mX13_move 59 [(1, 282), (0, x1), (0, x2), (0, x3)] [] (vcl mX13_makes [(1, 282), (0, x1), (0, x2)] h) := by
  refine (rn_aload_n (pc := 56) (dd bX13_move dX13_move_56) rfl).trans ?_
  refine (rn_iload_n (pc := 57) (dd bX13_move dX13_move_57) rfl).trans ?_
  refine (rn_iload_n (pc := 58) (dd bX13_move dX13_move_58) rfl).trans ?_
  exact rg_virtual (pc := 59) (dd bX13_move dX13_move_59) rfl rfl (by decide) (kc := 34) rfl s1.1 (as := [(1, 282), (0, x1), (0, x2)]) rfl ⟨Nat.le_of_ble_eq_true rfl, Nat.le_of_ble_eq_true rfl, Nat.le_of_ble_eq_true rfl, Nat.le_of_ble_eq_true rfl⟩
theorem rX13_move_62 {x1 : Int} {x2 : Int} {x3 : Int} {y0 : Int} {h : vH} (p1 : y0 = 0 ∨ y0 = 1) : vrun mX13_move 62 [(1, 282), (0, x1), (0, x2), (0, x3)] [(0, y0)] h = some (.inl (some (0, y0)), h) := by
  exact rn_ireturn (pc := 62) (dd bX13_move dX13_move_62) (Or.inr ⟨rfl, p1⟩)
theorem bX13_play : vmB mX13_play = cX13_play := rfl
theorem rX13_play_0 {x1 : Int} {x2 : Int} {h : vH} (s1 : shModel h) (p2 : (¬ (x1 < 0) ∧ ¬ (3 < x1)) ∧ ¬ (x2 < 0) ∧ ¬ (3 < x2) → 0 ≤ x2) (p3 : (¬ (x1 < 0) ∧ ¬ (3 < x1)) ∧ ¬ (x2 < 0) ∧ ¬ (3 < x2) → x2 < 4) : vrun mX13_play 0 [(1, 282), (0, x1), (0, x2), (9, 0), (9, 0), (9, 0)] [] h = vret vrun mX13_play 43 [(1, 282), (0, x1), (0, x2), (0, (if (¬ (x1 < 0) ∧ ¬ (3 < x1)) ∧ ¬ (x2 < 0) ∧ ¬ (3 < x2) then 1 else 0)), (9, 0), (9, 0)] [] (vcl mX13_isFine [(1, 282), (0, (if (¬ (x1 < 0) ∧ ¬ (3 < x1)) ∧ ¬ (x2 < 0) ∧ ¬ (3 < x2) then (if h 2 289 x2 = 0 then 2 else 0) else 1))] h) := by
  refine (rn_iload_n (pc := 0) (dd bX13_play dX13_play_0) rfl).trans ?_
  refine (rg_static (pc := 1) (dd bX13_play dX13_play_1) rfl (by decide) (Nat.le_of_ble_eq_true rfl) (as := [(0, x1)]) rfl rfl ⟨Nat.le_of_ble_eq_true rfl, Nat.le_of_ble_eq_true rfl, Nat.le_of_ble_eq_true rfl, Nat.le_of_ble_eq_true rfl⟩).trans ?_
  refine (vret_v spX13_isPane).trans ?_
  have e2 : vrun mX13_play 4 [(1, 282), (0, x1), (0, x2), (9, 0), (9, 0), (9, 0)] [(0, (if ¬ (x1 < 0) ∧ ¬ (3 < x1) then 1 else 0))] h = vrun mX13_play 19 [(1, 282), (0, x1), (0, x2), (9, 0), (9, 0), (9, 0)] [(0, (if (¬ (x1 < 0) ∧ ¬ (3 < x1)) ∧ ¬ (x2 < 0) ∧ ¬ (3 < x2) then 1 else 0))] h := by
    refine (rg_beq (t := 18) (pc := 4) (dd bX13_play dX13_play_4) rfl).trans ?_
    by_cases c1 : ¬ (x1 < 0) ∧ ¬ (3 < x1)
    · refine (if_pos c1).trans ?_
      refine (rn_iload_n (pc := 7) (dd bX13_play dX13_play_7) rfl).trans ?_
      refine (rg_static (pc := 8) (dd bX13_play dX13_play_8) rfl (by decide) (Nat.le_of_ble_eq_true rfl) (as := [(0, x2)]) rfl rfl ⟨Nat.le_of_ble_eq_true rfl, Nat.le_of_ble_eq_true rfl, Nat.le_of_ble_eq_true rfl, Nat.le_of_ble_eq_true rfl⟩).trans ?_
      refine (vret_v spX13_isPane).trans ?_
      have e1 : vrun mX13_play 11 [(1, 282), (0, x1), (0, x2), (9, 0), (9, 0), (9, 0)] [(0, (if ¬ (x2 < 0) ∧ ¬ (3 < x2) then 1 else 0))] h = vrun mX13_play 19 [(1, 282), (0, x1), (0, x2), (9, 0), (9, 0), (9, 0)] [(0, (if ¬ (x2 < 0) ∧ ¬ (3 < x2) then 1 else 0))] h := by
        refine (rg_beq (t := 18) (pc := 11) (dd bX13_play dX13_play_11) rfl).trans ?_
        by_cases c2 : ¬ (x2 < 0) ∧ ¬ (3 < x2)
        · refine (if_pos c2).trans ?_
          refine (rn_iconst (pc := 14) (dd bX13_play dX13_play_14) (by decide)).trans ?_
          refine (rn_goto (t := 19) (pc := 15) (dd bX13_play dX13_play_15) rfl).trans ?_
          refine Eq.trans (b := vrun mX13_play 19 [(1, 282), (0, x1), (0, x2), (9, 0), (9, 0), (9, 0)] [(0, 1)] h) rfl ?_
          simp only [c2, true_or, false_or, or_true, or_false, true_and, false_and, and_true, and_false, not_true_eq_false, not_false_eq_true, ne_eq, if_true, if_false, ↓reduceIte]
        · refine (if_neg c2).trans ?_
          refine (rn_iconst (pc := 18) (dd bX13_play dX13_play_18) (by decide)).trans ?_
          refine Eq.trans (b := vrun mX13_play 19 [(1, 282), (0, x1), (0, x2), (9, 0), (9, 0), (9, 0)] [(0, 0)] h) rfl ?_
          simp only [c2, true_or, false_or, or_true, or_false, true_and, false_and, and_true, and_false, not_true_eq_false, not_false_eq_true, ne_eq, if_true, if_false, ↓reduceIte]
      refine e1.trans ?_
      refine Eq.trans (b := vrun mX13_play 19 [(1, 282), (0, x1), (0, x2), (9, 0), (9, 0), (9, 0)] [(0, (if ¬ (x2 < 0) ∧ ¬ (3 < x2) then 1 else 0))] h) rfl ?_
      simp only [c1, true_or, false_or, or_true, or_false, true_and, false_and, and_true, and_false, not_true_eq_false, not_false_eq_true, ne_eq, if_true, if_false, ↓reduceIte]
    · refine (if_neg c1).trans ?_
      refine (rn_iconst (pc := 18) (dd bX13_play dX13_play_18) (by decide)).trans ?_
      refine Eq.trans (b := vrun mX13_play 19 [(1, 282), (0, x1), (0, x2), (9, 0), (9, 0), (9, 0)] [(0, 0)] h) rfl ?_
      simp only [c1, true_or, false_or, or_true, or_false, true_and, false_and, and_true, and_false, not_true_eq_false, not_false_eq_true, ne_eq, if_true, if_false, ↓reduceIte]
  refine e2.trans ?_
  refine (rn_istore_n (pc := 19) (dd bX13_play dX13_play_19) (Nat.le_of_ble_eq_true rfl) rfl).trans ?_
  refine (rn_aload_n (pc := 20) (dd bX13_play dX13_play_20) rfl).trans ?_
  refine (rn_iload_n (pc := 21) (dd bX13_play dX13_play_21) rfl).trans ?_
  have e4 : vrun mX13_play 22 [(1, 282), (0, x1), (0, x2), (0, (if (¬ (x1 < 0) ∧ ¬ (3 < x1)) ∧ ¬ (x2 < 0) ∧ ¬ (3 < x2) then 1 else 0)), (9, 0), (9, 0)] [(0, (if (¬ (x1 < 0) ∧ ¬ (3 < x1)) ∧ ¬ (x2 < 0) ∧ ¬ (3 < x2) then 1 else 0)), (1, 282)] h = vrun mX13_play 43 [(1, 282), (0, x1), (0, x2), (0, (if (¬ (x1 < 0) ∧ ¬ (3 < x1)) ∧ ¬ (x2 < 0) ∧ ¬ (3 < x2) then 1 else 0)), (9, 0), (9, 0)] [(0, (if (¬ (x1 < 0) ∧ ¬ (3 < x1)) ∧ ¬ (x2 < 0) ∧ ¬ (3 < x2) then (if h 2 289 x2 = 0 then 2 else 0) else 1)), (1, 282)] h := by
    refine (rg_bne (t := 29) (pc := 22) (dd bX13_play dX13_play_22) rfl).trans ?_
    by_cases c3 : (¬ (x1 < 0) ∧ ¬ (3 < x1)) ∧ ¬ (x2 < 0) ∧ ¬ (3 < x2)
    · refine (if_pos c3).trans ?_
      refine (rn_aload_n (pc := 29) (dd bX13_play dX13_play_29) rfl).trans ?_
      refine (rg_gf (pc := 30) (dd bX13_play dX13_play_30) (ci := 14) (j := 8) rfl rfl (key := 1508) rfl (kc := 34) rfl s1.1 s1.2.2.2.2.2.2.2.2.2.2.2.2.2.2.2.2.2.2.2.1).trans ?_
      refine (rn_iload_n (pc := 33) (dd bX13_play dX13_play_33) rfl).trans ?_
      refine (rg_baload (pc := 34) (dd bX13_play dX13_play_34) s1.2.2.2.2.2.2.2.2.2.2.2.2.2.2.2.2.2.2.2.2.1 s1.2.2.2.2.2.2.2.2.2.2.2.2.2.2.2.2.2.2.2.2.2.1 (p2 c3) (p3 c3) rfl).trans ?_
      have e3 : vrun mX13_play 35 [(1, 282), (0, x1), (0, x2), (0, (if (¬ (x1 < 0) ∧ ¬ (3 < x1)) ∧ ¬ (x2 < 0) ∧ ¬ (3 < x2) then 1 else 0)), (9, 0), (9, 0)] [(0, h 2 289 x2), (1, 282)] h = vrun mX13_play 43 [(1, 282), (0, x1), (0, x2), (0, (if (¬ (x1 < 0) ∧ ¬ (3 < x1)) ∧ ¬ (x2 < 0) ∧ ¬ (3 < x2) then 1 else 0)), (9, 0), (9, 0)] [(0, (if h 2 289 x2 = 0 then 2 else 0)), (1, 282)] h := by
        refine (rg_if_ne (t := 42) (pc := 35) (dd bX13_play dX13_play_35) rfl).trans ?_
        by_cases c4 : h 2 289 x2 = 0
        · refine (if_pos c4).trans ?_
          refine (rn_iconst (pc := 38) (dd bX13_play dX13_play_38) (by decide)).trans ?_
          refine (rn_goto (t := 43) (pc := 39) (dd bX13_play dX13_play_39) rfl).trans ?_
          refine Eq.trans (b := vrun mX13_play 43 [(1, 282), (0, x1), (0, x2), (0, (if (¬ (x1 < 0) ∧ ¬ (3 < x1)) ∧ ¬ (x2 < 0) ∧ ¬ (3 < x2) then 1 else 0)), (9, 0), (9, 0)] [(0, 2), (1, 282)] h) rfl ?_
          simp only [if_pos c4]
        · refine (if_neg c4).trans ?_
          refine (rn_iconst (pc := 42) (dd bX13_play dX13_play_42) (by decide)).trans ?_
          refine Eq.trans (b := vrun mX13_play 43 [(1, 282), (0, x1), (0, x2), (0, (if (¬ (x1 < 0) ∧ ¬ (3 < x1)) ∧ ¬ (x2 < 0) ∧ ¬ (3 < x2) then 1 else 0)), (9, 0), (9, 0)] [(0, 0), (1, 282)] h) rfl ?_
          simp only [if_neg c4]
      refine e3.trans ?_
      refine Eq.trans (b := vrun mX13_play 43 [(1, 282), (0, x1), (0, x2), (0, (if (¬ (x1 < 0) ∧ ¬ (3 < x1)) ∧ ¬ (x2 < 0) ∧ ¬ (3 < x2) then 1 else 0)), (9, 0), (9, 0)] [(0, (if h 2 289 x2 = 0 then 2 else 0)), (1, 282)] h) rfl ?_
      simp only [if_pos c3]
    · refine (if_neg c3).trans ?_
      refine (rn_iconst (pc := 25) (dd bX13_play dX13_play_25) (by decide)).trans ?_
      refine (rn_goto (t := 43) (pc := 26) (dd bX13_play dX13_play_26) rfl).trans ?_
      refine Eq.trans (b := vrun mX13_play 43 [(1, 282), (0, x1), (0, x2), (0, (if (¬ (x1 < 0) ∧ ¬ (3 < x1)) ∧ ¬ (x2 < 0) ∧ ¬ (3 < x2) then 1 else 0)), (9, 0), (9, 0)] [(0, 1), (1, 282)] h) rfl ?_
      simp only [if_neg c3]
  refine e4.trans ?_
  exact rg_virtual (pc := 43) (dd bX13_play dX13_play_43) rfl rfl (by decide) (kc := 34) rfl s1.1 (as := [(1, 282), (0, (if (¬ (x1 < 0) ∧ ¬ (3 < x1)) ∧ ¬ (x2 < 0) ∧ ¬ (3 < x2) then (if h 2 289 x2 = 0 then 2 else 0) else 1))]) rfl ⟨Nat.le_of_ble_eq_true rfl, Nat.le_of_ble_eq_true rfl, Nat.le_of_ble_eq_true rfl, Nat.le_of_ble_eq_true rfl⟩
theorem rX13_play_46 {x1 : Int} {x2 : Int} {x3 : Int} {y0 : Int} {h : vH} : vrun mX13_play 46 [(1, 282), (0, x1), (0, x2), (0, x3), (9, 0), (9, 0)] [(0, y0)] h = if y0 = 0 then some (.inl (some (0, 0)), h) else vrun mX13_play 57 [(1, 282), (0, x1), (0, x2), (0, x3), (0, 0), (0, 0)] [] h := by
  refine (rg_if_ne (t := 51) (pc := 46) (dd bX13_play dX13_play_46) rfl).trans (itec (fun c1 => ?_) (fun c1 => ?_))
  · refine (rn_iconst (pc := 49) (dd bX13_play dX13_play_49) (by decide)).trans ?_
    exact rn_ireturn (pc := 50) (dd bX13_play dX13_play_50) (Or.inl rfl)
  · refine (rn_iconst (pc := 51) (dd bX13_play dX13_play_51) (by decide)).trans ?_
    refine (rn_istore (pc := 52) (dd bX13_play dX13_play_52) (Nat.le_of_ble_eq_true rfl) rfl).trans ?_
    refine (rn_iconst (pc := 54) (dd bX13_play dX13_play_54) (by decide)).trans ?_
    refine (rn_istore (pc := 55) (dd bX13_play dX13_play_55) (Nat.le_of_ble_eq_true rfl) rfl).trans ?_
    rfl
theorem rX13_play_57 {x1 : Int} {x2 : Int} {x3 : Int} {x4 : Int} {x5 : Int} {h : vH} (s1 : shModel h) (p2 : ¬ (h 1559 282 0 ≤ x5) → 0 ≤ x5) (p3 : ¬ (h 1559 282 0 ≤ x5) → x5 < 50) : vrun mX13_play 57 [(1, 282), (0, x1), (0, x2), (0, x3), (0, x4), (0, x5)] [] h = if h 1559 282 0 ≤ x5 then some (.inl (some (0, x4)), h) else if h 2 334 x5 = x1 then vret vrun mX13_play 88 [(1, 282), (0, x1), (0, x2), (0, x3), (0, x4), (0, x5)] [(0, x4)] (vcl mX13_makes [(1, 282), (0, x2), (0, h 2 335 x5)] h) else vrun mX13_play 57 [(1, 282), (0, x1), (0, x2), (0, x3), (0, x4), (0, x5 + 1)] [] h := by
  refine (rn_iload (pc := 57) (dd bX13_play dX13_play_57) rfl).trans ?_
  refine (rn_aload_n (pc := 59) (dd bX13_play dX13_play_59) rfl).trans ?_
  refine (rg_gf (pc := 60) (dd bX13_play dX13_play_60) (ci := 14) (j := 59) rfl rfl (key := 1559) rfl (kc := 34) rfl s1.1 rfl).trans ?_
  refine (rn_icmp_ge (t := 108) (pc := 63) (dd bX13_play dX13_play_63) rfl).trans (itec (fun c1 => ?_) (fun c1 => ?_))
  · refine (rn_iload (pc := 108) (dd bX13_play dX13_play_108) rfl).trans ?_
    exact rn_ireturn (pc := 110) (dd bX13_play dX13_play_110) (Or.inl rfl)
  · refine (rn_aload_n (pc := 66) (dd bX13_play dX13_play_66) rfl).trans ?_
    refine (rg_gf (pc := 67) (dd bX13_play dX13_play_67) (ci := 14) (j := 57) rfl rfl (key := 1557) rfl (kc := 34) rfl s1.1 s1.2.2.2.2.2.2.2.2.2.2.2.2.2.2.2.2.2.2.2.2.2.2.2.2.2.2.2.2.2.2.2.2.2.2.2.2.2.2.2.2.2.2.2.2.2.2.2.2.2.2.2.2.2.2.2.2.2.2.2.2.2.2.2.2.2.2.2.2.2.2.2.2.2.2.2.2.2.2.2.2.2.2.2.2.2.2.2.2.2.2.2.2.2.2.2.2.2.2.2.2.2.2.2.2.2.2.2.2.2.2.2.2.2.2.2.2.2.2.2.2.2.2.2.2.2.2.2.2.2.2.2.2.2.2.2.2.2.2.2.2.2.2.2.2.2.2.2.2.2.2.2.2.2.2.1).trans ?_
    refine (rn_iload (pc := 70) (dd bX13_play dX13_play_70) rfl).trans ?_
    refine (rg_iaload (pc := 72) (dd bX13_play dX13_play_72) s1.2.2.2.2.2.2.2.2.2.2.2.2.2.2.2.2.2.2.2.2.2.2.2.2.2.2.2.2.2.2.2.2.2.2.2.2.2.2.2.2.2.2.2.2.2.2.2.2.2.2.2.2.2.2.2.2.2.2.2.2.2.2.2.2.2.2.2.2.2.2.2.2.2.2.2.2.2.2.2.2.2.2.2.2.2.2.2.2.2.2.2.2.2.2.2.2.2.2.2.2.2.2.2.2.2.2.2.2.2.2.2.2.2.2.2.2.2.2.2.2.2.2.2.2.2.2.2.2.2.2.2.2.2.2.2.2.2.2.2.2.2.2.2.2.2.2.2.2.2.2.2.2.2.2.2.1 s1.2.2.2.2.2.2.2.2.2.2.2.2.2.2.2.2.2.2.2.2.2.2.2.2.2.2.2.2.2.2.2.2.2.2.2.2.2.2.2.2.2.2.2.2.2.2.2.2.2.2.2.2.2.2.2.2.2.2.2.2.2.2.2.2.2.2.2.2.2.2.2.2.2.2.2.2.2.2.2.2.2.2.2.2.2.2.2.2.2.2.2.2.2.2.2.2.2.2.2.2.2.2.2.2.2.2.2.2.2.2.2.2.2.2.2.2.2.2.2.2.2.2.2.2.2.2.2.2.2.2.2.2.2.2.2.2.2.2.2.2.2.2.2.2.2.2.2.2.2.2.2.2.2.2.2.2.1 (p2 c1) (p3 c1) rfl).trans ?_
    refine (rn_iload_n (pc := 73) (dd bX13_play dX13_play_73) rfl).trans ?_
    refine (rg_icmp_ne (t := 102) (pc := 74) (dd bX13_play dX13_play_74) rfl).trans (itec (fun c2 => ?_) (fun c2 => ?_))
    · refine (rn_iload (pc := 77) (dd bX13_play dX13_play_77) rfl).trans ?_
      refine (rn_aload_n (pc := 79) (dd bX13_play dX13_play_79) rfl).trans ?_
      refine (rn_iload_n (pc := 80) (dd bX13_play dX13_play_80) rfl).trans ?_
      refine (rn_aload_n (pc := 81) (dd bX13_play dX13_play_81) rfl).trans ?_
      refine (rg_gf (pc := 82) (dd bX13_play dX13_play_82) (ci := 14) (j := 58) rfl rfl (key := 1558) rfl (kc := 34) rfl s1.1 s1.2.2.2.2.2.2.2.2.2.2.2.2.2.2.2.2.2.2.2.2.2.2.2.2.2.2.2.2.2.2.2.2.2.2.2.2.2.2.2.2.2.2.2.2.2.2.2.2.2.2.2.2.2.2.2.2.2.2.2.2.2.2.2.2.2.2.2.2.2.2.2.2.2.2.2.2.2.2.2.2.2.2.2.2.2.2.2.2.2.2.2.2.2.2.2.2.2.2.2.2.2.2.2.2.2.2.2.2.2.2.2.2.2.2.2.2.2.2.2.2.2.2.2.2.2.2.2.2.2.2.2.2.2.2.2.2.2.2.2.2.2.2.2.2.2.2.2.2.2.2.2.2.2.2.2.2.2.1).trans ?_
      refine (rn_iload (pc := 85) (dd bX13_play dX13_play_85) rfl).trans ?_
      refine (rg_iaload (pc := 87) (dd bX13_play dX13_play_87) s1.2.2.2.2.2.2.2.2.2.2.2.2.2.2.2.2.2.2.2.2.2.2.2.2.2.2.2.2.2.2.2.2.2.2.2.2.2.2.2.2.2.2.2.2.2.2.2.2.2.2.2.2.2.2.2.2.2.2.2.2.2.2.2.2.2.2.2.2.2.2.2.2.2.2.2.2.2.2.2.2.2.2.2.2.2.2.2.2.2.2.2.2.2.2.2.2.2.2.2.2.2.2.2.2.2.2.2.2.2.2.2.2.2.2.2.2.2.2.2.2.2.2.2.2.2.2.2.2.2.2.2.2.2.2.2.2.2.2.2.2.2.2.2.2.2.2.2.2.2.2.2.2.2.2.2.2.2.2.1 s1.2.2.2.2.2.2.2.2.2.2.2.2.2.2.2.2.2.2.2.2.2.2.2.2.2.2.2.2.2.2.2.2.2.2.2.2.2.2.2.2.2.2.2.2.2.2.2.2.2.2.2.2.2.2.2.2.2.2.2.2.2.2.2.2.2.2.2.2.2.2.2.2.2.2.2.2.2.2.2.2.2.2.2.2.2.2.2.2.2.2.2.2.2.2.2.2.2.2.2.2.2.2.2.2.2.2.2.2.2.2.2.2.2.2.2.2.2.2.2.2.2.2.2.2.2.2.2.2.2.2.2.2.2.2.2.2.2.2.2.2.2.2.2.2.2.2.2.2.2.2.2.2.2.2.2.2.2.2.2.1 (by have z0 := p2 c1; have z1 := p3 c1; omega) (by have z0 := p2 c1; have z1 := p3 c1; omega) rfl).trans ?_
      exact rg_virtual (pc := 88) (dd bX13_play dX13_play_88) rfl rfl (by decide) (kc := 34) rfl s1.1 (as := [(1, 282), (0, x2), (0, h 2 335 x5)]) rfl ⟨Nat.le_of_ble_eq_true rfl, Nat.le_of_ble_eq_true rfl, Nat.le_of_ble_eq_true rfl, Nat.le_of_ble_eq_true rfl⟩
    · refine (rg_iinc (pc := 102) (dd bX13_play dX13_play_102) rfl (Nat.le_of_ble_eq_true rfl) (by have z0 := p2 c1; have z1 := p3 c1; omega) (by have z0 := p2 c1; have z1 := p3 c1; omega) rfl).trans ?_
      refine (rn_goto (t := 57) (pc := 105) (dd bX13_play dX13_play_105) rfl).trans ?_
      rfl
theorem rX13_play_91 {x1 : Int} {x2 : Int} {x3 : Int} {x4 : Int} {x5 : Int} {y0 : Int} {y1 : Int} {h : vH} (p1 : (-2147483648) ≤ y1 + (if ¬ (y0 = 0) then 1 else 0)) (p2 : y1 + (if ¬ (y0 = 0) then 1 else 0) < 2147483648) (p3 : (-2147483648) ≤ x5 + 1) (p4 : x5 + 1 < 2147483648) : vrun mX13_play 91 [(1, 282), (0, x1), (0, x2), (0, x3), (0, x4), (0, x5)] [(0, y0), (0, y1)] h = vrun mX13_play 57 [(1, 282), (0, x1), (0, x2), (0, x3), (0, y1 + (if ¬ (y0 = 0) then 1 else 0)), (0, x5 + 1)] [] h := by
  have e1 : vrun mX13_play 91 [(1, 282), (0, x1), (0, x2), (0, x3), (0, x4), (0, x5)] [(0, y0), (0, y1)] h = vrun mX13_play 99 [(1, 282), (0, x1), (0, x2), (0, x3), (0, x4), (0, x5)] [(0, (if ¬ (y0 = 0) then 1 else 0)), (0, y1)] h := by
    refine (rn_if_eq (t := 98) (pc := 91) (dd bX13_play dX13_play_91) rfl).trans ?_
    by_cases c1 : y0 = 0
    · refine (if_pos c1).trans ?_
      refine (rn_iconst (pc := 98) (dd bX13_play dX13_play_98) (by decide)).trans ?_
      refine Eq.trans (b := vrun mX13_play 99 [(1, 282), (0, x1), (0, x2), (0, x3), (0, x4), (0, x5)] [(0, 0), (0, y1)] h) rfl ?_
      simp only [c1, true_or, false_or, or_true, or_false, true_and, false_and, and_true, and_false, not_true_eq_false, not_false_eq_true, ne_eq, if_true, if_false, ↓reduceIte]
    · refine (if_neg c1).trans ?_
      refine (rn_iconst (pc := 94) (dd bX13_play dX13_play_94) (by decide)).trans ?_
      refine (rn_goto (t := 99) (pc := 95) (dd bX13_play dX13_play_95) rfl).trans ?_
      refine Eq.trans (b := vrun mX13_play 99 [(1, 282), (0, x1), (0, x2), (0, x3), (0, x4), (0, x5)] [(0, 1), (0, y1)] h) rfl ?_
      simp only [c1, true_or, false_or, or_true, or_false, true_and, false_and, and_true, and_false, not_true_eq_false, not_false_eq_true, ne_eq, if_true, if_false, ↓reduceIte]
  refine e1.trans ?_
  refine (rg_iadd (pc := 99) (dd bX13_play dX13_play_99) p1 p2).trans ?_
  refine (rn_istore (pc := 100) (dd bX13_play dX13_play_100) (Nat.le_of_ble_eq_true rfl) rfl).trans ?_
  refine (rg_iinc (pc := 102) (dd bX13_play dX13_play_102) rfl (Nat.le_of_ble_eq_true rfl) p3 p4 rfl).trans ?_
  refine (rn_goto (t := 57) (pc := 105) (dd bX13_play dX13_play_105) rfl).trans ?_
  rfl
theorem bX13_cursor : vmB mX13_cursor = cX13_cursor := rfl
theorem rX13_cursor_0 {x1 : Int} {x2 : Int} {h : vH} (s1 : shModel h) : vrun mX13_cursor 0 [(1, 282), (0, x1), (0, x2)] [] h = vret vrun mX13_cursor 26 [(1, 282), (0, x1), (0, x2)] [] (vcl mX13_isFine [(1, 282), (0, (if ¬ (x1 < 0) ∧ ¬ (3 < x1) then (if ¬ (x2 < 0) ∧ ¬ (5 < x2) then 0 else 2) else 1))] h) := by
  refine (rn_aload_n (pc := 0) (dd bX13_cursor dX13_cursor_0) rfl).trans ?_
  refine (rn_iload_n (pc := 1) (dd bX13_cursor dX13_cursor_1) rfl).trans ?_
  refine (rg_static (pc := 2) (dd bX13_cursor dX13_cursor_2) rfl (by decide) (Nat.le_of_ble_eq_true rfl) (as := [(0, x1)]) rfl rfl ⟨Nat.le_of_ble_eq_true rfl, Nat.le_of_ble_eq_true rfl, Nat.le_of_ble_eq_true rfl, Nat.le_of_ble_eq_true rfl⟩).trans ?_
  refine (vret_v spX13_isPane).trans ?_
  have e2 : vrun mX13_cursor 5 [(1, 282), (0, x1), (0, x2)] [(0, (if ¬ (x1 < 0) ∧ ¬ (3 < x1) then 1 else 0)), (1, 282)] h = vrun mX13_cursor 26 [(1, 282), (0, x1), (0, x2)] [(0, (if ¬ (x1 < 0) ∧ ¬ (3 < x1) then (if ¬ (x2 < 0) ∧ ¬ (5 < x2) then 0 else 2) else 1)), (1, 282)] h := by
    refine (rg_bne (t := 12) (pc := 5) (dd bX13_cursor dX13_cursor_5) rfl).trans ?_
    by_cases c1 : ¬ (x1 < 0) ∧ ¬ (3 < x1)
    · refine (if_pos c1).trans ?_
      refine (rn_iload_n (pc := 12) (dd bX13_cursor dX13_cursor_12) rfl).trans ?_
      refine (rn_iconst (pc := 13) (dd bX13_cursor dX13_cursor_13) (by decide)).trans ?_
      refine (rn_iconst (pc := 14) (dd bX13_cursor dX13_cursor_14) (by decide)).trans ?_
      refine (rg_static (pc := 15) (dd bX13_cursor dX13_cursor_15) rfl (by decide) (Nat.le_of_ble_eq_true rfl) (as := [(0, x2), (0, 0), (0, 5)]) rfl rfl ⟨Nat.le_of_ble_eq_true rfl, Nat.le_of_ble_eq_true rfl, Nat.le_of_ble_eq_true rfl, Nat.le_of_ble_eq_true rfl⟩).trans ?_
      refine (vret_v spX13_isIn).trans ?_
      have e1 : vrun mX13_cursor 18 [(1, 282), (0, x1), (0, x2)] [(0, (if ¬ (x2 < 0) ∧ ¬ (5 < x2) then 1 else 0)), (1, 282)] h = vrun mX13_cursor 26 [(1, 282), (0, x1), (0, x2)] [(0, (if ¬ (x2 < 0) ∧ ¬ (5 < x2) then 0 else 2)), (1, 282)] h := by
        refine (rg_bne (t := 25) (pc := 18) (dd bX13_cursor dX13_cursor_18) rfl).trans ?_
        by_cases c2 : ¬ (x2 < 0) ∧ ¬ (5 < x2)
        · refine (if_pos c2).trans ?_
          refine (rn_iconst (pc := 25) (dd bX13_cursor dX13_cursor_25) (by decide)).trans ?_
          refine Eq.trans (b := vrun mX13_cursor 26 [(1, 282), (0, x1), (0, x2)] [(0, 0), (1, 282)] h) rfl ?_
          simp only [if_pos c2]
        · refine (if_neg c2).trans ?_
          refine (rn_iconst (pc := 21) (dd bX13_cursor dX13_cursor_21) (by decide)).trans ?_
          refine (rn_goto (t := 26) (pc := 22) (dd bX13_cursor dX13_cursor_22) rfl).trans ?_
          refine Eq.trans (b := vrun mX13_cursor 26 [(1, 282), (0, x1), (0, x2)] [(0, 2), (1, 282)] h) rfl ?_
          simp only [if_neg c2]
      refine e1.trans ?_
      refine Eq.trans (b := vrun mX13_cursor 26 [(1, 282), (0, x1), (0, x2)] [(0, (if ¬ (x2 < 0) ∧ ¬ (5 < x2) then 0 else 2)), (1, 282)] h) rfl ?_
      simp only [if_pos c1]
    · refine (if_neg c1).trans ?_
      refine (rn_iconst (pc := 8) (dd bX13_cursor dX13_cursor_8) (by decide)).trans ?_
      refine (rn_goto (t := 26) (pc := 9) (dd bX13_cursor dX13_cursor_9) rfl).trans ?_
      refine Eq.trans (b := vrun mX13_cursor 26 [(1, 282), (0, x1), (0, x2)] [(0, 1), (1, 282)] h) rfl ?_
      simp only [if_neg c1]
  refine e2.trans ?_
  exact rg_virtual (pc := 26) (dd bX13_cursor dX13_cursor_26) rfl rfl (by decide) (kc := 34) rfl s1.1 (as := [(1, 282), (0, (if ¬ (x1 < 0) ∧ ¬ (3 < x1) then (if ¬ (x2 < 0) ∧ ¬ (5 < x2) then 0 else 2) else 1))]) rfl ⟨Nat.le_of_ble_eq_true rfl, Nat.le_of_ble_eq_true rfl, Nat.le_of_ble_eq_true rfl, Nat.le_of_ble_eq_true rfl⟩
theorem rX13_cursor_29 {x1 : Int} {x2 : Int} {y0 : Int} {h : vH} (s1 : shModel h) (p2 : ¬ (y0 = 0) → ¬ (x2 = 0) → ¬ (x2 = 1) → ¬ (x2 = 2) → ¬ (x2 = 3) → x2 = 4 → 0 ≤ x1) (p3 : ¬ (y0 = 0) → ¬ (x2 = 0) → ¬ (x2 = 1) → ¬ (x2 = 2) → ¬ (x2 = 3) → x2 = 4 → x1 < 4) : vrun mX13_cursor 29 [(1, 282), (0, x1), (0, x2)] [(0, y0)] h = if y0 = 0 then some (.inl (some (0, 0)), h) else if x2 = 0 then vret vrun mX13_cursor 40 [(1, 282), (0, x1), (0, x2)] [] (vcl mX13_lineNow [(1, 282), (0, x1)] h) else if x2 = 1 then vret vrun mX13_cursor 53 [(1, 282), (0, x1), (0, x2)] [] (vcl mX13_placeNow [(1, 282), (0, x1)] h) else if x2 = 2 then vret vrun mX13_cursor 66 [(1, 282), (0, x1), (0, x2)] [] (vcl mX13_rowNow [(1, 282), (0, x1)] h) else if x2 = 3 then vret vrun mX13_cursor 79 [(1, 282), (0, x1), (0, x2)] [] (vcl mX13_columnNow [(1, 282), (0, x1)] h) else if x2 = 4 then some (.inl (some (0, h 2 307 x1)), h) else vret vrun mX13_cursor 101 [(1, 282), (0, x1), (0, x2)] [] (vcl mX13_topRow [(1, 282), (0, x1)] h) := by
  refine (rg_if_ne (t := 34) (pc := 29) (dd bX13_cursor dX13_cursor_29) rfl).trans (itec (fun c1 => ?_) (fun c1 => ?_))
  · refine (rn_iconst (pc := 32) (dd bX13_cursor dX13_cursor_32) (by decide)).trans ?_
    exact rn_ireturn (pc := 33) (dd bX13_cursor dX13_cursor_33) (Or.inl rfl)
  · refine (rn_iload_n (pc := 34) (dd bX13_cursor dX13_cursor_34) rfl).trans ?_
    refine (rg_if_ne (t := 46) (pc := 35) (dd bX13_cursor dX13_cursor_35) rfl).trans (itec (fun c2 => ?_) (fun c2 => ?_))
    · refine (rn_aload_n (pc := 38) (dd bX13_cursor dX13_cursor_38) rfl).trans ?_
      refine (rn_iload_n (pc := 39) (dd bX13_cursor dX13_cursor_39) rfl).trans ?_
      exact rg_virtual (pc := 40) (dd bX13_cursor dX13_cursor_40) rfl rfl (by decide) (kc := 34) rfl s1.1 (as := [(1, 282), (0, x1)]) rfl ⟨Nat.le_of_ble_eq_true rfl, Nat.le_of_ble_eq_true rfl, Nat.le_of_ble_eq_true rfl, Nat.le_of_ble_eq_true rfl⟩
    · refine (rn_iload_n (pc := 46) (dd bX13_cursor dX13_cursor_46) rfl).trans ?_
      refine (rn_iconst (pc := 47) (dd bX13_cursor dX13_cursor_47) (by decide)).trans ?_
      refine (rg_icmp_ne (t := 59) (pc := 48) (dd bX13_cursor dX13_cursor_48) rfl).trans (itec (fun c3 => ?_) (fun c3 => ?_))
      · refine (rn_aload_n (pc := 51) (dd bX13_cursor dX13_cursor_51) rfl).trans ?_
        refine (rn_iload_n (pc := 52) (dd bX13_cursor dX13_cursor_52) rfl).trans ?_
        exact rg_virtual (pc := 53) (dd bX13_cursor dX13_cursor_53) rfl rfl (by decide) (kc := 34) rfl s1.1 (as := [(1, 282), (0, x1)]) rfl ⟨Nat.le_of_ble_eq_true rfl, Nat.le_of_ble_eq_true rfl, Nat.le_of_ble_eq_true rfl, Nat.le_of_ble_eq_true rfl⟩
      · refine (rn_iload_n (pc := 59) (dd bX13_cursor dX13_cursor_59) rfl).trans ?_
        refine (rn_iconst (pc := 60) (dd bX13_cursor dX13_cursor_60) (by decide)).trans ?_
        refine (rg_icmp_ne (t := 72) (pc := 61) (dd bX13_cursor dX13_cursor_61) rfl).trans (itec (fun c4 => ?_) (fun c4 => ?_))
        · refine (rn_aload_n (pc := 64) (dd bX13_cursor dX13_cursor_64) rfl).trans ?_
          refine (rn_iload_n (pc := 65) (dd bX13_cursor dX13_cursor_65) rfl).trans ?_
          exact rg_virtual (pc := 66) (dd bX13_cursor dX13_cursor_66) rfl rfl (by decide) (kc := 34) rfl s1.1 (as := [(1, 282), (0, x1)]) rfl ⟨Nat.le_of_ble_eq_true rfl, Nat.le_of_ble_eq_true rfl, Nat.le_of_ble_eq_true rfl, Nat.le_of_ble_eq_true rfl⟩
        · refine (rn_iload_n (pc := 72) (dd bX13_cursor dX13_cursor_72) rfl).trans ?_
          refine (rn_iconst (pc := 73) (dd bX13_cursor dX13_cursor_73) (by decide)).trans ?_
          refine (rg_icmp_ne (t := 85) (pc := 74) (dd bX13_cursor dX13_cursor_74) rfl).trans (itec (fun c5 => ?_) (fun c5 => ?_))
          · refine (rn_aload_n (pc := 77) (dd bX13_cursor dX13_cursor_77) rfl).trans ?_
            refine (rn_iload_n (pc := 78) (dd bX13_cursor dX13_cursor_78) rfl).trans ?_
            exact rg_virtual (pc := 79) (dd bX13_cursor dX13_cursor_79) rfl rfl (by decide) (kc := 34) rfl s1.1 (as := [(1, 282), (0, x1)]) rfl ⟨Nat.le_of_ble_eq_true rfl, Nat.le_of_ble_eq_true rfl, Nat.le_of_ble_eq_true rfl, Nat.le_of_ble_eq_true rfl⟩
          · refine (rn_iload_n (pc := 85) (dd bX13_cursor dX13_cursor_85) rfl).trans ?_
            refine (rn_iconst (pc := 86) (dd bX13_cursor dX13_cursor_86) (by decide)).trans ?_
            refine (rg_icmp_ne (t := 99) (pc := 87) (dd bX13_cursor dX13_cursor_87) rfl).trans (itec (fun c6 => ?_) (fun c6 => ?_))
            · refine (rn_aload_n (pc := 90) (dd bX13_cursor dX13_cursor_90) rfl).trans ?_
              refine (rg_gf (pc := 91) (dd bX13_cursor dX13_cursor_91) (ci := 14) (j := 26) rfl rfl (key := 1526) rfl (kc := 34) rfl s1.1 s1.2.2.2.2.2.2.2.2.2.2.2.2.2.2.2.2.2.2.2.2.2.2.2.2.2.2.2.2.2.2.2.2.2.2.2.2.2.2.2.2.2.2.2.2.2.2.2.2.2.2.2.2.2.2.2.2.2.2.2.2.2.2.2.2.2.2.2.2.2.2.2.2.2.1).trans ?_
              refine (rn_iload_n (pc := 94) (dd bX13_cursor dX13_cursor_94) rfl).trans ?_
              refine (rg_iaload (pc := 95) (dd bX13_cursor dX13_cursor_95) s1.2.2.2.2.2.2.2.2.2.2.2.2.2.2.2.2.2.2.2.2.2.2.2.2.2.2.2.2.2.2.2.2.2.2.2.2.2.2.2.2.2.2.2.2.2.2.2.2.2.2.2.2.2.2.2.2.2.2.2.2.2.2.2.2.2.2.2.2.2.2.2.2.2.2.1 s1.2.2.2.2.2.2.2.2.2.2.2.2.2.2.2.2.2.2.2.2.2.2.2.2.2.2.2.2.2.2.2.2.2.2.2.2.2.2.2.2.2.2.2.2.2.2.2.2.2.2.2.2.2.2.2.2.2.2.2.2.2.2.2.2.2.2.2.2.2.2.2.2.2.2.2.1 (p2 c1 c2 c3 c4 c5 c6) (p3 c1 c2 c3 c4 c5 c6) rfl).trans ?_
              refine (rn_goto (t := 104) (pc := 96) (dd bX13_cursor dX13_cursor_96) rfl).trans ?_
              exact rn_ireturn (pc := 104) (dd bX13_cursor dX13_cursor_104) (Or.inl rfl)
            · refine (rn_aload_n (pc := 99) (dd bX13_cursor dX13_cursor_99) rfl).trans ?_
              refine (rn_iload_n (pc := 100) (dd bX13_cursor dX13_cursor_100) rfl).trans ?_
              exact rg_virtual (pc := 101) (dd bX13_cursor dX13_cursor_101) rfl rfl (by decide) (kc := 34) rfl s1.1 (as := [(1, 282), (0, x1)]) rfl ⟨Nat.le_of_ble_eq_true rfl, Nat.le_of_ble_eq_true rfl, Nat.le_of_ble_eq_true rfl, Nat.le_of_ble_eq_true rfl⟩
theorem rX13_cursor_43 {x1 : Int} {x2 : Int} {y0 : Int} {h : vH} : vrun mX13_cursor 43 [(1, 282), (0, x1), (0, x2)] [(0, y0)] h = some (.inl (some (0, y0)), h) := by
  refine (rn_goto (t := 104) (pc := 43) (dd bX13_cursor dX13_cursor_43) rfl).trans ?_
  exact rn_ireturn (pc := 104) (dd bX13_cursor dX13_cursor_104) (Or.inl rfl)
theorem rX13_cursor_56 {x1 : Int} {x2 : Int} {y0 : Int} {h : vH} : vrun mX13_cursor 56 [(1, 282), (0, x1), (0, x2)] [(0, y0)] h = some (.inl (some (0, y0)), h) := by
  refine (rn_goto (t := 104) (pc := 56) (dd bX13_cursor dX13_cursor_56) rfl).trans ?_
  exact rn_ireturn (pc := 104) (dd bX13_cursor dX13_cursor_104) (Or.inl rfl)
theorem rX13_cursor_69 {x1 : Int} {x2 : Int} {y0 : Int} {h : vH} : vrun mX13_cursor 69 [(1, 282), (0, x1), (0, x2)] [(0, y0)] h = some (.inl (some (0, y0)), h) := by
  refine (rn_goto (t := 104) (pc := 69) (dd bX13_cursor dX13_cursor_69) rfl).trans ?_
  exact rn_ireturn (pc := 104) (dd bX13_cursor dX13_cursor_104) (Or.inl rfl)
theorem rX13_cursor_82 {x1 : Int} {x2 : Int} {y0 : Int} {h : vH} : vrun mX13_cursor 82 [(1, 282), (0, x1), (0, x2)] [(0, y0)] h = some (.inl (some (0, y0)), h) := by
  refine (rn_goto (t := 104) (pc := 82) (dd bX13_cursor dX13_cursor_82) rfl).trans ?_
  exact rn_ireturn (pc := 104) (dd bX13_cursor dX13_cursor_104) (Or.inl rfl)
theorem rX13_cursor_104 {x1 : Int} {x2 : Int} {y0 : Int} {h : vH} : vrun mX13_cursor 104 [(1, 282), (0, x1), (0, x2)] [(0, y0)] h = some (.inl (some (0, y0)), h) := by
  exact rn_ireturn (pc := 104) (dd bX13_cursor dX13_cursor_104) (Or.inl rfl)
theorem bX13_scroll : vmB mX13_scroll = cX13_scroll := rfl
theorem rX13_scroll_0 {x1 : Int} {x2 : Int} {h : vH} (s1 : shModel h) (p2 : ¬ (x1 < 0) ∧ ¬ (3 < x1) → ¬ (x2 < (-100)) ∧ ¬ (100 < x2) → 0 ≤ x1) (p3 : ¬ (x1 < 0) ∧ ¬ (3 < x1) → ¬ (x2 < (-100)) ∧ ¬ (100 < x2) → x1 < 4) : vrun mX13_scroll 0 [(1, 282), (0, x1), (0, x2), (9, 0), (9, 0), (9, 0), (9, 0), (9, 0), (9, 0)] [] h = vret vrun mX13_scroll 43 [(1, 282), (0, x1), (0, x2), (0, (if ¬ (x1 < 0) ∧ ¬ (3 < x1) then 1 else 0)), (9, 0), (9, 0), (9, 0), (9, 0), (9, 0)] [] (vcl mX13_isFine [(1, 282), (0, (if ¬ (x1 < 0) ∧ ¬ (3 < x1) then (if ¬ (x2 < (-100)) ∧ ¬ (100 < x2) then (if h 2 289 x1 = 0 then 3 else 0) else 2) else 1))] h) := by
  refine (rn_iload_n (pc := 0) (dd bX13_scroll dX13_scroll_0) rfl).trans ?_
  refine (rg_static (pc := 1) (dd bX13_scroll dX13_scroll_1) rfl (by decide) (Nat.le_of_ble_eq_true rfl) (as := [(0, x1)]) rfl rfl ⟨Nat.le_of_ble_eq_true rfl, Nat.le_of_ble_eq_true rfl, Nat.le_of_ble_eq_true rfl, Nat.le_of_ble_eq_true rfl⟩).trans ?_
  refine (vret_v spX13_isPane).trans ?_
  refine (rn_istore_n (pc := 4) (dd bX13_scroll dX13_scroll_4) (Nat.le_of_ble_eq_true rfl) rfl).trans ?_
  refine (rn_aload_n (pc := 5) (dd bX13_scroll dX13_scroll_5) rfl).trans ?_
  refine (rn_iload_n (pc := 6) (dd bX13_scroll dX13_scroll_6) rfl).trans ?_
  have e3 : vrun mX13_scroll 7 [(1, 282), (0, x1), (0, x2), (0, (if ¬ (x1 < 0) ∧ ¬ (3 < x1) then 1 else 0)), (9, 0), (9, 0), (9, 0), (9, 0), (9, 0)] [(0, (if ¬ (x1 < 0) ∧ ¬ (3 < x1) then 1 else 0)), (1, 282)] h = vrun mX13_scroll 43 [(1, 282), (0, x1), (0, x2), (0, (if ¬ (x1 < 0) ∧ ¬ (3 < x1) then 1 else 0)), (9, 0), (9, 0), (9, 0), (9, 0), (9, 0)] [(0, (if ¬ (x1 < 0) ∧ ¬ (3 < x1) then (if ¬ (x2 < (-100)) ∧ ¬ (100 < x2) then (if h 2 289 x1 = 0 then 3 else 0) else 2) else 1)), (1, 282)] h := by
    refine (rg_bne (t := 14) (pc := 7) (dd bX13_scroll dX13_scroll_7) rfl).trans ?_
    by_cases c1 : ¬ (x1 < 0) ∧ ¬ (3 < x1)
    · refine (if_pos c1).trans ?_
      refine (rn_iload_n (pc := 14) (dd bX13_scroll dX13_scroll_14) rfl).trans ?_
      refine (rn_bipush (pc := 15) (dd bX13_scroll dX13_scroll_15) (by decide)).trans ?_
      refine (rn_bipush (pc := 17) (dd bX13_scroll dX13_scroll_17) (by decide)).trans ?_
      refine (rg_static (pc := 19) (dd bX13_scroll dX13_scroll_19) rfl (by decide) (Nat.le_of_ble_eq_true rfl) (as := [(0, x2), (0, (-100)), (0, 100)]) rfl rfl ⟨Nat.le_of_ble_eq_true rfl, Nat.le_of_ble_eq_true rfl, Nat.le_of_ble_eq_true rfl, Nat.le_of_ble_eq_true rfl⟩).trans ?_
      refine (vret_v spX13_isIn).trans ?_
      have e2 : vrun mX13_scroll 22 [(1, 282), (0, x1), (0, x2), (0, (if ¬ (x1 < 0) ∧ ¬ (3 < x1) then 1 else 0)), (9, 0), (9, 0), (9, 0), (9, 0), (9, 0)] [(0, (if ¬ (x2 < (-100)) ∧ ¬ (100 < x2) then 1 else 0)), (1, 282)] h = vrun mX13_scroll 43 [(1, 282), (0, x1), (0, x2), (0, (if ¬ (x1 < 0) ∧ ¬ (3 < x1) then 1 else 0)), (9, 0), (9, 0), (9, 0), (9, 0), (9, 0)] [(0, (if ¬ (x2 < (-100)) ∧ ¬ (100 < x2) then (if h 2 289 x1 = 0 then 3 else 0) else 2)), (1, 282)] h := by
        refine (rg_bne (t := 29) (pc := 22) (dd bX13_scroll dX13_scroll_22) rfl).trans ?_
        by_cases c2 : ¬ (x2 < (-100)) ∧ ¬ (100 < x2)
        · refine (if_pos c2).trans ?_
          refine (rn_aload_n (pc := 29) (dd bX13_scroll dX13_scroll_29) rfl).trans ?_
          refine (rg_gf (pc := 30) (dd bX13_scroll dX13_scroll_30) (ci := 14) (j := 8) rfl rfl (key := 1508) rfl (kc := 34) rfl s1.1 s1.2.2.2.2.2.2.2.2.2.2.2.2.2.2.2.2.2.2.2.1).trans ?_
          refine (rn_iload_n (pc := 33) (dd bX13_scroll dX13_scroll_33) rfl).trans ?_
          refine (rg_baload (pc := 34) (dd bX13_scroll dX13_scroll_34) s1.2.2.2.2.2.2.2.2.2.2.2.2.2.2.2.2.2.2.2.2.1 s1.2.2.2.2.2.2.2.2.2.2.2.2.2.2.2.2.2.2.2.2.2.1 (p2 c1 c2) (p3 c1 c2) rfl).trans ?_
          have e1 : vrun mX13_scroll 35 [(1, 282), (0, x1), (0, x2), (0, (if ¬ (x1 < 0) ∧ ¬ (3 < x1) then 1 else 0)), (9, 0), (9, 0), (9, 0), (9, 0), (9, 0)] [(0, h 2 289 x1), (1, 282)] h = vrun mX13_scroll 43 [(1, 282), (0, x1), (0, x2), (0, (if ¬ (x1 < 0) ∧ ¬ (3 < x1) then 1 else 0)), (9, 0), (9, 0), (9, 0), (9, 0), (9, 0)] [(0, (if h 2 289 x1 = 0 then 3 else 0)), (1, 282)] h := by
            refine (rg_if_ne (t := 42) (pc := 35) (dd bX13_scroll dX13_scroll_35) rfl).trans ?_
            by_cases c3 : h 2 289 x1 = 0
            · refine (if_pos c3).trans ?_
              refine (rn_iconst (pc := 38) (dd bX13_scroll dX13_scroll_38) (by decide)).trans ?_
              refine (rn_goto (t := 43) (pc := 39) (dd bX13_scroll dX13_scroll_39) rfl).trans ?_
              refine Eq.trans (b := vrun mX13_scroll 43 [(1, 282), (0, x1), (0, x2), (0, (if ¬ (x1 < 0) ∧ ¬ (3 < x1) then 1 else 0)), (9, 0), (9, 0), (9, 0), (9, 0), (9, 0)] [(0, 3), (1, 282)] h) rfl ?_
              simp only [if_pos c3]
            · refine (if_neg c3).trans ?_
              refine (rn_iconst (pc := 42) (dd bX13_scroll dX13_scroll_42) (by decide)).trans ?_
              refine Eq.trans (b := vrun mX13_scroll 43 [(1, 282), (0, x1), (0, x2), (0, (if ¬ (x1 < 0) ∧ ¬ (3 < x1) then 1 else 0)), (9, 0), (9, 0), (9, 0), (9, 0), (9, 0)] [(0, 0), (1, 282)] h) rfl ?_
              simp only [if_neg c3]
          refine e1.trans ?_
          refine Eq.trans (b := vrun mX13_scroll 43 [(1, 282), (0, x1), (0, x2), (0, (if ¬ (x1 < 0) ∧ ¬ (3 < x1) then 1 else 0)), (9, 0), (9, 0), (9, 0), (9, 0), (9, 0)] [(0, (if h 2 289 x1 = 0 then 3 else 0)), (1, 282)] h) rfl ?_
          simp only [if_pos c2]
        · refine (if_neg c2).trans ?_
          refine (rn_iconst (pc := 25) (dd bX13_scroll dX13_scroll_25) (by decide)).trans ?_
          refine (rn_goto (t := 43) (pc := 26) (dd bX13_scroll dX13_scroll_26) rfl).trans ?_
          refine Eq.trans (b := vrun mX13_scroll 43 [(1, 282), (0, x1), (0, x2), (0, (if ¬ (x1 < 0) ∧ ¬ (3 < x1) then 1 else 0)), (9, 0), (9, 0), (9, 0), (9, 0), (9, 0)] [(0, 2), (1, 282)] h) rfl ?_
          simp only [if_neg c2]
      refine e2.trans ?_
      refine Eq.trans (b := vrun mX13_scroll 43 [(1, 282), (0, x1), (0, x2), (0, (if ¬ (x1 < 0) ∧ ¬ (3 < x1) then 1 else 0)), (9, 0), (9, 0), (9, 0), (9, 0), (9, 0)] [(0, (if ¬ (x2 < (-100)) ∧ ¬ (100 < x2) then (if h 2 289 x1 = 0 then 3 else 0) else 2)), (1, 282)] h) rfl ?_
      simp only [if_pos c1]
    · refine (if_neg c1).trans ?_
      refine (rn_iconst (pc := 10) (dd bX13_scroll dX13_scroll_10) (by decide)).trans ?_
      refine (rn_goto (t := 43) (pc := 11) (dd bX13_scroll dX13_scroll_11) rfl).trans ?_
      refine Eq.trans (b := vrun mX13_scroll 43 [(1, 282), (0, x1), (0, x2), (0, (if ¬ (x1 < 0) ∧ ¬ (3 < x1) then 1 else 0)), (9, 0), (9, 0), (9, 0), (9, 0), (9, 0)] [(0, 1), (1, 282)] h) rfl ?_
      simp only [if_neg c1]
  refine e3.trans ?_
  exact rg_virtual (pc := 43) (dd bX13_scroll dX13_scroll_43) rfl rfl (by decide) (kc := 34) rfl s1.1 (as := [(1, 282), (0, (if ¬ (x1 < 0) ∧ ¬ (3 < x1) then (if ¬ (x2 < (-100)) ∧ ¬ (100 < x2) then (if h 2 289 x1 = 0 then 3 else 0) else 2) else 1))]) rfl ⟨Nat.le_of_ble_eq_true rfl, Nat.le_of_ble_eq_true rfl, Nat.le_of_ble_eq_true rfl, Nat.le_of_ble_eq_true rfl⟩
theorem rX13_scroll_46 {x1 : Int} {x2 : Int} {x3 : Int} {y0 : Int} {h : vH} (s1 : shModel h) : vrun mX13_scroll 46 [(1, 282), (0, x1), (0, x2), (0, x3), (9, 0), (9, 0), (9, 0), (9, 0), (9, 0)] [(0, y0)] h = if y0 = 0 then some (.inl (some (0, 0)), h) else vret vrun mX13_scroll 57 [(1, 282), (0, x1), (0, x2), (0, x3), (9, 0), (9, 0), (9, 0), (9, 0), (9, 0)] [] (vcl mX13_rowsAhead [(1, 282), (0, x1), (0, h 1504 282 0)] h) := by
  refine (rg_if_ne (t := 51) (pc := 46) (dd bX13_scroll dX13_scroll_46) rfl).trans (itec (fun c1 => ?_) (fun c1 => ?_))
  · refine (rn_iconst (pc := 49) (dd bX13_scroll dX13_scroll_49) (by decide)).trans ?_
    exact rn_ireturn (pc := 50) (dd bX13_scroll dX13_scroll_50) (Or.inl rfl)
  · refine (rn_aload_n (pc := 51) (dd bX13_scroll dX13_scroll_51) rfl).trans ?_
    refine (rn_iload_n (pc := 52) (dd bX13_scroll dX13_scroll_52) rfl).trans ?_
    refine (rn_aload_n (pc := 53) (dd bX13_scroll dX13_scroll_53) rfl).trans ?_
    refine (rg_gf (pc := 54) (dd bX13_scroll dX13_scroll_54) (ci := 14) (j := 4) rfl rfl (key := 1504) rfl (kc := 34) rfl s1.1 rfl).trans ?_
    exact rg_virtual (pc := 57) (dd bX13_scroll dX13_scroll_57) rfl rfl (by decide) (kc := 34) rfl s1.1 (as := [(1, 282), (0, x1), (0, h 1504 282 0)]) rfl ⟨Nat.le_of_ble_eq_true rfl, Nat.le_of_ble_eq_true rfl, Nat.le_of_ble_eq_true rfl, Nat.le_of_ble_eq_true rfl⟩
theorem rX13_scroll_60 {x1 : Int} {x2 : Int} {x3 : Int} {y0 : Int} {h : vH} (p1 : (-2147483648) ≤ y0 - 1) (p2 : y0 - 1 < 2147483648) (s3 : shModel h) : vrun mX13_scroll 60 [(1, 282), (0, x1), (0, x2), (0, x3), (9, 0), (9, 0), (9, 0), (9, 0), (9, 0)] [(0, y0)] h = vret vrun mX13_scroll 68 [(1, 282), (0, x1), (0, x2), (0, x3), (0, y0 - 1), (9, 0), (9, 0), (9, 0), (9, 0)] [(0, x1), (1, 282)] (vcl mX13_topRow [(1, 282), (0, x1)] h) := by
  refine (rn_iconst (pc := 60) (dd bX13_scroll dX13_scroll_60) (by decide)).trans ?_
  refine (rg_isub (pc := 61) (dd bX13_scroll dX13_scroll_61) p1 p2).trans ?_
  refine (rn_istore (pc := 62) (dd bX13_scroll dX13_scroll_62) (Nat.le_of_ble_eq_true rfl) rfl).trans ?_
  refine (rn_aload_n (pc := 64) (dd bX13_scroll dX13_scroll_64) rfl).trans ?_
  refine (rn_iload_n (pc := 65) (dd bX13_scroll dX13_scroll_65) rfl).trans ?_
  refine (rn_aload_n (pc := 66) (dd bX13_scroll dX13_scroll_66) rfl).trans ?_
  refine (rn_iload_n (pc := 67) (dd bX13_scroll dX13_scroll_67) rfl).trans ?_
  exact rg_virtual (pc := 68) (dd bX13_scroll dX13_scroll_68) rfl rfl (by decide) (kc := 34) rfl s3.1 (as := [(1, 282), (0, x1)]) rfl ⟨Nat.le_of_ble_eq_true rfl, Nat.le_of_ble_eq_true rfl, Nat.le_of_ble_eq_true rfl, Nat.le_of_ble_eq_true rfl⟩
theorem rX13_scroll_71 {x1 : Int} {x2 : Int} {x3 : Int} {x4 : Int} {y0 : Int} {y1 : Int} {h : vH} (p1 : (-2147483648) ≤ y0 + x2) (p2 : y0 + x2 < 2147483648) (s3 : shModel h) : vrun mX13_scroll 71 [(1, 282), (0, x1), (0, x2), (0, x3), (0, x4), (9, 0), (9, 0), (9, 0), (9, 0)] [(0, y0), (0, y1), (1, 282)] h = vret vrun mX13_scroll 82 [(1, 282), (0, x1), (0, x2), (0, x3), (0, x4), (9, 0), (9, 0), (9, 0), (9, 0)] [] (vcl mX13_tops [(1, 282), (0, y1), (0, (if x4 ≤ (if y0 + x2 ≤ 0 then 0 else y0 + x2) then x4 else (if y0 + x2 ≤ 0 then 0 else y0 + x2)))] h) := by
  refine (rn_iload_n (pc := 71) (dd bX13_scroll dX13_scroll_71) rfl).trans ?_
  refine (rg_iadd (pc := 72) (dd bX13_scroll dX13_scroll_72) p1 p2).trans ?_
  refine (rn_iconst (pc := 73) (dd bX13_scroll dX13_scroll_73) (by decide)).trans ?_
  refine (rg_static (pc := 74) (dd bX13_scroll dX13_scroll_74) rfl (by decide) (Nat.le_of_ble_eq_true rfl) (as := [(0, y0 + x2), (0, 0)]) rfl rfl ⟨Nat.le_of_ble_eq_true rfl, Nat.le_of_ble_eq_true rfl, Nat.le_of_ble_eq_true rfl, Nat.le_of_ble_eq_true rfl⟩).trans ?_
  refine (vret_v spX13_greater).trans ?_
  refine (rn_iload (pc := 77) (dd bX13_scroll dX13_scroll_77) rfl).trans ?_
  refine (rg_static (pc := 79) (dd bX13_scroll dX13_scroll_79) rfl (by decide) (Nat.le_of_ble_eq_true rfl) (as := [(0, (if y0 + x2 ≤ 0 then 0 else y0 + x2)), (0, x4)]) rfl rfl ⟨Nat.le_of_ble_eq_true rfl, Nat.le_of_ble_eq_true rfl, Nat.le_of_ble_eq_true rfl, Nat.le_of_ble_eq_true rfl⟩).trans ?_
  refine (vret_v spX13_lesser).trans ?_
  exact rg_virtual (pc := 82) (dd bX13_scroll dX13_scroll_82) rfl rfl (by decide) (kc := 34) rfl s3.1 (as := [(1, 282), (0, y1), (0, (if x4 ≤ (if y0 + x2 ≤ 0 then 0 else y0 + x2) then x4 else (if y0 + x2 ≤ 0 then 0 else y0 + x2)))]) rfl ⟨Nat.le_of_ble_eq_true rfl, Nat.le_of_ble_eq_true rfl, Nat.le_of_ble_eq_true rfl, Nat.le_of_ble_eq_true rfl⟩
theorem rX13_scroll_85 {x1 : Int} {x2 : Int} {x3 : Int} {x4 : Int} {h : vH} (s1 : shModel h) : vrun mX13_scroll 85 [(1, 282), (0, x1), (0, x2), (0, x3), (0, x4), (9, 0), (9, 0), (9, 0), (9, 0)] [] h = vret vrun mX13_scroll 87 [(1, 282), (0, x1), (0, x2), (0, x3), (0, x4), (9, 0), (9, 0), (9, 0), (9, 0)] [] (vcl mX13_topRow [(1, 282), (0, x1)] h) := by
  refine (rn_aload_n (pc := 85) (dd bX13_scroll dX13_scroll_85) rfl).trans ?_
  refine (rn_iload_n (pc := 86) (dd bX13_scroll dX13_scroll_86) rfl).trans ?_
  exact rg_virtual (pc := 87) (dd bX13_scroll dX13_scroll_87) rfl rfl (by decide) (kc := 34) rfl s1.1 (as := [(1, 282), (0, x1)]) rfl ⟨Nat.le_of_ble_eq_true rfl, Nat.le_of_ble_eq_true rfl, Nat.le_of_ble_eq_true rfl, Nat.le_of_ble_eq_true rfl⟩
theorem rX13_scroll_90 {x1 : Int} {x2 : Int} {x3 : Int} {x4 : Int} {y0 : Int} {h : vH} (s1 : shModel h) (p2 : 0 ≤ x1) (p3 : x1 < 4) (p4 : (-2147483648) ≤ h 2 310 x1 - 1) (p5 : h 2 310 x1 - 1 < 2147483648) (p6 : 0 ≤ h 2 310 x1 - 1) : vrun mX13_scroll 90 [(1, 282), (0, x1), (0, x2), (0, x3), (0, x4), (9, 0), (9, 0), (9, 0), (9, 0)] [(0, y0)] h = vret vrun mX13_scroll 101 [(1, 282), (0, x1), (0, x2), (0, x3), (0, x4), (0, y0), (0, fX13_marginOf h x1), (9, 0), (9, 0)] [] (vcl mX13_rowNow [(1, 282), (0, x1)] h) := by
  refine (rn_istore (pc := 90) (dd bX13_scroll dX13_scroll_90) (Nat.le_of_ble_eq_true rfl) rfl).trans ?_
  refine (rn_aload_n (pc := 92) (dd bX13_scroll dX13_scroll_92) rfl).trans ?_
  refine (rn_iload_n (pc := 93) (dd bX13_scroll dX13_scroll_93) rfl).trans ?_
  refine (rg_virtual (pc := 94) (dd bX13_scroll dX13_scroll_94) rfl rfl (by decide) (kc := 34) rfl s1.1 (as := [(1, 282), (0, x1)]) rfl ⟨Nat.le_of_ble_eq_true rfl, Nat.le_of_ble_eq_true rfl, Nat.le_of_ble_eq_true rfl, Nat.le_of_ble_eq_true rfl⟩).trans ?_
  refine (vret_v (spX13_marginOf s1 p2 p3 p4 p5 p6)).trans ?_
  refine (rn_istore (pc := 97) (dd bX13_scroll dX13_scroll_97) (Nat.le_of_ble_eq_true rfl) rfl).trans ?_
  refine (rn_aload_n (pc := 99) (dd bX13_scroll dX13_scroll_99) rfl).trans ?_
  refine (rn_iload_n (pc := 100) (dd bX13_scroll dX13_scroll_100) rfl).trans ?_
  exact rg_virtual (pc := 101) (dd bX13_scroll dX13_scroll_101) rfl rfl (by decide) (kc := 34) rfl s1.1 (as := [(1, 282), (0, x1)]) rfl ⟨Nat.le_of_ble_eq_true rfl, Nat.le_of_ble_eq_true rfl, Nat.le_of_ble_eq_true rfl, Nat.le_of_ble_eq_true rfl⟩
theorem rX13_scroll_104 {x1 : Int} {x2 : Int} {x3 : Int} {x4 : Int} {x5 : Int} {x6 : Int} {y0 : Int} {h : vH} (p1 : (-2147483648) ≤ x5 + x6) (p2 : x5 + x6 < 2147483648) (s3 : shModel h) (p4 : x5 + x6 ≤ y0 → 0 ≤ x1) (p5 : x5 + x6 ≤ y0 → x1 < 4) (p6 : x5 + x6 ≤ y0 → (-2147483648) ≤ x5 + h 2 310 x1) (p7 : x5 + x6 ≤ y0 → x5 + h 2 310 x1 < 2147483648) (p8 : x5 + x6 ≤ y0 → (-2147483648) ≤ x5 + h 2 310 x1 - 1) (p9 : x5 + x6 ≤ y0 → (-2147483648) ≤ x5 + h 2 310 x1 - 1 - x6) (p10 : x5 + x6 ≤ y0 → x5 + h 2 310 x1 - 1 - x6 < 2147483648) : vrun mX13_scroll 104 [(1, 282), (0, x1), (0, x2), (0, x3), (0, x4), (0, x5), (0, x6), (9, 0), (9, 0)] [(0, y0)] h = if (if x4 ≤ (if x5 + x6 ≤ y0 then (if y0 ≤ x5 + h 2 310 x1 - 1 - x6 then y0 else x5 + h 2 310 x1 - 1 - x6) else x5 + x6) then x4 else (if x5 + x6 ≤ y0 then (if y0 ≤ x5 + h 2 310 x1 - 1 - x6 then y0 else x5 + h 2 310 x1 - 1 - x6) else x5 + x6)) = y0 then vret vrun mX13_scroll 203 [(1, 282), (0, x1), (0, x2), (0, x3), (0, x4), (0, x5), (0, x6), (0, y0), (0, (if x4 ≤ (if x5 + x6 ≤ y0 then (if y0 ≤ x5 + h 2 310 x1 - 1 - x6 then y0 else x5 + h 2 310 x1 - 1 - x6) else x5 + x6) then x4 else (if x5 + x6 ≤ y0 then (if y0 ≤ x5 + h 2 310 x1 - 1 - x6 then y0 else x5 + h 2 310 x1 - 1 - x6) else x5 + x6)))] [] (vcl mX13_topRow [(1, 282), (0, x1)] h) else vret vrun mX13_scroll 182 [(1, 282), (0, x1), (0, x2), (0, x3), (0, x4), (0, x5), (0, x6), (0, y0), (0, (if x4 ≤ (if x5 + x6 ≤ y0 then (if y0 ≤ x5 + h 2 310 x1 - 1 - x6 then y0 else x5 + h 2 310 x1 - 1 - x6) else x5 + x6) then x4 else (if x5 + x6 ≤ y0 then (if y0 ≤ x5 + h 2 310 x1 - 1 - x6 then y0 else x5 + h 2 310 x1 - 1 - x6) else x5 + x6)))] [(0, x1), (1, 282)] (vcl mX13_lineOf [(1, 282), (0, x1), (0, (if x4 ≤ (if x5 + x6 ≤ y0 then (if y0 ≤ x5 + h 2 310 x1 - 1 - x6 then y0 else x5 + h 2 310 x1 - 1 - x6) else x5 + x6) then x4 else (if x5 + x6 ≤ y0 then (if y0 ≤ x5 + h 2 310 x1 - 1 - x6 then y0 else x5 + h 2 310 x1 - 1 - x6) else x5 + x6)))] h) := by
  refine (rn_istore (pc := 104) (dd bX13_scroll dX13_scroll_104) (Nat.le_of_ble_eq_true rfl) rfl).trans ?_
  refine (rn_iload (pc := 106) (dd bX13_scroll dX13_scroll_106) rfl).trans ?_
  refine (rn_iload (pc := 108) (dd bX13_scroll dX13_scroll_108) rfl).trans ?_
  refine (rn_iload (pc := 110) (dd bX13_scroll dX13_scroll_110) rfl).trans ?_
  refine (rg_iadd (pc := 112) (dd bX13_scroll dX13_scroll_112) p1 p2).trans ?_
  have e2 : vrun mX13_scroll 113 [(1, 282), (0, x1), (0, x2), (0, x3), (0, x4), (0, x5), (0, x6), (0, y0), (9, 0)] [(0, x5 + x6), (0, y0)] h = vrun mX13_scroll 162 [(1, 282), (0, x1), (0, x2), (0, x3), (0, x4), (0, x5), (0, x6), (0, y0), (9, 0)] [(0, (if x5 + x6 ≤ y0 then (if y0 ≤ x5 + h 2 310 x1 - 1 - x6 then y0 else x5 + h 2 310 x1 - 1 - x6) else x5 + x6))] h := by
    refine (rn_icmp_ge (t := 124) (pc := 113) (dd bX13_scroll dX13_scroll_113) rfl).trans ?_
    by_cases c1 : x5 + x6 ≤ y0
    · refine (if_pos c1).trans ?_
      refine (rn_iload (pc := 124) (dd bX13_scroll dX13_scroll_124) rfl).trans ?_
      refine (rn_iload (pc := 126) (dd bX13_scroll dX13_scroll_126) rfl).trans ?_
      refine (rn_aload_n (pc := 128) (dd bX13_scroll dX13_scroll_128) rfl).trans ?_
      refine (rg_gf (pc := 129) (dd bX13_scroll dX13_scroll_129) (ci := 14) (j := 29) rfl rfl (key := 1529) rfl (kc := 34) rfl s3.1 s3.2.2.2.2.2.2.2.2.2.2.2.2.2.2.2.2.2.2.2.2.2.2.2.2.2.2.2.2.2.2.2.2.2.2.2.2.2.2.2.2.2.2.2.2.2.2.2.2.2.2.2.2.2.2.2.2.2.2.2.2.2.2.2.2.2.2.2.2.2.2.2.2.2.2.2.2.2.2.2.2.2.2.1).trans ?_
      refine (rn_iload_n (pc := 132) (dd bX13_scroll dX13_scroll_132) rfl).trans ?_
      refine (rg_iaload (pc := 133) (dd bX13_scroll dX13_scroll_133) s3.2.2.2.2.2.2.2.2.2.2.2.2.2.2.2.2.2.2.2.2.2.2.2.2.2.2.2.2.2.2.2.2.2.2.2.2.2.2.2.2.2.2.2.2.2.2.2.2.2.2.2.2.2.2.2.2.2.2.2.2.2.2.2.2.2.2.2.2.2.2.2.2.2.2.2.2.2.2.2.2.2.2.2.1 s3.2.2.2.2.2.2.2.2.2.2.2.2.2.2.2.2.2.2.2.2.2.2.2.2.2.2.2.2.2.2.2.2.2.2.2.2.2.2.2.2.2.2.2.2.2.2.2.2.2.2.2.2.2.2.2.2.2.2.2.2.2.2.2.2.2.2.2.2.2.2.2.2.2.2.2.2.2.2.2.2.2.2.2.2.1 (p4 c1) (p5 c1) rfl).trans ?_
      refine (rg_iadd (pc := 134) (dd bX13_scroll dX13_scroll_134) (p6 c1) (p7 c1)).trans ?_
      refine (rn_iconst (pc := 135) (dd bX13_scroll dX13_scroll_135) (by decide)).trans ?_
      refine (rg_isub (pc := 136) (dd bX13_scroll dX13_scroll_136) (p8 c1) (by have z0 := p6 c1; have z1 := p7 c1; have z2 := p8 c1; omega)).trans ?_
      refine (rn_iload (pc := 137) (dd bX13_scroll dX13_scroll_137) rfl).trans ?_
      refine (rg_isub (pc := 139) (dd bX13_scroll dX13_scroll_139) (p9 c1) (p10 c1)).trans ?_
      have e1 : vrun mX13_scroll 140 [(1, 282), (0, x1), (0, x2), (0, x3), (0, x4), (0, x5), (0, x6), (0, y0), (9, 0)] [(0, x5 + h 2 310 x1 - 1 - x6), (0, y0)] h = vrun mX13_scroll 162 [(1, 282), (0, x1), (0, x2), (0, x3), (0, x4), (0, x5), (0, x6), (0, y0), (9, 0)] [(0, (if y0 ≤ x5 + h 2 310 x1 - 1 - x6 then y0 else x5 + h 2 310 x1 - 1 - x6))] h := by
        refine (rn_icmp_le (t := 160) (pc := 140) (dd bX13_scroll dX13_scroll_140) rfl).trans ?_
        by_cases c2 : y0 ≤ x5 + h 2 310 x1 - 1 - x6
        · refine (if_pos c2).trans ?_
          refine (rn_iload (pc := 160) (dd bX13_scroll dX13_scroll_160) rfl).trans ?_
          refine Eq.trans (b := vrun mX13_scroll 162 [(1, 282), (0, x1), (0, x2), (0, x3), (0, x4), (0, x5), (0, x6), (0, y0), (9, 0)] [(0, y0)] h) rfl ?_
          simp only [if_pos c2]
        · refine (if_neg c2).trans ?_
          refine (rn_iload (pc := 143) (dd bX13_scroll dX13_scroll_143) rfl).trans ?_
          refine (rn_aload_n (pc := 145) (dd bX13_scroll dX13_scroll_145) rfl).trans ?_
          refine (rg_gf (pc := 146) (dd bX13_scroll dX13_scroll_146) (ci := 14) (j := 29) rfl rfl (key := 1529) rfl (kc := 34) rfl s3.1 s3.2.2.2.2.2.2.2.2.2.2.2.2.2.2.2.2.2.2.2.2.2.2.2.2.2.2.2.2.2.2.2.2.2.2.2.2.2.2.2.2.2.2.2.2.2.2.2.2.2.2.2.2.2.2.2.2.2.2.2.2.2.2.2.2.2.2.2.2.2.2.2.2.2.2.2.2.2.2.2.2.2.2.1).trans ?_
          refine (rn_iload_n (pc := 149) (dd bX13_scroll dX13_scroll_149) rfl).trans ?_
          refine (rg_iaload (pc := 150) (dd bX13_scroll dX13_scroll_150) s3.2.2.2.2.2.2.2.2.2.2.2.2.2.2.2.2.2.2.2.2.2.2.2.2.2.2.2.2.2.2.2.2.2.2.2.2.2.2.2.2.2.2.2.2.2.2.2.2.2.2.2.2.2.2.2.2.2.2.2.2.2.2.2.2.2.2.2.2.2.2.2.2.2.2.2.2.2.2.2.2.2.2.2.1 s3.2.2.2.2.2.2.2.2.2.2.2.2.2.2.2.2.2.2.2.2.2.2.2.2.2.2.2.2.2.2.2.2.2.2.2.2.2.2.2.2.2.2.2.2.2.2.2.2.2.2.2.2.2.2.2.2.2.2.2.2.2.2.2.2.2.2.2.2.2.2.2.2.2.2.2.2.2.2.2.2.2.2.2.2.1 (by have z0 := p4 c1; have z1 := p5 c1; omega) (by have z0 := p4 c1; have z1 := p5 c1; omega) rfl).trans ?_
          refine (rg_iadd (pc := 151) (dd bX13_scroll dX13_scroll_151) (by have z0 := p6 c1; have z1 := p7 c1; omega) (by have z0 := p6 c1; have z1 := p7 c1; omega)).trans ?_
          refine (rn_iconst (pc := 152) (dd bX13_scroll dX13_scroll_152) (by decide)).trans ?_
          refine (rg_isub (pc := 153) (dd bX13_scroll dX13_scroll_153) (by have z0 := p6 c1; have z1 := p7 c1; have z2 := p8 c1; omega) (by have z0 := p6 c1; have z1 := p7 c1; have z2 := p8 c1; omega)).trans ?_
          refine (rn_iload (pc := 154) (dd bX13_scroll dX13_scroll_154) rfl).trans ?_
          refine (rg_isub (pc := 156) (dd bX13_scroll dX13_scroll_156) (by have z0 := p6 c1; have z1 := p7 c1; have z2 := p8 c1; have z3 := p9 c1; have z4 := p10 c1; omega) (by have z0 := p6 c1; have z1 := p7 c1; have z2 := p8 c1; have z3 := p9 c1; have z4 := p10 c1; omega)).trans ?_
          refine (rn_goto (t := 162) (pc := 157) (dd bX13_scroll dX13_scroll_157) rfl).trans ?_
          refine Eq.trans (b := vrun mX13_scroll 162 [(1, 282), (0, x1), (0, x2), (0, x3), (0, x4), (0, x5), (0, x6), (0, y0), (9, 0)] [(0, x5 + h 2 310 x1 - 1 - x6)] h) rfl ?_
          simp only [if_neg c2]
      refine e1.trans ?_
      refine Eq.trans (b := vrun mX13_scroll 162 [(1, 282), (0, x1), (0, x2), (0, x3), (0, x4), (0, x5), (0, x6), (0, y0), (9, 0)] [(0, (if y0 ≤ x5 + h 2 310 x1 - 1 - x6 then y0 else x5 + h 2 310 x1 - 1 - x6))] h) rfl ?_
      simp only [if_pos c1]
    · refine (if_neg c1).trans ?_
      refine (rn_iload (pc := 116) (dd bX13_scroll dX13_scroll_116) rfl).trans ?_
      refine (rn_iload (pc := 118) (dd bX13_scroll dX13_scroll_118) rfl).trans ?_
      refine (rg_iadd (pc := 120) (dd bX13_scroll dX13_scroll_120) (by omega) (by omega)).trans ?_
      refine (rn_goto (t := 162) (pc := 121) (dd bX13_scroll dX13_scroll_121) rfl).trans ?_
      refine Eq.trans (b := vrun mX13_scroll 162 [(1, 282), (0, x1), (0, x2), (0, x3), (0, x4), (0, x5), (0, x6), (0, y0), (9, 0)] [(0, x5 + x6)] h) rfl ?_
      simp only [if_neg c1]
  refine e2.trans ?_
  refine (rn_iload (pc := 162) (dd bX13_scroll dX13_scroll_162) rfl).trans ?_
  refine (rg_static (pc := 164) (dd bX13_scroll dX13_scroll_164) rfl (by decide) (Nat.le_of_ble_eq_true rfl) (as := [(0, (if x5 + x6 ≤ y0 then (if y0 ≤ x5 + h 2 310 x1 - 1 - x6 then y0 else x5 + h 2 310 x1 - 1 - x6) else x5 + x6)), (0, x4)]) rfl rfl ⟨Nat.le_of_ble_eq_true rfl, Nat.le_of_ble_eq_true rfl, Nat.le_of_ble_eq_true rfl, Nat.le_of_ble_eq_true rfl⟩).trans ?_
  refine (vret_v spX13_lesser).trans ?_
  refine (rn_istore (pc := 167) (dd bX13_scroll dX13_scroll_167) (Nat.le_of_ble_eq_true rfl) rfl).trans ?_
  refine (rn_iload (pc := 169) (dd bX13_scroll dX13_scroll_169) rfl).trans ?_
  refine (rn_iload (pc := 171) (dd bX13_scroll dX13_scroll_171) rfl).trans ?_
  refine (rn_icmp_eq (t := 201) (pc := 173) (dd bX13_scroll dX13_scroll_173) rfl).trans (itec (fun c3 => ?_) (fun c3 => ?_))
  · refine (rn_aload_n (pc := 201) (dd bX13_scroll dX13_scroll_201) rfl).trans ?_
    refine (rn_iload_n (pc := 202) (dd bX13_scroll dX13_scroll_202) rfl).trans ?_
    exact rg_virtual (pc := 203) (dd bX13_scroll dX13_scroll_203) rfl rfl (by decide) (kc := 34) rfl s3.1 (as := [(1, 282), (0, x1)]) rfl ⟨Nat.le_of_ble_eq_true rfl, Nat.le_of_ble_eq_true rfl, Nat.le_of_ble_eq_true rfl, Nat.le_of_ble_eq_true rfl⟩
  · refine (rn_aload_n (pc := 176) (dd bX13_scroll dX13_scroll_176) rfl).trans ?_
    refine (rn_iload_n (pc := 177) (dd bX13_scroll dX13_scroll_177) rfl).trans ?_
    refine (rn_aload_n (pc := 178) (dd bX13_scroll dX13_scroll_178) rfl).trans ?_
    refine (rn_iload_n (pc := 179) (dd bX13_scroll dX13_scroll_179) rfl).trans ?_
    refine (rn_iload (pc := 180) (dd bX13_scroll dX13_scroll_180) rfl).trans ?_
    exact rg_virtual (pc := 182) (dd bX13_scroll dX13_scroll_182) rfl rfl (by decide) (kc := 34) rfl s3.1 (as := [(1, 282), (0, x1), (0, (if x4 ≤ (if x5 + x6 ≤ y0 then (if y0 ≤ x5 + h 2 310 x1 - 1 - x6 then y0 else x5 + h 2 310 x1 - 1 - x6) else x5 + x6) then x4 else (if x5 + x6 ≤ y0 then (if y0 ≤ x5 + h 2 310 x1 - 1 - x6 then y0 else x5 + h 2 310 x1 - 1 - x6) else x5 + x6)))]) rfl ⟨Nat.le_of_ble_eq_true rfl, Nat.le_of_ble_eq_true rfl, Nat.le_of_ble_eq_true rfl, Nat.le_of_ble_eq_true rfl⟩
theorem rX13_scroll_206 {x1 : Int} {x2 : Int} {x3 : Int} {x4 : Int} {x5 : Int} {x6 : Int} {x7 : Int} {x8 : Int} {y0 : Int} {h : vH} : vrun mX13_scroll 206 [(1, 282), (0, x1), (0, x2), (0, x3), (0, x4), (0, x5), (0, x6), (0, x7), (0, x8)] [(0, y0)] h = some (.inl (some (0, y0)), h) := by
  exact rn_ireturn (pc := 206) (dd bX13_scroll dX13_scroll_206) (Or.inl rfl)
theorem rX13_scroll_185 {x1 : Int} {x2 : Int} {x3 : Int} {x4 : Int} {x5 : Int} {x6 : Int} {x7 : Int} {x8 : Int} {y0 : Int} {y1 : Int} {h : vH} (s1 : shModel h) (p2 : 0 ≤ x1) (p3 : x1 < 4) : vrun mX13_scroll 185 [(1, 282), (0, x1), (0, x2), (0, x3), (0, x4), (0, x5), (0, x6), (0, x7), (0, x8)] [(0, y0), (0, y1), (1, 282)] h = vret vrun mX13_scroll 195 [(1, 282), (0, x1), (0, x2), (0, x3), (0, x4), (0, x5), (0, x6), (0, x7), (0, x8)] [(0, y0), (0, y1), (1, 282)] (vcl mX13_goesUp [(1, 282), (0, x1), (0, x8), (0, h 2 307 x1)] h) := by
  refine (rn_aload_n (pc := 185) (dd bX13_scroll dX13_scroll_185) rfl).trans ?_
  refine (rn_iload_n (pc := 186) (dd bX13_scroll dX13_scroll_186) rfl).trans ?_
  refine (rn_iload (pc := 187) (dd bX13_scroll dX13_scroll_187) rfl).trans ?_
  refine (rn_aload_n (pc := 189) (dd bX13_scroll dX13_scroll_189) rfl).trans ?_
  refine (rg_gf (pc := 190) (dd bX13_scroll dX13_scroll_190) (ci := 14) (j := 26) rfl rfl (key := 1526) rfl (kc := 34) rfl s1.1 s1.2.2.2.2.2.2.2.2.2.2.2.2.2.2.2.2.2.2.2.2.2.2.2.2.2.2.2.2.2.2.2.2.2.2.2.2.2.2.2.2.2.2.2.2.2.2.2.2.2.2.2.2.2.2.2.2.2.2.2.2.2.2.2.2.2.2.2.2.2.2.2.2.2.1).trans ?_
  refine (rn_iload_n (pc := 193) (dd bX13_scroll dX13_scroll_193) rfl).trans ?_
  refine (rg_iaload (pc := 194) (dd bX13_scroll dX13_scroll_194) s1.2.2.2.2.2.2.2.2.2.2.2.2.2.2.2.2.2.2.2.2.2.2.2.2.2.2.2.2.2.2.2.2.2.2.2.2.2.2.2.2.2.2.2.2.2.2.2.2.2.2.2.2.2.2.2.2.2.2.2.2.2.2.2.2.2.2.2.2.2.2.2.2.2.2.1 s1.2.2.2.2.2.2.2.2.2.2.2.2.2.2.2.2.2.2.2.2.2.2.2.2.2.2.2.2.2.2.2.2.2.2.2.2.2.2.2.2.2.2.2.2.2.2.2.2.2.2.2.2.2.2.2.2.2.2.2.2.2.2.2.2.2.2.2.2.2.2.2.2.2.2.2.1 p2 p3 rfl).trans ?_
  exact rg_virtual (pc := 195) (dd bX13_scroll dX13_scroll_195) rfl rfl (by decide) (kc := 34) rfl s1.1 (as := [(1, 282), (0, x1), (0, x8), (0, h 2 307 x1)]) rfl ⟨Nat.le_of_ble_eq_true rfl, Nat.le_of_ble_eq_true rfl, Nat.le_of_ble_eq_true rfl, Nat.le_of_ble_eq_true rfl⟩
theorem rX13_scroll_198 {x1 : Int} {x2 : Int} {x3 : Int} {x4 : Int} {x5 : Int} {x6 : Int} {x7 : Int} {x8 : Int} {y0 : Int} {y1 : Int} {y2 : Int} {h : vH} (s1 : shModel h) : vrun mX13_scroll 198 [(1, 282), (0, x1), (0, x2), (0, x3), (0, x4), (0, x5), (0, x6), (0, x7), (0, x8)] [(0, y0), (0, y1), (0, y2), (1, 282)] h = vret vrun mX13_scroll 198 [(1, 282), (0, x1), (0, x2), (0, x3), (0, x4), (0, x5), (0, x6), (0, x7), (0, x8)] [] (vcl mX13_goesTo [(1, 282), (0, y2), (0, y1), (0, y0)] h) := by
  exact rg_virtual (pc := 198) (dd bX13_scroll dX13_scroll_198) rfl rfl (by decide) (kc := 34) rfl s1.1 (as := [(1, 282), (0, y2), (0, y1), (0, y0)]) rfl ⟨Nat.le_of_ble_eq_true rfl, Nat.le_of_ble_eq_true rfl, Nat.le_of_ble_eq_true rfl, Nat.le_of_ble_eq_true rfl⟩
theorem rX13_scroll_201 {x1 : Int} {x2 : Int} {x3 : Int} {x4 : Int} {x5 : Int} {x6 : Int} {x7 : Int} {x8 : Int} {h : vH} (s1 : shModel h) : vrun mX13_scroll 201 [(1, 282), (0, x1), (0, x2), (0, x3), (0, x4), (0, x5), (0, x6), (0, x7), (0, x8)] [] h = vret vrun mX13_scroll 203 [(1, 282), (0, x1), (0, x2), (0, x3), (0, x4), (0, x5), (0, x6), (0, x7), (0, x8)] [] (vcl mX13_topRow [(1, 282), (0, x1)] h) := by
  refine (rn_aload_n (pc := 201) (dd bX13_scroll dX13_scroll_201) rfl).trans ?_
  refine (rn_iload_n (pc := 202) (dd bX13_scroll dX13_scroll_202) rfl).trans ?_
  exact rg_virtual (pc := 203) (dd bX13_scroll dX13_scroll_203) rfl rfl (by decide) (kc := 34) rfl s1.1 (as := [(1, 282), (0, x1)]) rfl ⟨Nat.le_of_ble_eq_true rfl, Nat.le_of_ble_eq_true rfl, Nat.le_of_ble_eq_true rfl, Nat.le_of_ble_eq_true rfl⟩
theorem bX13_type : vmB mX13_type = cX13_type := rfl
theorem rX13_type_0 {x1 : Int} {x2 : Int} {h : vH} (s1 : shModel h) (p2 : ¬ (¬ (x1 < 0) ∧ ¬ (3 < x1)) → ¬ (x1 < 0) ∧ ¬ (3 < x1) → ¬ (fX13_isSign h x2 = 0) → 0 ≤ x1) (p3 : ¬ (¬ (x1 < 0) ∧ ¬ (3 < x1)) → ¬ (x1 < 0) ∧ ¬ (3 < x1) → ¬ (fX13_isSign h x2 = 0) → x1 < 4) : vrun mX13_type 0 [(1, 282), (0, x1), (0, x2), (9, 0), (9, 0), (9, 0)] [] h = if ¬ (x1 < 0) ∧ ¬ (3 < x1) then vret vrun mX13_type 11 [(1, 282), (0, x1), (0, x2), (0, (if ¬ (x1 < 0) ∧ ¬ (3 < x1) then 1 else 0)), (9, 0), (9, 0)] [] (vcl mX13_lineNow [(1, 282), (0, x1)] h) else vret vrun mX13_type 66 [(1, 282), (0, x1), (0, x2), (0, (if ¬ (x1 < 0) ∧ ¬ (3 < x1) then 1 else 0)), (0, 0), (9, 0)] [] (vcl mX13_isFine [(1, 282), (0, (if ¬ (x1 < 0) ∧ ¬ (3 < x1) then (if fX13_isSign h x2 = 0 then 2 else (if h 2 289 x1 = 0 then 3 else (if h 2 284 0 = 80 then 3 else 0))) else 1))] h) := by
  refine (rn_iload_n (pc := 0) (dd bX13_type dX13_type_0) rfl).trans ?_
  refine (rg_static (pc := 1) (dd bX13_type dX13_type_1) rfl (by decide) (Nat.le_of_ble_eq_true rfl) (as := [(0, x1)]) rfl rfl ⟨Nat.le_of_ble_eq_true rfl, Nat.le_of_ble_eq_true rfl, Nat.le_of_ble_eq_true rfl, Nat.le_of_ble_eq_true rfl⟩).trans ?_
  refine (vret_v spX13_isPane).trans ?_
  refine (rn_istore_n (pc := 4) (dd bX13_type dX13_type_4) (Nat.le_of_ble_eq_true rfl) rfl).trans ?_
  refine (rn_iload_n (pc := 5) (dd bX13_type dX13_type_5) rfl).trans ?_
  refine (rg_beq (t := 17) (pc := 6) (dd bX13_type dX13_type_6) rfl).trans (itec (fun c1 => ?_) (fun c1 => ?_))
  · refine (rn_aload_n (pc := 9) (dd bX13_type dX13_type_9) rfl).trans ?_
    refine (rn_iload_n (pc := 10) (dd bX13_type dX13_type_10) rfl).trans ?_
    exact rg_virtual (pc := 11) (dd bX13_type dX13_type_11) rfl rfl (by decide) (kc := 34) rfl s1.1 (as := [(1, 282), (0, x1)]) rfl ⟨Nat.le_of_ble_eq_true rfl, Nat.le_of_ble_eq_true rfl, Nat.le_of_ble_eq_true rfl, Nat.le_of_ble_eq_true rfl⟩
  · refine (rn_iconst (pc := 17) (dd bX13_type dX13_type_17) (by decide)).trans ?_
    refine (rn_istore (pc := 18) (dd bX13_type dX13_type_18) (Nat.le_of_ble_eq_true rfl) rfl).trans ?_
    refine (rn_aload_n (pc := 20) (dd bX13_type dX13_type_20) rfl).trans ?_
    refine (rn_iload_n (pc := 21) (dd bX13_type dX13_type_21) rfl).trans ?_
    have e4 : vrun mX13_type 22 [(1, 282), (0, x1), (0, x2), (0, (if ¬ (x1 < 0) ∧ ¬ (3 < x1) then 1 else 0)), (0, 0), (9, 0)] [(0, (if ¬ (x1 < 0) ∧ ¬ (3 < x1) then 1 else 0)), (1, 282)] h = vrun mX13_type 66 [(1, 282), (0, x1), (0, x2), (0, (if ¬ (x1 < 0) ∧ ¬ (3 < x1) then 1 else 0)), (0, 0), (9, 0)] [(0, (if ¬ (x1 < 0) ∧ ¬ (3 < x1) then (if fX13_isSign h x2 = 0 then 2 else (if h 2 289 x1 = 0 then 3 else (if h 2 284 0 = 80 then 3 else 0))) else 1)), (1, 282)] h := by
      refine (rg_bne (t := 29) (pc := 22) (dd bX13_type dX13_type_22) rfl).trans ?_
      by_cases c2 : ¬ (x1 < 0) ∧ ¬ (3 < x1)
      · refine (if_pos c2).trans ?_
        refine (rn_iload_n (pc := 29) (dd bX13_type dX13_type_29) rfl).trans ?_
        refine (rg_static (pc := 30) (dd bX13_type dX13_type_30) rfl (by decide) (Nat.le_of_ble_eq_true rfl) (as := [(0, x2)]) rfl rfl ⟨Nat.le_of_ble_eq_true rfl, Nat.le_of_ble_eq_true rfl, Nat.le_of_ble_eq_true rfl, Nat.le_of_ble_eq_true rfl⟩).trans ?_
        refine (vret_v spX13_isSign).trans ?_
        have e3 : vrun mX13_type 33 [(1, 282), (0, x1), (0, x2), (0, (if ¬ (x1 < 0) ∧ ¬ (3 < x1) then 1 else 0)), (0, 0), (9, 0)] [(0, fX13_isSign h x2), (1, 282)] h = vrun mX13_type 66 [(1, 282), (0, x1), (0, x2), (0, (if ¬ (x1 < 0) ∧ ¬ (3 < x1) then 1 else 0)), (0, 0), (9, 0)] [(0, (if fX13_isSign h x2 = 0 then 2 else (if h 2 289 x1 = 0 then 3 else (if h 2 284 0 = 80 then 3 else 0)))), (1, 282)] h := by
          refine (rg_if_ne (t := 40) (pc := 33) (dd bX13_type dX13_type_33) rfl).trans ?_
          by_cases c3 : fX13_isSign h x2 = 0
          · refine (if_pos c3).trans ?_
            refine (rn_iconst (pc := 36) (dd bX13_type dX13_type_36) (by decide)).trans ?_
            refine (rn_goto (t := 66) (pc := 37) (dd bX13_type dX13_type_37) rfl).trans ?_
            refine Eq.trans (b := vrun mX13_type 66 [(1, 282), (0, x1), (0, x2), (0, (if ¬ (x1 < 0) ∧ ¬ (3 < x1) then 1 else 0)), (0, 0), (9, 0)] [(0, 2), (1, 282)] h) rfl ?_
            simp only [if_pos c3]
          · refine (if_neg c3).trans ?_
            refine (rn_aload_n (pc := 40) (dd bX13_type dX13_type_40) rfl).trans ?_
            refine (rg_gf (pc := 41) (dd bX13_type dX13_type_41) (ci := 14) (j := 8) rfl rfl (key := 1508) rfl (kc := 34) rfl s1.1 s1.2.2.2.2.2.2.2.2.2.2.2.2.2.2.2.2.2.2.2.1).trans ?_
            refine (rn_iload_n (pc := 44) (dd bX13_type dX13_type_44) rfl).trans ?_
            refine (rg_baload (pc := 45) (dd bX13_type dX13_type_45) s1.2.2.2.2.2.2.2.2.2.2.2.2.2.2.2.2.2.2.2.2.1 s1.2.2.2.2.2.2.2.2.2.2.2.2.2.2.2.2.2.2.2.2.2.1 (p2 c1 c2 c3) (p3 c1 c2 c3) rfl).trans ?_
            have e2 : vrun mX13_type 46 [(1, 282), (0, x1), (0, x2), (0, (if ¬ (x1 < 0) ∧ ¬ (3 < x1) then 1 else 0)), (0, 0), (9, 0)] [(0, h 2 289 x1), (1, 282)] h = vrun mX13_type 66 [(1, 282), (0, x1), (0, x2), (0, (if ¬ (x1 < 0) ∧ ¬ (3 < x1) then 1 else 0)), (0, 0), (9, 0)] [(0, (if h 2 289 x1 = 0 then 3 else (if h 2 284 0 = 80 then 3 else 0))), (1, 282)] h := by
              refine (rn_if_eq (t := 61) (pc := 46) (dd bX13_type dX13_type_46) rfl).trans ?_
              by_cases c4 : h 2 289 x1 = 0
              · refine (if_pos c4).trans ?_
                refine (rn_iconst (pc := 61) (dd bX13_type dX13_type_61) (by decide)).trans ?_
                refine (rn_goto (t := 66) (pc := 62) (dd bX13_type dX13_type_62) rfl).trans ?_
                refine Eq.trans (b := vrun mX13_type 66 [(1, 282), (0, x1), (0, x2), (0, (if ¬ (x1 < 0) ∧ ¬ (3 < x1) then 1 else 0)), (0, 0), (9, 0)] [(0, 3), (1, 282)] h) rfl ?_
                simp only [if_pos c4]
              · refine (if_neg c4).trans ?_
                refine (rn_aload_n (pc := 49) (dd bX13_type dX13_type_49) rfl).trans ?_
                refine (rg_gf (pc := 50) (dd bX13_type dX13_type_50) (ci := 14) (j := 2) rfl rfl (key := 1502) rfl (kc := 34) rfl s1.1 s1.2.2.2.2.1).trans ?_
                refine (rn_iload (pc := 53) (dd bX13_type dX13_type_53) rfl).trans ?_
                refine (rg_iaload (pc := 55) (dd bX13_type dX13_type_55) s1.2.2.2.2.2.1 s1.2.2.2.2.2.2.1 (by decide) (by decide) rfl).trans ?_
                refine (rn_bipush (pc := 56) (dd bX13_type dX13_type_56) (by decide)).trans ?_
                have e1 : vrun mX13_type 58 [(1, 282), (0, x1), (0, x2), (0, (if ¬ (x1 < 0) ∧ ¬ (3 < x1) then 1 else 0)), (0, 0), (9, 0)] [(0, 80), (0, h 2 284 0), (1, 282)] h = vrun mX13_type 66 [(1, 282), (0, x1), (0, x2), (0, (if ¬ (x1 < 0) ∧ ¬ (3 < x1) then 1 else 0)), (0, 0), (9, 0)] [(0, (if h 2 284 0 = 80 then 3 else 0)), (1, 282)] h := by
                  refine (rg_icmp_ne (t := 65) (pc := 58) (dd bX13_type dX13_type_58) rfl).trans ?_
                  by_cases c5 : h 2 284 0 = 80
                  · refine (if_pos c5).trans ?_
                    refine (rn_iconst (pc := 61) (dd bX13_type dX13_type_61) (by decide)).trans ?_
                    refine (rn_goto (t := 66) (pc := 62) (dd bX13_type dX13_type_62) rfl).trans ?_
                    refine Eq.trans (b := vrun mX13_type 66 [(1, 282), (0, x1), (0, x2), (0, (if ¬ (x1 < 0) ∧ ¬ (3 < x1) then 1 else 0)), (0, 0), (9, 0)] [(0, 3), (1, 282)] h) rfl ?_
                    simp only [if_pos c5]
                  · refine (if_neg c5).trans ?_
                    refine (rn_iconst (pc := 65) (dd bX13_type dX13_type_65) (by decide)).trans ?_
                    refine Eq.trans (b := vrun mX13_type 66 [(1, 282), (0, x1), (0, x2), (0, (if ¬ (x1 < 0) ∧ ¬ (3 < x1) then 1 else 0)), (0, 0), (9, 0)] [(0, 0), (1, 282)] h) rfl ?_
                    simp only [if_neg c5]
                refine e1.trans ?_
                refine Eq.trans (b := vrun mX13_type 66 [(1, 282), (0, x1), (0, x2), (0, (if ¬ (x1 < 0) ∧ ¬ (3 < x1) then 1 else 0)), (0, 0), (9, 0)] [(0, (if h 2 284 0 = 80 then 3 else 0)), (1, 282)] h) rfl ?_
                simp only [if_neg c4]
            refine e2.trans ?_
            refine Eq.trans (b := vrun mX13_type 66 [(1, 282), (0, x1), (0, x2), (0, (if ¬ (x1 < 0) ∧ ¬ (3 < x1) then 1 else 0)), (0, 0), (9, 0)] [(0, (if h 2 289 x1 = 0 then 3 else (if h 2 284 0 = 80 then 3 else 0))), (1, 282)] h) rfl ?_
            simp only [if_neg c3]
        refine e3.trans ?_
        refine Eq.trans (b := vrun mX13_type 66 [(1, 282), (0, x1), (0, x2), (0, (if ¬ (x1 < 0) ∧ ¬ (3 < x1) then 1 else 0)), (0, 0), (9, 0)] [(0, (if fX13_isSign h x2 = 0 then 2 else (if h 2 289 x1 = 0 then 3 else (if h 2 284 0 = 80 then 3 else 0)))), (1, 282)] h) rfl ?_
        simp only [if_pos c2]
      · refine (if_neg c2).trans ?_
        refine (rn_iconst (pc := 25) (dd bX13_type dX13_type_25) (by decide)).trans ?_
        refine (rn_goto (t := 66) (pc := 26) (dd bX13_type dX13_type_26) rfl).trans ?_
        refine Eq.trans (b := vrun mX13_type 66 [(1, 282), (0, x1), (0, x2), (0, (if ¬ (x1 < 0) ∧ ¬ (3 < x1) then 1 else 0)), (0, 0), (9, 0)] [(0, 1), (1, 282)] h) rfl ?_
        simp only [if_neg c2]
    refine e4.trans ?_
    exact rg_virtual (pc := 66) (dd bX13_type dX13_type_66) rfl rfl (by decide) (kc := 34) rfl s1.1 (as := [(1, 282), (0, (if ¬ (x1 < 0) ∧ ¬ (3 < x1) then (if fX13_isSign h x2 = 0 then 2 else (if h 2 289 x1 = 0 then 3 else (if h 2 284 0 = 80 then 3 else 0))) else 1))]) rfl ⟨Nat.le_of_ble_eq_true rfl, Nat.le_of_ble_eq_true rfl, Nat.le_of_ble_eq_true rfl, Nat.le_of_ble_eq_true rfl⟩
theorem rX13_type_14 {x1 : Int} {x2 : Int} {x3 : Int} {y0 : Int} {h : vH} (s1 : shModel h) (p2 : ¬ (x3 = 0) → ¬ (fX13_isSign h x2 = 0) → 0 ≤ x1) (p3 : ¬ (x3 = 0) → ¬ (fX13_isSign h x2 = 0) → x1 < 4) (p4 : ¬ (x3 = 0) → ¬ (fX13_isSign h x2 = 0) → ¬ (h 2 289 x1 = 0) → 0 ≤ y0) (p5 : ¬ (x3 = 0) → ¬ (fX13_isSign h x2 = 0) → ¬ (h 2 289 x1 = 0) → y0 < 60) : vrun mX13_type 14 [(1, 282), (0, x1), (0, x2), (0, x3), (9, 0), (9, 0)] [(0, y0)] h = vret vrun mX13_type 66 [(1, 282), (0, x1), (0, x2), (0, x3), (0, y0), (9, 0)] [] (vcl mX13_isFine [(1, 282), (0, (if x3 = 0 then 1 else (if fX13_isSign h x2 = 0 then 2 else (if h 2 289 x1 = 0 then 3 else (if h 2 284 y0 = 80 then 3 else 0)))))] h) := by
  refine (rn_goto (t := 18) (pc := 14) (dd bX13_type dX13_type_14) rfl).trans ?_
  refine (rn_istore (pc := 18) (dd bX13_type dX13_type_18) (Nat.le_of_ble_eq_true rfl) rfl).trans ?_
  refine (rn_aload_n (pc := 20) (dd bX13_type dX13_type_20) rfl).trans ?_
  refine (rn_iload_n (pc := 21) (dd bX13_type dX13_type_21) rfl).trans ?_
  have e4 : vrun mX13_type 22 [(1, 282), (0, x1), (0, x2), (0, x3), (0, y0), (9, 0)] [(0, x3), (1, 282)] h = vrun mX13_type 66 [(1, 282), (0, x1), (0, x2), (0, x3), (0, y0), (9, 0)] [(0, (if x3 = 0 then 1 else (if fX13_isSign h x2 = 0 then 2 else (if h 2 289 x1 = 0 then 3 else (if h 2 284 y0 = 80 then 3 else 0))))), (1, 282)] h := by
    refine (rg_if_ne (t := 29) (pc := 22) (dd bX13_type dX13_type_22) rfl).trans ?_
    by_cases c1 : x3 = 0
    · refine (if_pos c1).trans ?_
      refine (rn_iconst (pc := 25) (dd bX13_type dX13_type_25) (by decide)).trans ?_
      refine (rn_goto (t := 66) (pc := 26) (dd bX13_type dX13_type_26) rfl).trans ?_
      refine Eq.trans (b := vrun mX13_type 66 [(1, 282), (0, x1), (0, x2), (0, x3), (0, y0), (9, 0)] [(0, 1), (1, 282)] h) rfl ?_
      simp only [if_pos c1]
    · refine (if_neg c1).trans ?_
      refine (rn_iload_n (pc := 29) (dd bX13_type dX13_type_29) rfl).trans ?_
      refine (rg_static (pc := 30) (dd bX13_type dX13_type_30) rfl (by decide) (Nat.le_of_ble_eq_true rfl) (as := [(0, x2)]) rfl rfl ⟨Nat.le_of_ble_eq_true rfl, Nat.le_of_ble_eq_true rfl, Nat.le_of_ble_eq_true rfl, Nat.le_of_ble_eq_true rfl⟩).trans ?_
      refine (vret_v spX13_isSign).trans ?_
      have e3 : vrun mX13_type 33 [(1, 282), (0, x1), (0, x2), (0, x3), (0, y0), (9, 0)] [(0, fX13_isSign h x2), (1, 282)] h = vrun mX13_type 66 [(1, 282), (0, x1), (0, x2), (0, x3), (0, y0), (9, 0)] [(0, (if fX13_isSign h x2 = 0 then 2 else (if h 2 289 x1 = 0 then 3 else (if h 2 284 y0 = 80 then 3 else 0)))), (1, 282)] h := by
        refine (rg_if_ne (t := 40) (pc := 33) (dd bX13_type dX13_type_33) rfl).trans ?_
        by_cases c2 : fX13_isSign h x2 = 0
        · refine (if_pos c2).trans ?_
          refine (rn_iconst (pc := 36) (dd bX13_type dX13_type_36) (by decide)).trans ?_
          refine (rn_goto (t := 66) (pc := 37) (dd bX13_type dX13_type_37) rfl).trans ?_
          refine Eq.trans (b := vrun mX13_type 66 [(1, 282), (0, x1), (0, x2), (0, x3), (0, y0), (9, 0)] [(0, 2), (1, 282)] h) rfl ?_
          simp only [if_pos c2]
        · refine (if_neg c2).trans ?_
          refine (rn_aload_n (pc := 40) (dd bX13_type dX13_type_40) rfl).trans ?_
          refine (rg_gf (pc := 41) (dd bX13_type dX13_type_41) (ci := 14) (j := 8) rfl rfl (key := 1508) rfl (kc := 34) rfl s1.1 s1.2.2.2.2.2.2.2.2.2.2.2.2.2.2.2.2.2.2.2.1).trans ?_
          refine (rn_iload_n (pc := 44) (dd bX13_type dX13_type_44) rfl).trans ?_
          refine (rg_baload (pc := 45) (dd bX13_type dX13_type_45) s1.2.2.2.2.2.2.2.2.2.2.2.2.2.2.2.2.2.2.2.2.1 s1.2.2.2.2.2.2.2.2.2.2.2.2.2.2.2.2.2.2.2.2.2.1 (p2 c1 c2) (p3 c1 c2) rfl).trans ?_
          have e2 : vrun mX13_type 46 [(1, 282), (0, x1), (0, x2), (0, x3), (0, y0), (9, 0)] [(0, h 2 289 x1), (1, 282)] h = vrun mX13_type 66 [(1, 282), (0, x1), (0, x2), (0, x3), (0, y0), (9, 0)] [(0, (if h 2 289 x1 = 0 then 3 else (if h 2 284 y0 = 80 then 3 else 0))), (1, 282)] h := by
            refine (rn_if_eq (t := 61) (pc := 46) (dd bX13_type dX13_type_46) rfl).trans ?_
            by_cases c3 : h 2 289 x1 = 0
            · refine (if_pos c3).trans ?_
              refine (rn_iconst (pc := 61) (dd bX13_type dX13_type_61) (by decide)).trans ?_
              refine (rn_goto (t := 66) (pc := 62) (dd bX13_type dX13_type_62) rfl).trans ?_
              refine Eq.trans (b := vrun mX13_type 66 [(1, 282), (0, x1), (0, x2), (0, x3), (0, y0), (9, 0)] [(0, 3), (1, 282)] h) rfl ?_
              simp only [if_pos c3]
            · refine (if_neg c3).trans ?_
              refine (rn_aload_n (pc := 49) (dd bX13_type dX13_type_49) rfl).trans ?_
              refine (rg_gf (pc := 50) (dd bX13_type dX13_type_50) (ci := 14) (j := 2) rfl rfl (key := 1502) rfl (kc := 34) rfl s1.1 s1.2.2.2.2.1).trans ?_
              refine (rn_iload (pc := 53) (dd bX13_type dX13_type_53) rfl).trans ?_
              refine (rg_iaload (pc := 55) (dd bX13_type dX13_type_55) s1.2.2.2.2.2.1 s1.2.2.2.2.2.2.1 (p4 c1 c2 c3) (p5 c1 c2 c3) rfl).trans ?_
              refine (rn_bipush (pc := 56) (dd bX13_type dX13_type_56) (by decide)).trans ?_
              have e1 : vrun mX13_type 58 [(1, 282), (0, x1), (0, x2), (0, x3), (0, y0), (9, 0)] [(0, 80), (0, h 2 284 y0), (1, 282)] h = vrun mX13_type 66 [(1, 282), (0, x1), (0, x2), (0, x3), (0, y0), (9, 0)] [(0, (if h 2 284 y0 = 80 then 3 else 0)), (1, 282)] h := by
                refine (rg_icmp_ne (t := 65) (pc := 58) (dd bX13_type dX13_type_58) rfl).trans ?_
                by_cases c4 : h 2 284 y0 = 80
                · refine (if_pos c4).trans ?_
                  refine (rn_iconst (pc := 61) (dd bX13_type dX13_type_61) (by decide)).trans ?_
                  refine (rn_goto (t := 66) (pc := 62) (dd bX13_type dX13_type_62) rfl).trans ?_
                  refine Eq.trans (b := vrun mX13_type 66 [(1, 282), (0, x1), (0, x2), (0, x3), (0, y0), (9, 0)] [(0, 3), (1, 282)] h) rfl ?_
                  simp only [if_pos c4]
                · refine (if_neg c4).trans ?_
                  refine (rn_iconst (pc := 65) (dd bX13_type dX13_type_65) (by decide)).trans ?_
                  refine Eq.trans (b := vrun mX13_type 66 [(1, 282), (0, x1), (0, x2), (0, x3), (0, y0), (9, 0)] [(0, 0), (1, 282)] h) rfl ?_
                  simp only [if_neg c4]
              refine e1.trans ?_
              refine Eq.trans (b := vrun mX13_type 66 [(1, 282), (0, x1), (0, x2), (0, x3), (0, y0), (9, 0)] [(0, (if h 2 284 y0 = 80 then 3 else 0)), (1, 282)] h) rfl ?_
              simp only [if_neg c3]
          refine e2.trans ?_
          refine Eq.trans (b := vrun mX13_type 66 [(1, 282), (0, x1), (0, x2), (0, x3), (0, y0), (9, 0)] [(0, (if h 2 289 x1 = 0 then 3 else (if h 2 284 y0 = 80 then 3 else 0))), (1, 282)] h) rfl ?_
          simp only [if_neg c2]
      refine e3.trans ?_
      refine Eq.trans (b := vrun mX13_type 66 [(1, 282), (0, x1), (0, x2), (0, x3), (0, y0), (9, 0)] [(0, (if fX13_isSign h x2 = 0 then 2 else (if h 2 289 x1 = 0 then 3 else (if h 2 284 y0 = 80 then 3 else 0)))), (1, 282)] h) rfl ?_
      simp only [if_neg c1]
  refine e4.trans ?_
  exact rg_virtual (pc := 66) (dd bX13_type dX13_type_66) rfl rfl (by decide) (kc := 34) rfl s1.1 (as := [(1, 282), (0, (if x3 = 0 then 1 else (if fX13_isSign h x2 = 0 then 2 else (if h 2 289 x1 = 0 then 3 else (if h 2 284 y0 = 80 then 3 else 0)))))]) rfl ⟨Nat.le_of_ble_eq_true rfl, Nat.le_of_ble_eq_true rfl, Nat.le_of_ble_eq_true rfl, Nat.le_of_ble_eq_true rfl⟩
theorem rX13_type_69 {x1 : Int} {x2 : Int} {x3 : Int} {x4 : Int} {y0 : Int} {h : vH} (s1 : shModel h) : vrun mX13_type 69 [(1, 282), (0, x1), (0, x2), (0, x3), (0, x4), (9, 0)] [(0, y0)] h = if y0 = 0 then some (.inl (some (0, 0)), h) else vret vrun mX13_type 76 [(1, 282), (0, x1), (0, x2), (0, x3), (0, x4), (9, 0)] [] (vcl mX13_placeNow [(1, 282), (0, x1)] h) := by
  refine (rg_if_ne (t := 74) (pc := 69) (dd bX13_type dX13_type_69) rfl).trans (itec (fun c1 => ?_) (fun c1 => ?_))
  · refine (rn_iconst (pc := 72) (dd bX13_type dX13_type_72) (by decide)).trans ?_
    exact rn_ireturn (pc := 73) (dd bX13_type dX13_type_73) (Or.inl rfl)
  · refine (rn_aload_n (pc := 74) (dd bX13_type dX13_type_74) rfl).trans ?_
    refine (rn_iload_n (pc := 75) (dd bX13_type dX13_type_75) rfl).trans ?_
    exact rg_virtual (pc := 76) (dd bX13_type dX13_type_76) rfl rfl (by decide) (kc := 34) rfl s1.1 (as := [(1, 282), (0, x1)]) rfl ⟨Nat.le_of_ble_eq_true rfl, Nat.le_of_ble_eq_true rfl, Nat.le_of_ble_eq_true rfl, Nat.le_of_ble_eq_true rfl⟩
theorem rX13_type_79 {x1 : Int} {x2 : Int} {x3 : Int} {x4 : Int} {y0 : Int} {h : vH} (s1 : shModel h) : vrun mX13_type 79 [(1, 282), (0, x1), (0, x2), (0, x3), (0, x4), (9, 0)] [(0, y0)] h = vret vrun mX13_type 87 [(1, 282), (0, x1), (0, x2), (0, x3), (0, x4), (0, y0)] [] (vcl mX13_comes [(1, 282), (0, x4), (0, y0), (0, x2)] h) := by
  refine (rn_istore (pc := 79) (dd bX13_type dX13_type_79) (Nat.le_of_ble_eq_true rfl) rfl).trans ?_
  refine (rn_aload_n (pc := 81) (dd bX13_type dX13_type_81) rfl).trans ?_
  refine (rn_iload (pc := 82) (dd bX13_type dX13_type_82) rfl).trans ?_
  refine (rn_iload (pc := 84) (dd bX13_type dX13_type_84) rfl).trans ?_
  refine (rn_iload_n (pc := 86) (dd bX13_type dX13_type_86) rfl).trans ?_
  exact rg_virtual (pc := 87) (dd bX13_type dX13_type_87) rfl rfl (by decide) (kc := 34) rfl s1.1 (as := [(1, 282), (0, x4), (0, y0), (0, x2)]) rfl ⟨Nat.le_of_ble_eq_true rfl, Nat.le_of_ble_eq_true rfl, Nat.le_of_ble_eq_true rfl, Nat.le_of_ble_eq_true rfl⟩
theorem rX13_type_90 {x1 : Int} {x2 : Int} {x3 : Int} {x4 : Int} {x5 : Int} {h : vH} (p1 : (-2147483648) ≤ x5 + 1) (p2 : x5 + 1 < 2147483648) (s3 : shModel h) : vrun mX13_type 90 [(1, 282), (0, x1), (0, x2), (0, x3), (0, x4), (0, x5)] [] h = vret vrun mX13_type 98 [(1, 282), (0, x1), (0, x2), (0, x3), (0, x4), (0, x5)] [] (vcl mX13_goesTo [(1, 282), (0, x1), (0, x4), (0, x5 + 1)] h) := by
  refine (rn_aload_n (pc := 90) (dd bX13_type dX13_type_90) rfl).trans ?_
  refine (rn_iload_n (pc := 91) (dd bX13_type dX13_type_91) rfl).trans ?_
  refine (rn_iload (pc := 92) (dd bX13_type dX13_type_92) rfl).trans ?_
  refine (rn_iload (pc := 94) (dd bX13_type dX13_type_94) rfl).trans ?_
  refine (rn_iconst (pc := 96) (dd bX13_type dX13_type_96) (by decide)).trans ?_
  refine (rg_iadd (pc := 97) (dd bX13_type dX13_type_97) p1 p2).trans ?_
  exact rg_virtual (pc := 98) (dd bX13_type dX13_type_98) rfl rfl (by decide) (kc := 34) rfl s3.1 (as := [(1, 282), (0, x1), (0, x4), (0, x5 + 1)]) rfl ⟨Nat.le_of_ble_eq_true rfl, Nat.le_of_ble_eq_true rfl, Nat.le_of_ble_eq_true rfl, Nat.le_of_ble_eq_true rfl⟩
theorem rX13_type_101 {x1 : Int} {x2 : Int} {x3 : Int} {x4 : Int} {x5 : Int} {h : vH} (s1 : shModel h) : vrun mX13_type 101 [(1, 282), (0, x1), (0, x2), (0, x3), (0, x4), (0, x5)] [] h = vret vrun mX13_type 108 [(1, 282), (0, x1), (0, x2), (0, x3), (0, x4), (0, x5)] [(0, x1), (1, 307)] (vcl mX13_columnNow [(1, 282), (0, x1)] h) := by
  refine (rn_aload_n (pc := 101) (dd bX13_type dX13_type_101) rfl).trans ?_
  refine (rg_gf (pc := 102) (dd bX13_type dX13_type_102) (ci := 14) (j := 26) rfl rfl (key := 1526) rfl (kc := 34) rfl s1.1 s1.2.2.2.2.2.2.2.2.2.2.2.2.2.2.2.2.2.2.2.2.2.2.2.2.2.2.2.2.2.2.2.2.2.2.2.2.2.2.2.2.2.2.2.2.2.2.2.2.2.2.2.2.2.2.2.2.2.2.2.2.2.2.2.2.2.2.2.2.2.2.2.2.2.1).trans ?_
  refine (rn_iload_n (pc := 105) (dd bX13_type dX13_type_105) rfl).trans ?_
  refine (rn_aload_n (pc := 106) (dd bX13_type dX13_type_106) rfl).trans ?_
  refine (rn_iload_n (pc := 107) (dd bX13_type dX13_type_107) rfl).trans ?_
  exact rg_virtual (pc := 108) (dd bX13_type dX13_type_108) rfl rfl (by decide) (kc := 34) rfl s1.1 (as := [(1, 282), (0, x1)]) rfl ⟨Nat.le_of_ble_eq_true rfl, Nat.le_of_ble_eq_true rfl, Nat.le_of_ble_eq_true rfl, Nat.le_of_ble_eq_true rfl⟩
theorem rX13_type_111 {x1 : Int} {x2 : Int} {x3 : Int} {x4 : Int} {x5 : Int} {y0 : Int} {y1 : Int} {y2 : Int} {h : vH} (p1 : h 0 y2 0 = 1) (p2 : 0 ≤ y1) (p3 : y1 < h 1 y2 0) (s4 : shModel h) : vrun mX13_type 111 [(1, 282), (0, x1), (0, x2), (0, x3), (0, x4), (0, x5)] [(0, y0), (0, y1), (1, y2)] h = vret vrun mX13_type 114 [(1, 282), (0, x1), (0, x2), (0, x3), (0, x4), (0, x5)] [] (vcl mX13_looks [(1, 282), (0, x1)] (vup h 2 y2 y1 y0)) := by
  refine (rg_iastore (pc := 111) (dd bX13_type dX13_type_111) p1 rfl p2 p3).trans ?_
  refine (rn_aload_n (pc := 112) (dd bX13_type dX13_type_112) rfl).trans ?_
  refine (rn_iload_n (pc := 113) (dd bX13_type dX13_type_113) rfl).trans ?_
  exact rg_virtual (pc := 114) (dd bX13_type dX13_type_114) rfl rfl (by decide) (kc := 34) rfl ((vup_k (by decide)).trans s4.1) (as := [(1, 282), (0, x1)]) rfl ⟨Nat.le_of_ble_eq_true rfl, Nat.le_of_ble_eq_true rfl, Nat.le_of_ble_eq_true rfl, Nat.le_of_ble_eq_true rfl⟩
theorem rX13_type_117 {x1 : Int} {x2 : Int} {x3 : Int} {x4 : Int} {x5 : Int} {h : vH} (s1 : shModel h) (p2 : 0 ≤ x1) (p3 : x1 < 4) : vrun mX13_type 117 [(1, 282), (0, x1), (0, x2), (0, x3), (0, x4), (0, x5)] [] h = some (.inl (some (0, h 2 306 x1)), h) := by
  refine (rn_aload_n (pc := 117) (dd bX13_type dX13_type_117) rfl).trans ?_
  refine (rg_gf (pc := 118) (dd bX13_type dX13_type_118) (ci := 14) (j := 25) rfl rfl (key := 1525) rfl (kc := 34) rfl s1.1 s1.2.2.2.2.2.2.2.2.2.2.2.2.2.2.2.2.2.2.2.2.2.2.2.2.2.2.2.2.2.2.2.2.2.2.2.2.2.2.2.2.2.2.2.2.2.2.2.2.2.2.2.2.2.2.2.2.2.2.2.2.2.2.2.2.2.2.2.2.2.2.1).trans ?_
  refine (rn_iload_n (pc := 121) (dd bX13_type dX13_type_121) rfl).trans ?_
  refine (rg_iaload (pc := 122) (dd bX13_type dX13_type_122) s1.2.2.2.2.2.2.2.2.2.2.2.2.2.2.2.2.2.2.2.2.2.2.2.2.2.2.2.2.2.2.2.2.2.2.2.2.2.2.2.2.2.2.2.2.2.2.2.2.2.2.2.2.2.2.2.2.2.2.2.2.2.2.2.2.2.2.2.2.2.2.2.1 s1.2.2.2.2.2.2.2.2.2.2.2.2.2.2.2.2.2.2.2.2.2.2.2.2.2.2.2.2.2.2.2.2.2.2.2.2.2.2.2.2.2.2.2.2.2.2.2.2.2.2.2.2.2.2.2.2.2.2.2.2.2.2.2.2.2.2.2.2.2.2.2.2.1 p2 p3 rfl).trans ?_
  exact rn_ireturn (pc := 123) (dd bX13_type dX13_type_123) (Or.inl rfl)
