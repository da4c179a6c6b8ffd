theorem bX9_isPane : vmB mX9_isPane = cX9_isPane := rfl
theorem rX9_isPane_0 {x1 : Int} {h : vH} : vrun mX9_isPane 0 [(1, 127), (0, x1)] [] h = some (.inl (some (0, (if ¬ (x1 < 0) ∧ ¬ (4 ≤ x1) then 1 else 0))), h) := by
  refine (rn_iload_n (pc := 0) (dd bX9_isPane dX9_isPane_0) rfl).trans ?_
  have e2 : vrun mX9_isPane 1 [(1, 127), (0, x1)] [(0, x1)] h = vrun mX9_isPane 14 [(1, 127), (0, x1)] [(0, (if ¬ (x1 < 0) ∧ ¬ (4 ≤ x1) then 1 else 0))] h := by
    refine (rn_if_lt (t := 13) (pc := 1) (dd bX9_isPane dX9_isPane_1) rfl).trans ?_
    by_cases c1 : x1 < 0
    · refine (if_pos c1).trans ?_
      refine (rn_iconst (pc := 13) (dd bX9_isPane dX9_isPane_13) (by decide)).trans ?_
      refine Eq.trans (b := vrun mX9_isPane 14 [(1, 127), (0, x1)] [(0, 0)] h) rfl ?_
      simp only [c1, true_or, false_or, or_true, or_false, true_and, false_and, and_true, and_false, not_true_eq_false, not_false_eq_true, ne_eq, if_true, if_false, ↓reduceIte]
    · refine (if_neg c1).trans ?_
      refine (rn_iload_n (pc := 4) (dd bX9_isPane dX9_isPane_4) rfl).trans ?_
      refine (rn_iconst (pc := 5) (dd bX9_isPane dX9_isPane_5) (by decide)).trans ?_
      have e1 : vrun mX9_isPane 6 [(1, 127), (0, x1)] [(0, 4), (0, x1)] h = vrun mX9_isPane 14 [(1, 127), (0, x1)] [(0, (if ¬ (4 ≤ x1) then 1 else 0))] h := by
        refine (rn_icmp_ge (t := 13) (pc := 6) (dd bX9_isPane dX9_isPane_6) rfl).trans ?_
        by_cases c2 : 4 ≤ x1
        · refine (if_pos c2).trans ?_
          refine (rn_iconst (pc := 13) (dd bX9_isPane dX9_isPane_13) (by decide)).trans ?_
          refine Eq.trans (b := vrun mX9_isPane 14 [(1, 127), (0, x1)] [(0, 0)] h) rfl ?_
          simp only [c2, true_or, false_or, or_true, or_false, true_and, false_and, and_true, and_false, not_true_eq_false, not_false_eq_true, ne_eq, if_true, if_false, ↓reduceIte]
        · refine (if_neg c2).trans ?_
          refine (rn_iconst (pc := 9) (dd bX9_isPane dX9_isPane_9) (by decide)).trans ?_
          refine (rn_goto (t := 14) (pc := 10) (dd bX9_isPane dX9_isPane_10) rfl).trans ?_
          refine Eq.trans (b := vrun mX9_isPane 14 [(1, 127), (0, x1)] [(0, 1)] h) rfl ?_
          simp only [c2, true_or, false_or, or_true, or_false, true_and, false_and, and_true, and_false, not_true_eq_false, not_false_eq_true, ne_eq, if_true, if_false, ↓reduceIte]
      refine e1.trans ?_
      refine Eq.trans (b := vrun mX9_isPane 14 [(1, 127), (0, x1)] [(0, (if ¬ (4 ≤ x1) then 1 else 0))] h) rfl ?_
      simp only [c1, true_or, false_or, or_true, or_false, true_and, false_and, and_true, and_false, not_true_eq_false, not_false_eq_true, ne_eq, if_true, if_false, ↓reduceIte]
  refine e2.trans ?_
  exact rn_ireturn (pc := 14) (dd bX9_isPane dX9_isPane_14) (Or.inr ⟨rfl, b01⟩)
theorem spX9_isPane {x1 : Int} {h : vH} : vcl mX9_isPane [(1, 127), (0, x1)] h = some (.inl (some (0, (if ¬ (x1 < 0) ∧ ¬ (4 ≤ x1) then 1 else 0))), h) := by
  refine (show _ = _ from rX9_isPane_0).trans ?_
  rfl
theorem bX9_isOpen : vmB mX9_isOpen = cX9_isOpen := rfl
theorem rX9_isOpen_0 {x1 : Int} {h : vH} (s1 : shStack h) (p2 : ¬ (x1 < 0) ∧ ¬ (4 ≤ x1) → 0 ≤ x1) (p3 : ¬ (x1 < 0) ∧ ¬ (4 ≤ x1) → x1 < 4) : vrun mX9_isOpen 0 [(1, 127), (0, x1)] [] h = some (.inl (some (0, (if (¬ (x1 < 0) ∧ ¬ (4 ≤ x1)) ∧ ¬ (h 2 128 x1 = 0) then 1 else 0))), h) := by
  refine (rn_aload_n (pc := 0) (dd bX9_isOpen dX9_isOpen_0) rfl).trans ?_
  refine (rn_iload_n (pc := 1) (dd bX9_isOpen dX9_isOpen_1) rfl).trans ?_
  refine (rg_virtual (pc := 2) (dd bX9_isOpen dX9_isOpen_2) rfl rfl (by decide) (kc := 30) rfl s1.1 (as := [(1, 127), (0, x1)]) rfl ⟨Nat.le_of_ble_eq_true rfl, Nat.le_of_ble_eq_true rfl, Nat.le_of_ble_eq_true rfl, Nat.le_of_ble_eq_true rfl⟩).trans ?_
  refine (vret_v spX9_isPane).trans ?_
  have e2 : vrun mX9_isOpen 5 [(1, 127), (0, x1)] [(0, (if ¬ (x1 < 0) ∧ ¬ (4 ≤ x1) then 1 else 0))] h = vrun mX9_isOpen 22 [(1, 127), (0, x1)] [(0, (if (¬ (x1 < 0) ∧ ¬ (4 ≤ x1)) ∧ ¬ (h 2 128 x1 = 0) then 1 else 0))] h := by
    refine (rg_beq (t := 21) (pc := 5) (dd bX9_isOpen dX9_isOpen_5) rfl).trans ?_
    by_cases c1 : ¬ (x1 < 0) ∧ ¬ (4 ≤ x1)
    · refine (if_pos c1).trans ?_
      refine (rn_aload_n (pc := 8) (dd bX9_isOpen dX9_isOpen_8) rfl).trans ?_
      refine (rg_gf (pc := 9) (dd bX9_isOpen dX9_isOpen_9) (ci := 10) (j := 0) rfl rfl (key := 1100) rfl (kc := 30) rfl s1.1 s1.2.1).trans ?_
      refine (rn_iload_n (pc := 12) (dd bX9_isOpen dX9_isOpen_12) rfl).trans ?_
      refine (rg_baload (pc := 13) (dd bX9_isOpen dX9_isOpen_13) s1.2.2.1 s1.2.2.2.1 (p2 c1) (p3 c1) rfl).trans ?_
      have e1 : vrun mX9_isOpen 14 [(1, 127), (0, x1)] [(0, h 2 128 x1)] h = vrun mX9_isOpen 22 [(1, 127), (0, x1)] [(0, (if ¬ (h 2 128 x1 = 0) then 1 else 0))] h := by
        refine (rn_if_eq (t := 21) (pc := 14) (dd bX9_isOpen dX9_isOpen_14) rfl).trans ?_
        by_cases c2 : h 2 128 x1 = 0
        · refine (if_pos c2).trans ?_
          refine (rn_iconst (pc := 21) (dd bX9_isOpen dX9_isOpen_21) (by decide)).trans ?_
          refine Eq.trans (b := vrun mX9_isOpen 22 [(1, 127), (0, x1)] [(0, 0)] h) rfl ?_
          simp only [c2, true_or, false_or, or_true, or_false, true_and, false_and, and_true, and_false, not_true_eq_false, not_false_eq_true, ne_eq, if_true, if_false, ↓reduceIte]
        · refine (if_neg c2).trans ?_
          refine (rn_iconst (pc := 17) (dd bX9_isOpen dX9_isOpen_17) (by decide)).trans ?_
          refine (rn_goto (t := 22) (pc := 18) (dd bX9_isOpen dX9_isOpen_18) rfl).trans ?_
          refine Eq.trans (b := vrun mX9_isOpen 22 [(1, 127), (0, x1)] [(0, 1)] h) rfl ?_
          simp only [c2, true_or, false_or, or_true, or_false, true_and, false_and, and_true, and_false, not_true_eq_false, not_false_eq_true, ne_eq, if_true, if_false, ↓reduceIte]
      refine e1.trans ?_
      refine Eq.trans (b := vrun mX9_isOpen 22 [(1, 127), (0, x1)] [(0, (if ¬ (h 2 128 x1 = 0) then 1 else 0))] h) rfl ?_
      simp only [c1, true_or, false_or, or_true, or_false, true_and, false_and, and_true, and_false, not_true_eq_false, not_false_eq_true, ne_eq, if_true, if_false, ↓reduceIte]
    · refine (if_neg c1).trans ?_
      refine (rn_iconst (pc := 21) (dd bX9_isOpen dX9_isOpen_21) (by decide)).trans ?_
      refine Eq.trans (b := vrun mX9_isOpen 22 [(1, 127), (0, x1)] [(0, 0)] h) rfl ?_
      simp only [c1, true_or, false_or, or_true, or_false, true_and, false_and, and_true, and_false, not_true_eq_false, not_false_eq_true, ne_eq, if_true, if_false, ↓reduceIte]
  refine e2.trans ?_
  exact rn_ireturn (pc := 22) (dd bX9_isOpen dX9_isOpen_22) (Or.inr ⟨rfl, b01⟩)
def fX9_isOpen (h : vH) (x1 : Int) : Int := (if (¬ (x1 < 0) ∧ ¬ (4 ≤ x1)) ∧ ¬ (h 2 128 x1 = 0) then 1 else 0)
theorem spX9_isOpen {x1 : Int} {h : vH} (s1 : shStack h) (p2 : ¬ (x1 < 0) ∧ ¬ (4 ≤ x1) → 0 ≤ x1) (p3 : ¬ (x1 < 0) ∧ ¬ (4 ≤ x1) → x1 < 4) : vcl mX9_isOpen [(1, 127), (0, x1)] h = some (.inl (some (0, fX9_isOpen h x1)), h) := by
  refine (show _ = _ from rX9_isOpen_0 s1 p2 p3).trans ?_
  rfl
theorem bX9_needOf : vmB mX9_needOf = cX9_needOf := rfl
theorem rX9_needOf_0 {x1 : Int} {h : vH} (s1 : shStack h) (p2 : ¬ (x1 < 0) ∧ ¬ (4 ≤ x1) → 0 ≤ x1) (p3 : ¬ (x1 < 0) ∧ ¬ (4 ≤ x1) → x1 < 4) : vrun mX9_needOf 0 [(1, 127), (0, x1)] [] h = if ¬ (x1 < 0) ∧ ¬ (4 ≤ x1) then some (.inl (some (0, (if h 2 131 x1 = (-1) then h 2 130 x1 else h 2 131 x1))), h) else some (.inl (some (0, 0)), h) := by
  refine (rn_aload_n (pc := 0) (dd bX9_needOf dX9_needOf_0) rfl).trans ?_
  refine (rn_iload_n (pc := 1) (dd bX9_needOf dX9_needOf_1) rfl).trans ?_
  refine (rg_virtual (pc := 2) (dd bX9_needOf dX9_needOf_2) rfl rfl (by decide) (kc := 30) rfl s1.1 (as := [(1, 127), (0, x1)]) rfl ⟨Nat.le_of_ble_eq_true rfl, Nat.le_of_ble_eq_true rfl, Nat.le_of_ble_eq_true rfl, Nat.le_of_ble_eq_true rfl⟩).trans ?_
  refine (vret_v spX9_isPane).trans ?_
  refine (rg_bne (t := 10) (pc := 5) (dd bX9_needOf dX9_needOf_5) rfl).trans (itec (fun c1 => ?_) (fun c1 => ?_))
  · refine (rn_aload_n (pc := 10) (dd bX9_needOf dX9_needOf_10) rfl).trans ?_
    refine (rg_gf (pc := 11) (dd bX9_needOf dX9_needOf_11) (ci := 10) (j := 3) rfl rfl (key := 1103) rfl (kc := 30) rfl s1.1 s1.2.2.2.2.2.2.2.2.2.2.1).trans ?_
    refine (rn_iload_n (pc := 14) (dd bX9_needOf dX9_needOf_14) rfl).trans ?_
    refine (rg_iaload (pc := 15) (dd bX9_needOf dX9_needOf_15) s1.2.2.2.2.2.2.2.2.2.2.2.1 s1.2.2.2.2.2.2.2.2.2.2.2.2.1 (p2 c1) (p3 c1) rfl).trans ?_
    refine (rn_iconst (pc := 16) (dd bX9_needOf dX9_needOf_16) (by decide)).trans ?_
    have e1 : vrun mX9_needOf 17 [(1, 127), (0, x1)] [(0, (-1)), (0, h 2 131 x1)] h = vrun mX9_needOf 35 [(1, 127), (0, x1)] [(0, (if h 2 131 x1 = (-1) then h 2 130 x1 else h 2 131 x1))] h := by
      refine (rg_icmp_ne (t := 29) (pc := 17) (dd bX9_needOf dX9_needOf_17) rfl).trans ?_
      by_cases c2 : h 2 131 x1 = (-1)
      · refine (if_pos c2).trans ?_
        refine (rn_aload_n (pc := 20) (dd bX9_needOf dX9_needOf_20) rfl).trans ?_
        refine (rg_gf (pc := 21) (dd bX9_needOf dX9_needOf_21) (ci := 10) (j := 2) rfl rfl (key := 1102) rfl (kc := 30) rfl s1.1 s1.2.2.2.2.2.2.2.1).trans ?_
        refine (rn_iload_n (pc := 24) (dd bX9_needOf dX9_needOf_24) rfl).trans ?_
        refine (rg_iaload (pc := 25) (dd bX9_needOf dX9_needOf_25) s1.2.2.2.2.2.2.2.2.1 s1.2.2.2.2.2.2.2.2.2.1 (by have z0 := p2 c1; have z1 := p3 c1; omega) (by have z0 := p2 c1; have z1 := p3 c1; omega) rfl).trans ?_
        refine (rn_goto (t := 35) (pc := 26) (dd bX9_needOf dX9_needOf_26) rfl).trans ?_
        refine Eq.trans (b := vrun mX9_needOf 35 [(1, 127), (0, x1)] [(0, h 2 130 x1)] h) rfl ?_
        simp only [if_pos c2]
      · refine (if_neg c2).trans ?_
        refine (rn_aload_n (pc := 29) (dd bX9_needOf dX9_needOf_29) rfl).trans ?_
        refine (rg_gf (pc := 30) (dd bX9_needOf dX9_needOf_30) (ci := 10) (j := 3) rfl rfl (key := 1103) rfl (kc := 30) rfl s1.1 s1.2.2.2.2.2.2.2.2.2.2.1).trans ?_
        refine (rn_iload_n (pc := 33) (dd bX9_needOf dX9_needOf_33) rfl).trans ?_
        refine (rg_iaload (pc := 34) (dd bX9_needOf dX9_needOf_34) s1.2.2.2.2.2.2.2.2.2.2.2.1 s1.2.2.2.2.2.2.2.2.2.2.2.2.1 (by have z0 := p2 c1; have z1 := p3 c1; omega) (by have z0 := p2 c1; have z1 := p3 c1; omega) rfl).trans ?_
        refine Eq.trans (b := vrun mX9_needOf 35 [(1, 127), (0, x1)] [(0, h 2 131 x1)] h) rfl ?_
        simp only [if_neg c2]
    refine e1.trans ?_
    exact rn_ireturn (pc := 35) (dd bX9_needOf dX9_needOf_35) (Or.inl rfl)
  · refine (rn_iconst (pc := 8) (dd bX9_needOf dX9_needOf_8) (by decide)).trans ?_
    exact rn_ireturn (pc := 9) (dd bX9_needOf dX9_needOf_9) (Or.inl rfl)
def fX9_needOf (h : vH) (x1 : Int) : Int := (if ¬ (x1 < 0) ∧ ¬ (4 ≤ x1) then (if h 2 131 x1 = (-1) then h 2 130 x1 else h 2 131 x1) else 0)
theorem spX9_needOf {x1 : Int} {h : vH} (s1 : shStack h) (p2 : ¬ (x1 < 0) ∧ ¬ (4 ≤ x1) → 0 ≤ x1) (p3 : ¬ (x1 < 0) ∧ ¬ (4 ≤ x1) → x1 < 4) : vcl mX9_needOf [(1, 127), (0, x1)] h = some (.inl (some (0, fX9_needOf h x1)), h) := by
  refine (show _ = _ from rX9_needOf_0 s1 p2 p3).trans ?_
  simp only [ret_ite]
  rfl
theorem bX9_hasRoomFor_ : vmB mX9_hasRoomFor_ = cX9_hasRoomFor_ := rfl
theorem rX9_hasRoomFor__0 {x1 : Int} {x2 : Int} {h : vH} : vrun mX9_hasRoomFor_ 0 [(1, 127), (0, x1), (0, x2), (9, 0), (9, 0)] [] h = vrun mX9_hasRoomFor_ 5 [(1, 127), (0, x1), (0, x2), (0, x2), (0, 0)] [] h := by
  refine (rn_iload_n (pc := 0) (dd bX9_hasRoomFor_ dX9_hasRoomFor__0) rfl).trans ?_
  refine (rn_istore_n (pc := 1) (dd bX9_hasRoomFor_ dX9_hasRoomFor__1) (Nat.le_of_ble_eq_true rfl) rfl).trans ?_
  refine (rn_iconst (pc := 2) (dd bX9_hasRoomFor_ dX9_hasRoomFor__2) (by decide)).trans ?_
  refine (rn_istore (pc := 3) (dd bX9_hasRoomFor_ dX9_hasRoomFor__3) (Nat.le_of_ble_eq_true rfl) rfl).trans ?_
  rfl
theorem rX9_hasRoomFor__5 {x1 : Int} {x2 : Int} {x3 : Int} {x4 : Int} {h : vH} (s1 : shStack h) (p2 : ¬ (4 ≤ x4) → ¬ (x4 = x1) → 0 ≤ x4) (p3 : ¬ (4 ≤ x4) → ¬ (x4 = x1) → ¬ (h 2 128 x4 = 0) → ¬ (x4 < 0) ∧ ¬ (4 ≤ x4) → 0 ≤ x4) (p4 : ¬ (4 ≤ x4) → ¬ (x4 = x1) → ¬ (h 2 128 x4 = 0) → ¬ (x4 < 0) ∧ ¬ (4 ≤ x4) → x4 < 4) (p5 : ¬ (4 ≤ x4) → ¬ (x4 = x1) → ¬ (h 2 128 x4 = 0) → (-2147483648) ≤ x3 + fX9_needOf h x4) (p6 : ¬ (4 ≤ x4) → ¬ (x4 = x1) → ¬ (h 2 128 x4 = 0) → x3 + fX9_needOf h x4 < 2147483648) (p7 : ¬ (4 ≤ x4) → (-2147483648) ≤ x4 + 1) : vrun mX9_hasRoomFor_ 5 [(1, 127), (0, x1), (0, x2), (0, x3), (0, x4)] [] h = if 4 ≤ x4 then some (.inl (some (0, (if ¬ (24 < x3) then 1 else 0))), h) else vrun mX9_hasRoomFor_ 5 [(1, 127), (0, x1), (0, x2), (0, (if x4 = x1 then x3 else (if h 2 128 x4 = 0 then x3 else x3 + fX9_needOf h x4))), (0, x4 + 1)] [] h := by
  refine (rn_iload (pc := 5) (dd bX9_hasRoomFor_ dX9_hasRoomFor__5) rfl).trans ?_
  refine (rn_iconst (pc := 7) (dd bX9_hasRoomFor_ dX9_hasRoomFor__7) (by decide)).trans ?_
  refine (rn_icmp_ge (t := 42) (pc := 8) (dd bX9_hasRoomFor_ dX9_hasRoomFor__8) rfl).trans (itec (fun c1 => ?_) (fun c1 => ?_))
  · refine (rn_iload_n (pc := 42) (dd bX9_hasRoomFor_ dX9_hasRoomFor__42) rfl).trans ?_
    refine (rn_bipush (pc := 43) (dd bX9_hasRoomFor_ dX9_hasRoomFor__43) (by decide)).trans ?_
    have e1 : vrun mX9_hasRoomFor_ 45 [(1, 127), (0, x1), (0, x2), (0, x3), (0, x4)] [(0, 24), (0, x3)] h = vrun mX9_hasRoomFor_ 53 [(1, 127), (0, x1), (0, x2), (0, x3), (0, x4)] [(0, (if ¬ (24 < x3) then 1 else 0))] h := by
      refine (rn_icmp_gt (t := 52) (pc := 45) (dd bX9_hasRoomFor_ dX9_hasRoomFor__45) rfl).trans ?_
      by_cases c2 : 24 < x3
      · refine (if_pos c2).trans ?_
        refine (rn_iconst (pc := 52) (dd bX9_hasRoomFor_ dX9_hasRoomFor__52) (by decide)).trans ?_
        refine Eq.trans (b := vrun mX9_hasRoomFor_ 53 [(1, 127), (0, x1), (0, x2), (0, x3), (0, x4)] [(0, 0)] h) rfl ?_
        simp only [c2, true_or, false_or, or_true, or_false, true_and, false_and, and_true, and_false, not_true_eq_false, not_false_eq_true, ne_eq, if_true, if_false, ↓reduceIte]
      · refine (if_neg c2).trans ?_
        refine (rn_iconst (pc := 48) (dd bX9_hasRoomFor_ dX9_hasRoomFor__48) (by decide)).trans ?_
        refine (rn_goto (t := 53) (pc := 49) (dd bX9_hasRoomFor_ dX9_hasRoomFor__49) rfl).trans ?_
        refine Eq.trans (b := vrun mX9_hasRoomFor_ 53 [(1, 127), (0, x1), (0, x2), (0, x3), (0, x4)] [(0, 1)] h) rfl ?_
        simp only [c2, true_or, false_or, or_true, or_false, true_and, false_and, and_true, and_false, not_true_eq_false, not_false_eq_true, ne_eq, if_true, if_false, ↓reduceIte]
    refine e1.trans ?_
    exact rn_ireturn (pc := 53) (dd bX9_hasRoomFor_ dX9_hasRoomFor__53) (Or.inr ⟨rfl, b01⟩)
  · refine (rn_iload (pc := 11) (dd bX9_hasRoomFor_ dX9_hasRoomFor__11) rfl).trans ?_
    refine (rn_iload_n (pc := 13) (dd bX9_hasRoomFor_ dX9_hasRoomFor__13) rfl).trans ?_
    have e3 : vrun mX9_hasRoomFor_ 14 [(1, 127), (0, x1), (0, x2), (0, x3), (0, x4)] [(0, x1), (0, x4)] h = vrun mX9_hasRoomFor_ 36 [(1, 127), (0, x1), (0, x2), (0, (if x4 = x1 then x3 else (if h 2 128 x4 = 0 then x3 else x3 + fX9_needOf h x4))), (0, x4)] [] h := by
      refine (rn_icmp_eq (t := 36) (pc := 14) (dd bX9_hasRoomFor_ dX9_hasRoomFor__14) rfl).trans ?_
      by_cases c3 : x4 = x1
      · refine (if_pos c3).trans ?_
        refine Eq.trans (b := vrun mX9_hasRoomFor_ 36 [(1, 127), (0, x1), (0, x2), (0, x3), (0, x4)] [] h) rfl ?_
        simp only [if_pos c3]
      · refine (if_neg c3).trans ?_
        refine (rn_aload_n (pc := 17) (dd bX9_hasRoomFor_ dX9_hasRoomFor__17) rfl).trans ?_
        refine (rg_gf (pc := 18) (dd bX9_hasRoomFor_ dX9_hasRoomFor__18) (ci := 10) (j := 0) rfl rfl (key := 1100) rfl (kc := 30) rfl s1.1 s1.2.1).trans ?_
        refine (rn_iload (pc := 21) (dd bX9_hasRoomFor_ dX9_hasRoomFor__21) rfl).trans ?_
        refine (rg_baload (pc := 23) (dd bX9_hasRoomFor_ dX9_hasRoomFor__23) s1.2.2.1 s1.2.2.2.1 (p2 c1 c3) (Int.not_le.mp c1) rfl).trans ?_
        have e2 : vrun mX9_hasRoomFor_ 24 [(1, 127), (0, x1), (0, x2), (0, x3), (0, x4)] [(0, h 2 128 x4)] h = vrun mX9_hasRoomFor_ 36 [(1, 127), (0, x1), (0, x2), (0, (if h 2 128 x4 = 0 then x3 else x3 + fX9_needOf h x4)), (0, x4)] [] h := by
          refine (rn_if_eq (t := 36) (pc := 24) (dd bX9_hasRoomFor_ dX9_hasRoomFor__24) rfl).trans ?_
          by_cases c4 : h 2 128 x4 = 0
          · refine (if_pos c4).trans ?_
            refine Eq.trans (b := vrun mX9_hasRoomFor_ 36 [(1, 127), (0, x1), (0, x2), (0, x3), (0, x4)] [] h) rfl ?_
            simp only [if_pos c4]
          · refine (if_neg c4).trans ?_
            refine (rn_iload_n (pc := 27) (dd bX9_hasRoomFor_ dX9_hasRoomFor__27) rfl).trans ?_
            refine (rn_aload_n (pc := 28) (dd bX9_hasRoomFor_ dX9_hasRoomFor__28) rfl).trans ?_
            refine (rn_iload (pc := 29) (dd bX9_hasRoomFor_ dX9_hasRoomFor__29) rfl).trans ?_
            refine (rg_virtual (pc := 31) (dd bX9_hasRoomFor_ dX9_hasRoomFor__31) rfl rfl (by decide) (kc := 30) rfl s1.1 (as := [(1, 127), (0, x4)]) rfl ⟨Nat.le_of_ble_eq_true rfl, Nat.le_of_ble_eq_true rfl, Nat.le_of_ble_eq_true rfl, Nat.le_of_ble_eq_true rfl⟩).trans ?_
            refine (vret_v (spX9_needOf s1 (p3 c1 c3 c4) (p4 c1 c3 c4))).trans ?_
            refine (rg_iadd (pc := 34) (dd bX9_hasRoomFor_ dX9_hasRoomFor__34) (p5 c1 c3 c4) (p6 c1 c3 c4)).trans ?_
            refine (rn_istore_n (pc := 35) (dd bX9_hasRoomFor_ dX9_hasRoomFor__35) (Nat.le_of_ble_eq_true rfl) rfl).trans ?_
            refine Eq.trans (b := vrun mX9_hasRoomFor_ 36 [(1, 127), (0, x1), (0, x2), (0, x3 + fX9_needOf h x4), (0, x4)] [] h) rfl ?_
            simp only [if_neg c4]
        refine e2.trans ?_
        refine Eq.trans (b := vrun mX9_hasRoomFor_ 36 [(1, 127), (0, x1), (0, x2), (0, (if h 2 128 x4 = 0 then x3 else x3 + fX9_needOf h x4)), (0, x4)] [] h) rfl ?_
        simp only [if_neg c3]
    refine e3.trans ?_
    refine (rg_iinc (pc := 36) (dd bX9_hasRoomFor_ dX9_hasRoomFor__36) rfl (Nat.le_of_ble_eq_true rfl) (p7 c1) (by have z0 := p7 c1; omega) rfl).trans ?_
    refine (rn_goto (t := 5) (pc := 39) (dd bX9_hasRoomFor_ dX9_hasRoomFor__39) rfl).trans ?_
    rfl
theorem bX9_hasRoomFor : vmB mX9_hasRoomFor = cX9_hasRoomFor := rfl
theorem rX9_hasRoomFor_0 {x1 : Int} {h : vH} (s1 : shStack h) (p2 : ¬ (x1 < 0) ∧ ¬ (4 ≤ x1) → 0 ≤ x1) (p3 : ¬ (x1 < 0) ∧ ¬ (4 ≤ x1) → x1 < 4) : vrun mX9_hasRoomFor 0 [(1, 127), (0, x1)] [] h = vret vrun mX9_hasRoomFor 7 [(1, 127), (0, x1)] [] (vcl mX9_hasRoomFor_ [(1, 127), (0, x1), (0, fX9_needOf h x1)] h) := by
  refine (rn_aload_n (pc := 0) (dd bX9_hasRoomFor dX9_hasRoomFor_0) rfl).trans ?_
  refine (rn_iload_n (pc := 1) (dd bX9_hasRoomFor dX9_hasRoomFor_1) rfl).trans ?_
  refine (rn_aload_n (pc := 2) (dd bX9_hasRoomFor dX9_hasRoomFor_2) rfl).trans ?_
  refine (rn_iload_n (pc := 3) (dd bX9_hasRoomFor dX9_hasRoomFor_3) rfl).trans ?_
  refine (rg_virtual (pc := 4) (dd bX9_hasRoomFor dX9_hasRoomFor_4) rfl rfl (by decide) (kc := 30) rfl s1.1 (as := [(1, 127), (0, x1)]) rfl ⟨Nat.le_of_ble_eq_true rfl, Nat.le_of_ble_eq_true rfl, Nat.le_of_ble_eq_true rfl, Nat.le_of_ble_eq_true rfl⟩).trans ?_
  refine (vret_v (spX9_needOf s1 p2 p3)).trans ?_
  exact rg_virtual (pc := 7) (dd bX9_hasRoomFor dX9_hasRoomFor_7) rfl rfl (by decide) (kc := 30) rfl s1.1 (as := [(1, 127), (0, x1), (0, fX9_needOf h x1)]) rfl ⟨Nat.le_of_ble_eq_true rfl, Nat.le_of_ble_eq_true rfl, Nat.le_of_ble_eq_true rfl, Nat.le_of_ble_eq_true rfl⟩
theorem rX9_hasRoomFor_10 {x1 : Int} {y0 : Int} {h : vH} (p1 : y0 = 0 ∨ y0 = 1) : vrun mX9_hasRoomFor 10 [(1, 127), (0, x1)] [(0, y0)] h = some (.inl (some (0, y0)), h) := by
  exact rn_ireturn (pc := 10) (dd bX9_hasRoomFor dX9_hasRoomFor_10) (Or.inr ⟨rfl, p1⟩)
theorem bX9_findSharing : vmB mX9_findSharing = cX9_findSharing := rfl
theorem rX9_findSharing_0 {h : vH} : vrun mX9_findSharing 0 [(1, 127), (9, 0), (9, 0), (9, 0)] [] h = vrun mX9_findSharing 6 [(1, 127), (0, (-1)), (0, 1), (0, 0)] [] h := by
  refine (rn_iconst (pc := 0) (dd bX9_findSharing dX9_findSharing_0) (by decide)).trans ?_
  refine (rn_istore_n (pc := 1) (dd bX9_findSharing dX9_findSharing_1) (Nat.le_of_ble_eq_true rfl) rfl).trans ?_
  refine (rn_iconst (pc := 2) (dd bX9_findSharing dX9_findSharing_2) (by decide)).trans ?_
  refine (rn_istore_n (pc := 3) (dd bX9_findSharing dX9_findSharing_3) (Nat.le_of_ble_eq_true rfl) rfl).trans ?_
  refine (rn_iconst (pc := 4) (dd bX9_findSharing dX9_findSharing_4) (by decide)).trans ?_
  refine (rn_istore_n (pc := 5) (dd bX9_findSharing dX9_findSharing_5) (Nat.le_of_ble_eq_true rfl) rfl).trans ?_
  rfl
theorem rX9_findSharing_6 {x1 : Int} {x2 : Int} {x3 : Int} {h : vH} (s1 : shStack h) (p2 : 4 ≤ x3 → ¬ (x2 = 0) → ¬ (x1 < 0) ∧ ¬ (4 ≤ x1) → 0 ≤ x1) (p3 : 4 ≤ x3 → ¬ (x2 = 0) → ¬ (x1 < 0) ∧ ¬ (4 ≤ x1) → x1 < 4) (p4 : ¬ (4 ≤ x3) → 0 ≤ x3) : vrun mX9_findSharing 6 [(1, 127), (0, x1), (0, x2), (0, x3)] [] h = if 4 ≤ x3 then some (.inl none, (if x2 = 0 then h else (if ¬ (x1 < 0) ∧ ¬ (4 ≤ x1) then vup h 2 133 x1 1 else h))) else vrun mX9_findSharing 6 [(1, 127), (0, (if h 2 128 x3 = 0 then x1 else x3)), (0, (if ¬ (x2 = 0) ∧ (vup h 2 133 x3 (if ¬ (h 2 128 x3 = 0) ∧ h 2 131 x3 = (-1) then 1 else 0)) 2 133 x3 = 0 then 1 else 0)), (0, x3 + 1)] [] (vup h 2 133 x3 (if ¬ (h 2 128 x3 = 0) ∧ h 2 131 x3 = (-1) then 1 else 0)) := by
  refine (rn_iload_n (pc := 6) (dd bX9_findSharing dX9_findSharing_6) rfl).trans ?_
  refine (rn_iconst (pc := 7) (dd bX9_findSharing dX9_findSharing_7) (by decide)).trans ?_
  refine (rn_icmp_ge (t := 81) (pc := 8) (dd bX9_findSharing dX9_findSharing_8) rfl).trans (itec (fun c1 => ?_) (fun c1 => ?_))
  · refine (rn_iload_n (pc := 81) (dd bX9_findSharing dX9_findSharing_81) rfl).trans ?_
    have e2 : vrun mX9_findSharing 82 [(1, 127), (0, x1), (0, x2), (0, x3)] [(0, x2)] h = vrun mX9_findSharing 100 [(1, 127), (0, x1), (0, x2), (0, x3)] [] (if x2 = 0 then h else (if ¬ (x1 < 0) ∧ ¬ (4 ≤ x1) then vup h 2 133 x1 1 else h)) := by
      refine (rn_if_eq (t := 100) (pc := 82) (dd bX9_findSharing dX9_findSharing_82) rfl).trans ?_
      by_cases c2 : x2 = 0
      · refine (if_pos c2).trans ?_
        refine Eq.trans (b := vrun mX9_findSharing 100 [(1, 127), (0, x1), (0, x2), (0, x3)] [] h) rfl ?_
        simp only [if_pos c2]
      · refine (if_neg c2).trans ?_
        refine (rn_aload_n (pc := 85) (dd bX9_findSharing dX9_findSharing_85) rfl).trans ?_
        refine (rn_iload_n (pc := 86) (dd bX9_findSharing dX9_findSharing_86) rfl).trans ?_
        refine (rg_virtual (pc := 87) (dd bX9_findSharing dX9_findSharing_87) rfl rfl (by decide) (kc := 30) rfl s1.1 (as := [(1, 127), (0, x1)]) rfl ⟨Nat.le_of_ble_eq_true rfl, Nat.le_of_ble_eq_true rfl, Nat.le_of_ble_eq_true rfl, Nat.le_of_ble_eq_true rfl⟩).trans ?_
        refine (vret_v spX9_isPane).trans ?_
        have e1 : vrun mX9_findSharing 90 [(1, 127), (0, x1), (0, x2), (0, x3)] [(0, (if ¬ (x1 < 0) ∧ ¬ (4 ≤ x1) then 1 else 0))] h = vrun mX9_findSharing 100 [(1, 127), (0, x1), (0, x2), (0, x3)] [] (if ¬ (x1 < 0) ∧ ¬ (4 ≤ x1) then vup h 2 133 x1 1 else h) := by
          refine (rg_beq (t := 100) (pc := 90) (dd bX9_findSharing dX9_findSharing_90) rfl).trans ?_
          by_cases c3 : ¬ (x1 < 0) ∧ ¬ (4 ≤ x1)
          · refine (if_pos c3).trans ?_
            refine (rn_aload_n (pc := 93) (dd bX9_findSharing dX9_findSharing_93) rfl).trans ?_
            refine (rg_gf (pc := 94) (dd bX9_findSharing dX9_findSharing_94) (ci := 10) (j := 5) rfl rfl (key := 1105) rfl (kc := 30) rfl s1.1 s1.2.2.2.2.2.2.2.2.2.2.2.2.2.2.2.2.1).trans ?_
            refine (rn_iload_n (pc := 97) (dd bX9_findSharing dX9_findSharing_97) rfl).trans ?_
            refine (rn_iconst (pc := 98) (dd bX9_findSharing dX9_findSharing_98) (by decide)).trans ?_
            refine (rg_bastore (pc := 99) (dd bX9_findSharing dX9_findSharing_99) s1.2.2.2.2.2.2.2.2.2.2.2.2.2.2.2.2.2.1 s1.2.2.2.2.2.2.2.2.2.2.2.2.2.2.2.2.2.2 (p2 c1 c2 c3) (p3 c1 c2 c3) (by decide)).trans ?_
            refine Eq.trans (b := vrun mX9_findSharing 100 [(1, 127), (0, x1), (0, x2), (0, x3)] [] (vup h 2 133 x1 1)) rfl ?_
            simp only [if_pos c3]
          · refine (if_neg c3).trans ?_
            refine Eq.trans (b := vrun mX9_findSharing 100 [(1, 127), (0, x1), (0, x2), (0, x3)] [] h) rfl ?_
            simp only [if_neg c3]
        refine e1.trans ?_
        refine Eq.trans (b := vrun mX9_findSharing 100 [(1, 127), (0, x1), (0, x2), (0, x3)] [] (if ¬ (x1 < 0) ∧ ¬ (4 ≤ x1) then vup h 2 133 x1 1 else h)) rfl ?_
        simp only [if_neg c2]
    refine e2.trans ?_
    exact rn_return (pc := 100) (dd bX9_findSharing dX9_findSharing_100) rfl
  · refine (rn_aload_n (pc := 11) (dd bX9_findSharing dX9_findSharing_11) rfl).trans ?_
    refine (rg_gf (pc := 12) (dd bX9_findSharing dX9_findSharing_12) (ci := 10) (j := 5) rfl rfl (key := 1105) rfl (kc := 30) rfl s1.1 s1.2.2.2.2.2.2.2.2.2.2.2.2.2.2.2.2.1).trans ?_
    refine (rn_iload_n (pc := 15) (dd bX9_findSharing dX9_findSharing_15) rfl).trans ?_
    refine (rn_aload_n (pc := 16) (dd bX9_findSharing dX9_findSharing_16) rfl).trans ?_
    refine (rg_gf (pc := 17) (dd bX9_findSharing dX9_findSharing_17) (ci := 10) (j := 0) rfl rfl (key := 1100) rfl (kc := 30) rfl s1.1 s1.2.1).trans ?_
    refine (rn_iload_n (pc := 20) (dd bX9_findSharing dX9_findSharing_20) rfl).trans ?_
    refine (rg_baload (pc := 21) (dd bX9_findSharing dX9_findSharing_21) s1.2.2.1 s1.2.2.2.1 (p4 c1) (Int.not_le.mp c1) rfl).trans ?_
    have e4 : vrun mX9_findSharing 22 [(1, 127), (0, x1), (0, x2), (0, x3)] [(0, h 2 128 x3), (0, x3), (1, 133)] h = vrun mX9_findSharing 40 [(1, 127), (0, x1), (0, x2), (0, x3)] [(0, (if ¬ (h 2 128 x3 = 0) ∧ h 2 131 x3 = (-1) then 1 else 0)), (0, x3), (1, 133)] h := by
      refine (rn_if_eq (t := 39) (pc := 22) (dd bX9_findSharing dX9_findSharing_22) rfl).trans ?_
      by_cases c4 : h 2 128 x3 = 0
      · refine (if_pos c4).trans ?_
        refine (rn_iconst (pc := 39) (dd bX9_findSharing dX9_findSharing_39) (by decide)).trans ?_
        refine Eq.trans (b := vrun mX9_findSharing 40 [(1, 127), (0, x1), (0, x2), (0, x3)] [(0, 0), (0, x3), (1, 133)] h) rfl ?_
        simp only [c4, true_or, false_or, or_true, or_false, true_and, false_and, and_true, and_false, not_true_eq_false, not_false_eq_true, ne_eq, if_true, if_false, ↓reduceIte]
      · refine (if_neg c4).trans ?_
        refine (rn_aload_n (pc := 25) (dd bX9_findSharing dX9_findSharing_25) rfl).trans ?_
        refine (rg_gf (pc := 26) (dd bX9_findSharing dX9_findSharing_26) (ci := 10) (j := 3) rfl rfl (key := 1103) rfl (kc := 30) rfl s1.1 s1.2.2.2.2.2.2.2.2.2.2.1).trans ?_
        refine (rn_iload_n (pc := 29) (dd bX9_findSharing dX9_findSharing_29) rfl).trans ?_
        refine (rg_iaload (pc := 30) (dd bX9_findSharing dX9_findSharing_30) s1.2.2.2.2.2.2.2.2.2.2.2.1 s1.2.2.2.2.2.2.2.2.2.2.2.2.1 (by have z0 := p4 c1; omega) (Int.not_le.mp c1) rfl).trans ?_
        refine (rn_iconst (pc := 31) (dd bX9_findSharing dX9_findSharing_31) (by decide)).trans ?_
        have e3 : vrun mX9_findSharing 32 [(1, 127), (0, x1), (0, x2), (0, x3)] [(0, (-1)), (0, h 2 131 x3), (0, x3), (1, 133)] h = vrun mX9_findSharing 40 [(1, 127), (0, x1), (0, x2), (0, x3)] [(0, (if h 2 131 x3 = (-1) then 1 else 0)), (0, x3), (1, 133)] h := by
          refine (rg_icmp_ne (t := 39) (pc := 32) (dd bX9_findSharing dX9_findSharing_32) rfl).trans ?_
          by_cases c5 : h 2 131 x3 = (-1)
          · refine (if_pos c5).trans ?_
            refine (rn_iconst (pc := 35) (dd bX9_findSharing dX9_findSharing_35) (by decide)).trans ?_
            refine (rn_goto (t := 40) (pc := 36) (dd bX9_findSharing dX9_findSharing_36) rfl).trans ?_
            refine Eq.trans (b := vrun mX9_findSharing 40 [(1, 127), (0, x1), (0, x2), (0, x3)] [(0, 1), (0, x3), (1, 133)] h) rfl ?_
            simp only [c5, true_or, false_or, or_true, or_false, true_and, false_and, and_true, and_false, not_true_eq_false, not_false_eq_true, ne_eq, if_true, if_false, ↓reduceIte]
          · refine (if_neg c5).trans ?_
            refine (rn_iconst (pc := 39) (dd bX9_findSharing dX9_findSharing_39) (by decide)).trans ?_
            refine Eq.trans (b := vrun mX9_findSharing 40 [(1, 127), (0, x1), (0, x2), (0, x3)] [(0, 0), (0, x3), (1, 133)] h) rfl ?_
            simp only [c5, true_or, false_or, or_true, or_false, true_and, false_and, and_true, and_false, not_true_eq_false, not_false_eq_true, ne_eq, if_true, if_false, ↓reduceIte]
        refine e3.trans ?_
        refine Eq.trans (b := vrun mX9_findSharing 40 [(1, 127), (0, x1), (0, x2), (0, x3)] [(0, (if h 2 131 x3 = (-1) then 1 else 0)), (0, x3), (1, 133)] h) rfl ?_
        simp only [c4, true_or, false_or, or_true, or_false, true_and, false_and, and_true, and_false, not_true_eq_false, not_false_eq_true, ne_eq, if_true, if_false, ↓reduceIte]
    refine e4.trans ?_
    refine (rg_bastore (pc := 40) (dd bX9_findSharing dX9_findSharing_40) s1.2.2.2.2.2.2.2.2.2.2.2.2.2.2.2.2.2.1 s1.2.2.2.2.2.2.2.2.2.2.2.2.2.2.2.2.2.2 (by have z0 := p4 c1; omega) (Int.not_le.mp c1) b01).trans ?_
    refine (rn_aload_n (pc := 41) (dd bX9_findSharing dX9_findSharing_41) rfl).trans ?_
    refine (rg_gf (pc := 42) (dd bX9_findSharing dX9_findSharing_42) (ci := 10) (j := 0) rfl rfl (key := 1100) rfl (kc := 30) rfl ((vup_k (by decide)).trans s1.1) ((vup_k (by decide)).trans s1.2.1)).trans ?_
    refine (rn_iload_n (pc := 45) (dd bX9_findSharing dX9_findSharing_45) rfl).trans ?_
    refine (rg_baload (pc := 46) (dd bX9_findSharing dX9_findSharing_46) ((vup_k (by decide)).trans s1.2.2.1) ((vup_k (by decide)).trans s1.2.2.2.1) (by have z0 := p4 c1; omega) (Int.not_le.mp c1) ((vup_r (by omega)).trans rfl)).trans ?_
    have e5 : vrun mX9_findSharing 47 [(1, 127), (0, x1), (0, x2), (0, x3)] [(0, h 2 128 x3)] (vup h 2 133 x3 (if ¬ (h 2 128 x3 = 0) ∧ h 2 131 x3 = (-1) then 1 else 0)) = vrun mX9_findSharing 55 [(1, 127), (0, x1), (0, x2), (0, x3)] [(0, (if h 2 128 x3 = 0 then x1 else x3))] (vup h 2 133 x3 (if ¬ (h 2 128 x3 = 0) ∧ h 2 131 x3 = (-1) then 1 else 0)) := by
      refine (rn_if_eq (t := 54) (pc := 47) (dd bX9_findSharing dX9_findSharing_47) rfl).trans ?_
      by_cases c6 : h 2 128 x3 = 0
      · refine (if_pos c6).trans ?_
        refine (rn_iload_n (pc := 54) (dd bX9_findSharing dX9_findSharing_54) rfl).trans ?_
        refine Eq.trans (b := vrun mX9_findSharing 55 [(1, 127), (0, x1), (0, x2), (0, x3)] [(0, x1)] (vup h 2 133 x3 (if ¬ (h 2 128 x3 = 0) ∧ h 2 131 x3 = (-1) then 1 else 0))) rfl ?_
        simp only [if_pos c6]
      · refine (if_neg c6).trans ?_
        refine (rn_iload_n (pc := 50) (dd bX9_findSharing dX9_findSharing_50) rfl).trans ?_
        refine (rn_goto (t := 55) (pc := 51) (dd bX9_findSharing dX9_findSharing_51) rfl).trans ?_
        refine Eq.trans (b := vrun mX9_findSharing 55 [(1, 127), (0, x1), (0, x2), (0, x3)] [(0, x3)] (vup h 2 133 x3 (if ¬ (h 2 128 x3 = 0) ∧ h 2 131 x3 = (-1) then 1 else 0))) rfl ?_
        simp only [if_neg c6]
    refine e5.trans ?_
    refine (rn_istore_n (pc := 55) (dd bX9_findSharing dX9_findSharing_55) (Nat.le_of_ble_eq_true rfl) rfl).trans ?_
    refine (rn_iload_n (pc := 56) (dd bX9_findSharing dX9_findSharing_56) rfl).trans ?_
    have e7 : vrun mX9_findSharing 57 [(1, 127), (0, (if h 2 128 x3 = 0 then x1 else x3)), (0, x2), (0, x3)] [(0, x2)] (vup h 2 133 x3 (if ¬ (h 2 128 x3 = 0) ∧ h 2 131 x3 = (-1) then 1 else 0)) = vrun mX9_findSharing 74 [(1, 127), (0, (if h 2 128 x3 = 0 then x1 else x3)), (0, x2), (0, x3)] [(0, (if ¬ (x2 = 0) ∧ (vup h 2 133 x3 (if ¬ (h 2 128 x3 = 0) ∧ h 2 131 x3 = (-1) then 1 else 0)) 2 133 x3 = 0 then 1 else 0))] (vup h 2 133 x3 (if ¬ (h 2 128 x3 = 0) ∧ h 2 131 x3 = (-1) then 1 else 0)) := by
      refine (rn_if_eq (t := 73) (pc := 57) (dd bX9_findSharing dX9_findSharing_57) rfl).trans ?_
      by_cases c7 : x2 = 0
      · refine (if_pos c7).trans ?_
        refine (rn_iconst (pc := 73) (dd bX9_findSharing dX9_findSharing_73) (by decide)).trans ?_
        refine Eq.trans (b := vrun mX9_findSharing 74 [(1, 127), (0, (if h 2 128 x3 = 0 then x1 else x3)), (0, x2), (0, x3)] [(0, 0)] (vup h 2 133 x3 (if ¬ (h 2 128 x3 = 0) ∧ h 2 131 x3 = (-1) then 1 else 0))) rfl ?_
        simp only [c7, true_or, false_or, or_true, or_false, true_and, false_and, and_true, and_false, not_true_eq_false, not_false_eq_true, ne_eq, if_true, if_false, ↓reduceIte]
      · refine (if_neg c7).trans ?_
        refine (rn_aload_n (pc := 60) (dd bX9_findSharing dX9_findSharing_60) rfl).trans ?_
        refine (rg_gf (pc := 61) (dd bX9_findSharing dX9_findSharing_61) (ci := 10) (j := 5) rfl rfl (key := 1105) rfl (kc := 30) rfl ((vup_k (by decide)).trans s1.1) ((vup_k (by decide)).trans s1.2.2.2.2.2.2.2.2.2.2.2.2.2.2.2.2.1)).trans ?_
        refine (rn_iload_n (pc := 64) (dd bX9_findSharing dX9_findSharing_64) rfl).trans ?_
        refine (rg_baload (pc := 65) (dd bX9_findSharing dX9_findSharing_65) ((vup_k (by decide)).trans s1.2.2.2.2.2.2.2.2.2.2.2.2.2.2.2.2.2.1) ((vup_k (by decide)).trans s1.2.2.2.2.2.2.2.2.2.2.2.2.2.2.2.2.2.2) (by have z0 := p4 c1; omega) (Int.not_le.mp c1) rfl).trans ?_
        have e6 : vrun mX9_findSharing 66 [(1, 127), (0, (if h 2 128 x3 = 0 then x1 else x3)), (0, x2), (0, x3)] [(0, (vup h 2 133 x3 (if ¬ (h 2 128 x3 = 0) ∧ h 2 131 x3 = (-1) then 1 else 0)) 2 133 x3)] (vup h 2 133 x3 (if ¬ (h 2 128 x3 = 0) ∧ h 2 131 x3 = (-1) then 1 else 0)) = vrun mX9_findSharing 74 [(1, 127), (0, (if h 2 128 x3 = 0 then x1 else x3)), (0, x2), (0, x3)] [(0, (if (vup h 2 133 x3 (if ¬ (h 2 128 x3 = 0) ∧ h 2 131 x3 = (-1) then 1 else 0)) 2 133 x3 = 0 then 1 else 0))] (vup h 2 133 x3 (if ¬ (h 2 128 x3 = 0) ∧ h 2 131 x3 = (-1) then 1 else 0)) := by
          refine (rg_if_ne (t := 73) (pc := 66) (dd bX9_findSharing dX9_findSharing_66) rfl).trans ?_
          by_cases c8 : (vup h 2 133 x3 (if ¬ (h 2 128 x3 = 0) ∧ h 2 131 x3 = (-1) then 1 else 0)) 2 133 x3 = 0
          · refine (if_pos c8).trans ?_
            refine (rn_iconst (pc := 69) (dd bX9_findSharing dX9_findSharing_69) (by decide)).trans ?_
            refine (rn_goto (t := 74) (pc := 70) (dd bX9_findSharing dX9_findSharing_70) rfl).trans ?_
            refine Eq.trans (b := vrun mX9_findSharing 74 [(1, 127), (0, (if h 2 128 x3 = 0 then x1 else x3)), (0, x2), (0, x3)] [(0, 1)] (vup h 2 133 x3 (if ¬ (h 2 128 x3 = 0) ∧ h 2 131 x3 = (-1) then 1 else 0))) rfl ?_
            simp only [c8, true_or, false_or, or_true, or_false, true_and, false_and, and_true, and_false, not_true_eq_false, not_false_eq_true, ne_eq, if_true, if_false, ↓reduceIte]
          · refine (if_neg c8).trans ?_
            refine (rn_iconst (pc := 73) (dd bX9_findSharing dX9_findSharing_73) (by decide)).trans ?_
            refine Eq.trans (b := vrun mX9_findSharing 74 [(1, 127), (0, (if h 2 128 x3 = 0 then x1 else x3)), (0, x2), (0, x3)] [(0, 0)] (vup h 2 133 x3 (if ¬ (h 2 128 x3 = 0) ∧ h 2 131 x3 = (-1) then 1 else 0))) rfl ?_
            simp only [c8, true_or, false_or, or_true, or_false, true_and, false_and, and_true, and_false, not_true_eq_false, not_false_eq_true, ne_eq, if_true, if_false, ↓reduceIte]
        refine e6.trans ?_
        refine Eq.trans (b := vrun mX9_findSharing 74 [(1, 127), (0, (if h 2 128 x3 = 0 then x1 else x3)), (0, x2), (0, x3)] [(0, (if (vup h 2 133 x3 (if ¬ (h 2 128 x3 = 0) ∧ h 2 131 x3 = (-1) then 1 else 0)) 2 133 x3 = 0 then 1 else 0))] (vup h 2 133 x3 (if ¬ (h 2 128 x3 = 0) ∧ h 2 131 x3 = (-1) then 1 else 0))) rfl ?_
        simp only [c7, true_or, false_or, or_true, or_false, true_and, false_and, and_true, and_false, not_true_eq_false, not_false_eq_true, ne_eq, if_true, if_false, ↓reduceIte]
    refine e7.trans ?_
    refine (rn_istore_n (pc := 74) (dd bX9_findSharing dX9_findSharing_74) (Nat.le_of_ble_eq_true rfl) rfl).trans ?_
    refine (rg_iinc (pc := 75) (dd bX9_findSharing dX9_findSharing_75) rfl (Nat.le_of_ble_eq_true rfl) (by have z0 := p4 c1; omega) (by have z0 := p4 c1; omega) rfl).trans ?_
    refine (rn_goto (t := 6) (pc := 78) (dd bX9_findSharing dX9_findSharing_78) rfl).trans ?_
    rfl
theorem bX9_giveRest : vmB mX9_giveRest = cX9_giveRest := rfl
theorem rX9_giveRest_0 {x1 : Int} {x2 : Int} {h : vH} : vrun mX9_giveRest 0 [(1, 127), (0, x1), (0, x2), (9, 0), (9, 0)] [] h = vrun mX9_giveRest 5 [(1, 127), (0, x1), (0, x2), (0, x1), (0, 0)] [] h := by
  refine (rn_iload_n (pc := 0) (dd bX9_giveRest dX9_giveRest_0) rfl).trans ?_
  refine (rn_istore_n (pc := 1) (dd bX9_giveRest dX9_giveRest_1) (Nat.le_of_ble_eq_true rfl) rfl).trans ?_
  refine (rn_iconst (pc := 2) (dd bX9_giveRest dX9_giveRest_2) (by decide)).trans ?_
  refine (rn_istore (pc := 3) (dd bX9_giveRest dX9_giveRest_3) (Nat.le_of_ble_eq_true rfl) rfl).trans ?_
  rfl
theorem rX9_giveRest_5 {x1 : Int} {x2 : Int} {x3 : Int} {x4 : Int} {h : vH} (s1 : shStack h) (p2 : ¬ (4 ≤ x4) → 0 ≤ x4) (p3 : ¬ (4 ≤ x4) → ¬ (h 2 133 x4 = 0) → ¬ (x2 ≤ 0) → (-2147483648) ≤ x1 * h 2 129 x4) (p4 : ¬ (4 ≤ x4) → ¬ (h 2 133 x4 = 0) → ¬ (x2 ≤ 0) → x1 * h 2 129 x4 < 2147483648) (p5 : ¬ (4 ≤ x4) → ¬ (h 2 133 x4 = 0) → ¬ (x2 ≤ 0) → 0 ≤ x1 * h 2 129 x4) (p6 : ¬ (4 ≤ x4) → ¬ (h 2 133 x4 = 0) → ¬ (x2 ≤ 0) → (-2147483648) ≤ x3 - (vup h 2 132 x4 (x1 * h 2 129 x4 / x2)) 2 132 x4) (p7 : ¬ (4 ≤ x4) → ¬ (h 2 133 x4 = 0) → ¬ (x2 ≤ 0) → x3 - (vup h 2 132 x4 (x1 * h 2 129 x4 / x2)) 2 132 x4 < 2147483648) : vrun mX9_giveRest 5 [(1, 127), (0, x1), (0, x2), (0, x3), (0, x4)] [] h = if 4 ≤ x4 then vrun mX9_giveRest 62 [(1, 127), (0, x1), (0, x2), (0, x3), (0, 0)] [] h else vrun mX9_giveRest 5 [(1, 127), (0, x1), (0, x2), (0, (if h 2 133 x4 = 0 then x3 else (if x2 ≤ 0 then x3 else x3 - (vup h 2 132 x4 (x1 * h 2 129 x4 / x2)) 2 132 x4))), (0, x4 + 1)] [] (if h 2 133 x4 = 0 then h else (if x2 ≤ 0 then h else vup h 2 132 x4 (x1 * h 2 129 x4 / x2))) := by
  refine (rn_iload (pc := 5) (dd bX9_giveRest dX9_giveRest_5) rfl).trans ?_
  refine (rn_iconst (pc := 7) (dd bX9_giveRest dX9_giveRest_7) (by decide)).trans ?_
  refine (rn_icmp_ge (t := 59) (pc := 8) (dd bX9_giveRest dX9_giveRest_8) rfl).trans (itec (fun c1 => ?_) (fun c1 => ?_))
  · refine (rn_iconst (pc := 59) (dd bX9_giveRest dX9_giveRest_59) (by decide)).trans ?_
    refine (rn_istore (pc := 60) (dd bX9_giveRest dX9_giveRest_60) (Nat.le_of_ble_eq_true rfl) rfl).trans ?_
    rfl
  · refine (rn_aload_n (pc := 11) (dd bX9_giveRest dX9_giveRest_11) rfl).trans ?_
    refine (rg_gf (pc := 12) (dd bX9_giveRest dX9_giveRest_12) (ci := 10) (j := 5) rfl rfl (key := 1105) rfl (kc := 30) rfl s1.1 s1.2.2.2.2.2.2.2.2.2.2.2.2.2.2.2.2.1).trans ?_
    refine (rn_iload (pc := 15) (dd bX9_giveRest dX9_giveRest_15) rfl).trans ?_
    refine (rg_baload (pc := 17) (dd bX9_giveRest dX9_giveRest_17) s1.2.2.2.2.2.2.2.2.2.2.2.2.2.2.2.2.2.1 s1.2.2.2.2.2.2.2.2.2.2.2.2.2.2.2.2.2.2 (p2 c1) (Int.not_le.mp c1) rfl).trans ?_
    have e2 : vrun mX9_giveRest 18 [(1, 127), (0, x1), (0, x2), (0, x3), (0, x4)] [(0, h 2 133 x4)] h = vrun mX9_giveRest 53 [(1, 127), (0, x1), (0, x2), (0, (if h 2 133 x4 = 0 then x3 else (if x2 ≤ 0 then x3 else x3 - (vup h 2 132 x4 (x1 * h 2 129 x4 / x2)) 2 132 x4))), (0, x4)] [] (if h 2 133 x4 = 0 then h else (if x2 ≤ 0 then h else vup h 2 132 x4 (x1 * h 2 129 x4 / x2))) := by
      refine (rn_if_eq (t := 53) (pc := 18) (dd bX9_giveRest dX9_giveRest_18) rfl).trans ?_
      by_cases c2 : h 2 133 x4 = 0
      · refine (if_pos c2).trans ?_
        refine Eq.trans (b := vrun mX9_giveRest 53 [(1, 127), (0, x1), (0, x2), (0, x3), (0, x4)] [] h) rfl ?_
        simp only [if_pos c2]
      · refine (if_neg c2).trans ?_
        refine (rn_iload_n (pc := 21) (dd bX9_giveRest dX9_giveRest_21) rfl).trans ?_
        have e1 : vrun mX9_giveRest 22 [(1, 127), (0, x1), (0, x2), (0, x3), (0, x4)] [(0, x2)] h = vrun mX9_giveRest 53 [(1, 127), (0, x1), (0, x2), (0, (if x2 ≤ 0 then x3 else x3 - (vup h 2 132 x4 (x1 * h 2 129 x4 / x2)) 2 132 x4)), (0, x4)] [] (if x2 ≤ 0 then h else vup h 2 132 x4 (x1 * h 2 129 x4 / x2)) := by
          refine (rn_if_le (t := 53) (pc := 22) (dd bX9_giveRest dX9_giveRest_22) rfl).trans ?_
          by_cases c3 : x2 ≤ 0
          · refine (if_pos c3).trans ?_
            refine Eq.trans (b := vrun mX9_giveRest 53 [(1, 127), (0, x1), (0, x2), (0, x3), (0, x4)] [] h) rfl ?_
            simp only [if_pos c3]
          · refine (if_neg c3).trans ?_
            refine (rn_aload_n (pc := 25) (dd bX9_giveRest dX9_giveRest_25) rfl).trans ?_
            refine (rg_gf (pc := 26) (dd bX9_giveRest dX9_giveRest_26) (ci := 10) (j := 4) rfl rfl (key := 1104) rfl (kc := 30) rfl s1.1 s1.2.2.2.2.2.2.2.2.2.2.2.2.2.1).trans ?_
            refine (rn_iload (pc := 29) (dd bX9_giveRest dX9_giveRest_29) rfl).trans ?_
            refine (rn_iload_n (pc := 31) (dd bX9_giveRest dX9_giveRest_31) rfl).trans ?_
            refine (rn_aload_n (pc := 32) (dd bX9_giveRest dX9_giveRest_32) rfl).trans ?_
            refine (rg_gf (pc := 33) (dd bX9_giveRest dX9_giveRest_33) (ci := 10) (j := 1) rfl rfl (key := 1101) rfl (kc := 30) rfl s1.1 s1.2.2.2.2.1).trans ?_
            refine (rn_iload (pc := 36) (dd bX9_giveRest dX9_giveRest_36) rfl).trans ?_
            refine (rg_iaload (pc := 38) (dd bX9_giveRest dX9_giveRest_38) s1.2.2.2.2.2.1 s1.2.2.2.2.2.2.1 (by have z0 := p2 c1; omega) (Int.not_le.mp c1) rfl).trans ?_
            refine (rg_imul (pc := 39) (dd bX9_giveRest dX9_giveRest_39) (p3 c1 c2 c3) (p4 c1 c2 c3)).trans ?_
            refine (rn_iload_n (pc := 40) (dd bX9_giveRest dX9_giveRest_40) rfl).trans ?_
            refine (rg_idiv (pc := 41) (dd bX9_giveRest dX9_giveRest_41) (Int.not_le.mp c3) (p5 c1 c2 c3) (by have z0 := p3 c1 c2 c3; have z1 := p4 c1 c2 c3; have z2 := p5 c1 c2 c3; omega)).trans ?_
            refine (rg_iastore (pc := 42) (dd bX9_giveRest dX9_giveRest_42) s1.2.2.2.2.2.2.2.2.2.2.2.2.2.2.1 s1.2.2.2.2.2.2.2.2.2.2.2.2.2.2.2.1 (by have z0 := p2 c1; omega) (Int.not_le.mp c1)).trans ?_
            refine (rn_iload_n (pc := 43) (dd bX9_giveRest dX9_giveRest_43) rfl).trans ?_
            refine (rn_aload_n (pc := 44) (dd bX9_giveRest dX9_giveRest_44) rfl).trans ?_
            refine (rg_gf (pc := 45) (dd bX9_giveRest dX9_giveRest_45) (ci := 10) (j := 4) rfl rfl (key := 1104) rfl (kc := 30) rfl ((vup_k (by decide)).trans s1.1) ((vup_k (by decide)).trans s1.2.2.2.2.2.2.2.2.2.2.2.2.2.1)).trans ?_
            refine (rn_iload (pc := 48) (dd bX9_giveRest dX9_giveRest_48) rfl).trans ?_
            refine (rg_iaload (pc := 50) (dd bX9_giveRest dX9_giveRest_50) ((vup_k (by decide)).trans s1.2.2.2.2.2.2.2.2.2.2.2.2.2.2.1) ((vup_k (by decide)).trans s1.2.2.2.2.2.2.2.2.2.2.2.2.2.2.2.1) (by have z0 := p2 c1; omega) (Int.not_le.mp c1) rfl).trans ?_
            refine (rg_isub (pc := 51) (dd bX9_giveRest dX9_giveRest_51) (p6 c1 c2 c3) (p7 c1 c2 c3)).trans ?_
            refine (rn_istore_n (pc := 52) (dd bX9_giveRest dX9_giveRest_52) (Nat.le_of_ble_eq_true rfl) rfl).trans ?_
            refine Eq.trans (b := vrun mX9_giveRest 53 [(1, 127), (0, x1), (0, x2), (0, x3 - (vup h 2 132 x4 (x1 * h 2 129 x4 / x2)) 2 132 x4), (0, x4)] [] (vup h 2 132 x4 (x1 * h 2 129 x4 / x2))) rfl ?_
            simp only [if_neg c3]
        refine e1.trans ?_
        refine Eq.trans (b := vrun mX9_giveRest 53 [(1, 127), (0, x1), (0, x2), (0, (if x2 ≤ 0 then x3 else x3 - (vup h 2 132 x4 (x1 * h 2 129 x4 / x2)) 2 132 x4)), (0, x4)] [] (if x2 ≤ 0 then h else vup h 2 132 x4 (x1 * h 2 129 x4 / x2))) rfl ?_
        simp only [if_neg c2]
    refine e2.trans ?_
    refine (rg_iinc (pc := 53) (dd bX9_giveRest dX9_giveRest_53) rfl (Nat.le_of_ble_eq_true rfl) (by have z0 := p2 c1; omega) (by have z0 := p2 c1; omega) rfl).trans ?_
    refine (rn_goto (t := 5) (pc := 56) (dd bX9_giveRest dX9_giveRest_56) rfl).trans ?_
    rfl
theorem rX9_giveRest_62 {x1 : Int} {x2 : Int} {x3 : Int} {x4 : Int} {h : vH} (s1 : shStack h) (p2 : ¬ (4 ≤ x4) → 0 ≤ x4) (p3 : ¬ (4 ≤ x4) → ¬ (h 2 133 x4 = 0) → ¬ (x3 ≤ 0) → (-2147483648) ≤ h 2 132 x4 + 1) (p4 : ¬ (4 ≤ x4) → ¬ (h 2 133 x4 = 0) → ¬ (x3 ≤ 0) → h 2 132 x4 + 1 < 2147483648) (p5 : ¬ (4 ≤ x4) → ¬ (h 2 133 x4 = 0) → ¬ (x3 ≤ 0) → x3 + (-1) < 2147483648) : vrun mX9_giveRest 62 [(1, 127), (0, x1), (0, x2), (0, x3), (0, x4)] [] h = if 4 ≤ x4 then some (.inl none, h) else vrun mX9_giveRest 62 [(1, 127), (0, x1), (0, x2), (0, (if h 2 133 x4 = 0 then x3 else (if x3 ≤ 0 then x3 else x3 + (-1)))), (0, x4 + 1)] [] (if h 2 133 x4 = 0 then h else (if x3 ≤ 0 then h else vup h 2 132 x4 (h 2 132 x4 + 1))) := by
  refine (rn_iload (pc := 62) (dd bX9_giveRest dX9_giveRest_62) rfl).trans ?_
  refine (rn_iconst (pc := 64) (dd bX9_giveRest dX9_giveRest_64) (by decide)).trans ?_
  refine (rn_icmp_ge (t := 102) (pc := 65) (dd bX9_giveRest dX9_giveRest_65) rfl).trans (itec (fun c1 => ?_) (fun c1 => ?_))
  · exact rn_return (pc := 102) (dd bX9_giveRest dX9_giveRest_102) rfl
  · refine (rn_aload_n (pc := 68) (dd bX9_giveRest dX9_giveRest_68) rfl).trans ?_
    refine (rg_gf (pc := 69) (dd bX9_giveRest dX9_giveRest_69) (ci := 10) (j := 5) rfl rfl (key := 1105) rfl (kc := 30) rfl s1.1 s1.2.2.2.2.2.2.2.2.2.2.2.2.2.2.2.2.1).trans ?_
    refine (rn_iload (pc := 72) (dd bX9_giveRest dX9_giveRest_72) rfl).trans ?_
    refine (rg_baload (pc := 74) (dd bX9_giveRest dX9_giveRest_74) s1.2.2.2.2.2.2.2.2.2.2.2.2.2.2.2.2.2.1 s1.2.2.2.2.2.2.2.2.2.2.2.2.2.2.2.2.2.2 (p2 c1) (Int.not_le.mp c1) rfl).trans ?_
    have e2 : vrun mX9_giveRest 75 [(1, 127), (0, x1), (0, x2), (0, x3), (0, x4)] [(0, h 2 133 x4)] h = vrun mX9_giveRest 96 [(1, 127), (0, x1), (0, x2), (0, (if h 2 133 x4 = 0 then x3 else (if x3 ≤ 0 then x3 else x3 + (-1)))), (0, x4)] [] (if h 2 133 x4 = 0 then h else (if x3 ≤ 0 then h else vup h 2 132 x4 (h 2 132 x4 + 1))) := by
      refine (rn_if_eq (t := 96) (pc := 75) (dd bX9_giveRest dX9_giveRest_75) rfl).trans ?_
      by_cases c2 : h 2 133 x4 = 0
      · refine (if_pos c2).trans ?_
        refine Eq.trans (b := vrun mX9_giveRest 96 [(1, 127), (0, x1), (0, x2), (0, x3), (0, x4)] [] h) rfl ?_
        simp only [if_pos c2]
      · refine (if_neg c2).trans ?_
        refine (rn_iload_n (pc := 78) (dd bX9_giveRest dX9_giveRest_78) rfl).trans ?_
        have e1 : vrun mX9_giveRest 79 [(1, 127), (0, x1), (0, x2), (0, x3), (0, x4)] [(0, x3)] h = vrun mX9_giveRest 96 [(1, 127), (0, x1), (0, x2), (0, (if x3 ≤ 0 then x3 else x3 + (-1))), (0, x4)] [] (if x3 ≤ 0 then h else vup h 2 132 x4 (h 2 132 x4 + 1)) := by
          refine (rn_if_le (t := 96) (pc := 79) (dd bX9_giveRest dX9_giveRest_79) rfl).trans ?_
          by_cases c3 : x3 ≤ 0
          · refine (if_pos c3).trans ?_
            refine Eq.trans (b := vrun mX9_giveRest 96 [(1, 127), (0, x1), (0, x2), (0, x3), (0, x4)] [] h) rfl ?_
            simp only [if_pos c3]
          · refine (if_neg c3).trans ?_
            refine (rn_aload_n (pc := 82) (dd bX9_giveRest dX9_giveRest_82) rfl).trans ?_
            refine (rg_gf (pc := 83) (dd bX9_giveRest dX9_giveRest_83) (ci := 10) (j := 4) rfl rfl (key := 1104) rfl (kc := 30) rfl s1.1 s1.2.2.2.2.2.2.2.2.2.2.2.2.2.1).trans ?_
            refine (rn_iload (pc := 86) (dd bX9_giveRest dX9_giveRest_86) rfl).trans ?_
            refine (rn_dup2 (pc := 88) (dd bX9_giveRest dX9_giveRest_88) (by decide)).trans ?_
            refine (rg_iaload (pc := 89) (dd bX9_giveRest dX9_giveRest_89) s1.2.2.2.2.2.2.2.2.2.2.2.2.2.2.1 s1.2.2.2.2.2.2.2.2.2.2.2.2.2.2.2.1 (by have z0 := p2 c1; omega) (Int.not_le.mp c1) rfl).trans ?_
            refine (rn_iconst (pc := 90) (dd bX9_giveRest dX9_giveRest_90) (by decide)).trans ?_
            refine (rg_iadd (pc := 91) (dd bX9_giveRest dX9_giveRest_91) (p3 c1 c2 c3) (p4 c1 c2 c3)).trans ?_
            refine (rg_iastore (pc := 92) (dd bX9_giveRest dX9_giveRest_92) s1.2.2.2.2.2.2.2.2.2.2.2.2.2.2.1 s1.2.2.2.2.2.2.2.2.2.2.2.2.2.2.2.1 (by have z0 := p2 c1; omega) (Int.not_le.mp c1)).trans ?_
            refine (rg_iinc (pc := 93) (dd bX9_giveRest dX9_giveRest_93) rfl (Nat.le_of_ble_eq_true rfl) (by omega) (p5 c1 c2 c3) rfl).trans ?_
            refine Eq.trans (b := vrun mX9_giveRest 96 [(1, 127), (0, x1), (0, x2), (0, x3 + (-1)), (0, x4)] [] (vup h 2 132 x4 (h 2 132 x4 + 1))) rfl ?_
            simp only [if_neg c3]
        refine e1.trans ?_
        refine Eq.trans (b := vrun mX9_giveRest 96 [(1, 127), (0, x1), (0, x2), (0, (if x3 ≤ 0 then x3 else x3 + (-1))), (0, x4)] [] (if x3 ≤ 0 then h else vup h 2 132 x4 (h 2 132 x4 + 1))) rfl ?_
        simp only [if_neg c2]
    refine e2.trans ?_
    refine (rg_iinc (pc := 96) (dd bX9_giveRest dX9_giveRest_96) rfl (Nat.le_of_ble_eq_true rfl) (by have z0 := p2 c1; omega) (by have z0 := p2 c1; omega) rfl).trans ?_
    refine (rn_goto (t := 62) (pc := 99) (dd bX9_giveRest dX9_giveRest_99) rfl).trans ?_
    rfl
theorem bX9_firstPoor : vmB mX9_firstPoor = cX9_firstPoor := rfl
theorem rX9_firstPoor_0 {h : vH} : vrun mX9_firstPoor 0 [(1, 127), (9, 0)] [] h = vrun mX9_firstPoor 2 [(1, 127), (0, 0)] [] h := by
  refine (rn_iconst (pc := 0) (dd bX9_firstPoor dX9_firstPoor_0) (by decide)).trans ?_
  refine (rn_istore_n (pc := 1) (dd bX9_firstPoor dX9_firstPoor_1) (Nat.le_of_ble_eq_true rfl) rfl).trans ?_
  rfl
theorem rX9_firstPoor_2 {x1 : Int} {h : vH} (s1 : shStack h) (p2 : ¬ (4 ≤ x1) → 0 ≤ x1) : vrun mX9_firstPoor 2 [(1, 127), (0, x1)] [] h = if 4 ≤ x1 then some (.inl (some (0, (-1))), h) else if h 2 133 x1 = 0 then vrun mX9_firstPoor 2 [(1, 127), (0, x1 + 1)] [] h else if h 2 130 x1 ≤ h 2 132 x1 then vrun mX9_firstPoor 2 [(1, 127), (0, x1 + 1)] [] h else some (.inl (some (0, x1)), h) := by
  refine (rn_iload_n (pc := 2) (dd bX9_firstPoor dX9_firstPoor_2) rfl).trans ?_
  refine (rn_iconst (pc := 3) (dd bX9_firstPoor dX9_firstPoor_3) (by decide)).trans ?_
  refine (rn_icmp_ge (t := 39) (pc := 4) (dd bX9_firstPoor dX9_firstPoor_4) rfl).trans (itec (fun c1 => ?_) (fun c1 => ?_))
  · refine (rn_iconst (pc := 39) (dd bX9_firstPoor dX9_firstPoor_39) (by decide)).trans ?_
    exact rn_ireturn (pc := 40) (dd bX9_firstPoor dX9_firstPoor_40) (Or.inl rfl)
  · refine (rn_aload_n (pc := 7) (dd bX9_firstPoor dX9_firstPoor_7) rfl).trans ?_
    refine (rg_gf (pc := 8) (dd bX9_firstPoor dX9_firstPoor_8) (ci := 10) (j := 5) rfl rfl (key := 1105) rfl (kc := 30) rfl s1.1 s1.2.2.2.2.2.2.2.2.2.2.2.2.2.2.2.2.1).trans ?_
    refine (rn_iload_n (pc := 11) (dd bX9_firstPoor dX9_firstPoor_11) rfl).trans ?_
    refine (rg_baload (pc := 12) (dd bX9_firstPoor dX9_firstPoor_12) s1.2.2.2.2.2.2.2.2.2.2.2.2.2.2.2.2.2.1 s1.2.2.2.2.2.2.2.2.2.2.2.2.2.2.2.2.2.2 (p2 c1) (Int.not_le.mp c1) rfl).trans ?_
    refine (rn_if_eq (t := 33) (pc := 13) (dd bX9_firstPoor dX9_firstPoor_13) rfl).trans (itec (fun c2 => ?_) (fun c2 => ?_))
    · refine (rg_iinc (pc := 33) (dd bX9_firstPoor dX9_firstPoor_33) rfl (Nat.le_of_ble_eq_true rfl) (by have z0 := p2 c1; omega) (by have z0 := p2 c1; omega) rfl).trans ?_
      refine (rn_goto (t := 2) (pc := 36) (dd bX9_firstPoor dX9_firstPoor_36) rfl).trans ?_
      rfl
    · refine (rn_aload_n (pc := 16) (dd bX9_firstPoor dX9_firstPoor_16) rfl).trans ?_
      refine (rg_gf (pc := 17) (dd bX9_firstPoor dX9_firstPoor_17) (ci := 10) (j := 4) rfl rfl (key := 1104) rfl (kc := 30) rfl s1.1 s1.2.2.2.2.2.2.2.2.2.2.2.2.2.1).trans ?_
      refine (rn_iload_n (pc := 20) (dd bX9_firstPoor dX9_firstPoor_20) rfl).trans ?_
      refine (rg_iaload (pc := 21) (dd bX9_firstPoor dX9_firstPoor_21) s1.2.2.2.2.2.2.2.2.2.2.2.2.2.2.1 s1.2.2.2.2.2.2.2.2.2.2.2.2.2.2.2.1 (by have z0 := p2 c1; omega) (Int.not_le.mp c1) rfl).trans ?_
      refine (rn_aload_n (pc := 22) (dd bX9_firstPoor dX9_firstPoor_22) rfl).trans ?_
      refine (rg_gf (pc := 23) (dd bX9_firstPoor dX9_firstPoor_23) (ci := 10) (j := 2) rfl rfl (key := 1102) rfl (kc := 30) rfl s1.1 s1.2.2.2.2.2.2.2.1).trans ?_
      refine (rn_iload_n (pc := 26) (dd bX9_firstPoor dX9_firstPoor_26) rfl).trans ?_
      refine (rg_iaload (pc := 27) (dd bX9_firstPoor dX9_firstPoor_27) s1.2.2.2.2.2.2.2.2.1 s1.2.2.2.2.2.2.2.2.2.1 (by have z0 := p2 c1; omega) (Int.not_le.mp c1) rfl).trans ?_
      refine (rn_icmp_ge (t := 33) (pc := 28) (dd bX9_firstPoor dX9_firstPoor_28) rfl).trans (itec (fun c3 => ?_) (fun c3 => ?_))
      · refine (rg_iinc (pc := 33) (dd bX9_firstPoor dX9_firstPoor_33) rfl (Nat.le_of_ble_eq_true rfl) (by have z0 := p2 c1; omega) (by have z0 := p2 c1; omega) rfl).trans ?_
        refine (rn_goto (t := 2) (pc := 36) (dd bX9_firstPoor dX9_firstPoor_36) rfl).trans ?_
        rfl
      · refine (rn_iload_n (pc := 31) (dd bX9_firstPoor dX9_firstPoor_31) rfl).trans ?_
        exact rn_ireturn (pc := 32) (dd bX9_firstPoor dX9_firstPoor_32) (Or.inl rfl)
theorem bX9_richest : vmB mX9_richest = cX9_richest := rfl
theorem rX9_richest_0 {h : vH} : vrun mX9_richest 0 [(1, 127), (9, 0), (9, 0), (9, 0)] [] h = vrun mX9_richest 6 [(1, 127), (0, (-1)), (0, 0), (0, 0)] [] h := by
  refine (rn_iconst (pc := 0) (dd bX9_richest dX9_richest_0) (by decide)).trans ?_
  refine (rn_istore_n (pc := 1) (dd bX9_richest dX9_richest_1) (Nat.le_of_ble_eq_true rfl) rfl).trans ?_
  refine (rn_iconst (pc := 2) (dd bX9_richest dX9_richest_2) (by decide)).trans ?_
  refine (rn_istore_n (pc := 3) (dd bX9_richest dX9_richest_3) (Nat.le_of_ble_eq_true rfl) rfl).trans ?_
  refine (rn_iconst (pc := 4) (dd bX9_richest dX9_richest_4) (by decide)).trans ?_
  refine (rn_istore_n (pc := 5) (dd bX9_richest dX9_richest_5) (Nat.le_of_ble_eq_true rfl) rfl).trans ?_
  rfl
theorem rX9_richest_6 {x1 : Int} {x2 : Int} {x3 : Int} {h : vH} (s1 : shStack h) (p2 : ¬ (4 ≤ x3) → 0 ≤ x3) (p3 : ¬ (4 ≤ x3) → ¬ (h 2 133 x3 = 0) → (-2147483648) ≤ h 2 132 x3 - h 2 130 x3) (p4 : ¬ (4 ≤ x3) → ¬ (h 2 133 x3 = 0) → h 2 132 x3 - h 2 130 x3 < 2147483648) : vrun mX9_richest 6 [(1, 127), (0, x1), (0, x2), (0, x3)] [] h = if 4 ≤ x3 then some (.inl (some (0, x1)), h) else vrun mX9_richest 6 [(1, 127), (0, (if h 2 133 x3 = 0 then x1 else (if h 2 132 x3 - h 2 130 x3 ≤ x2 then x1 else x3))), (0, (if h 2 133 x3 = 0 then x2 else (if h 2 132 x3 - h 2 130 x3 ≤ x2 then x2 else h 2 132 x3 - h 2 130 x3))), (0, x3 + 1)] [] h := by
  refine (rn_iload_n (pc := 6) (dd bX9_richest dX9_richest_6) rfl).trans ?_
  refine (rn_iconst (pc := 7) (dd bX9_richest dX9_richest_7) (by decide)).trans ?_
  refine (rn_icmp_ge (t := 59) (pc := 8) (dd bX9_richest dX9_richest_8) rfl).trans (itec (fun c1 => ?_) (fun c1 => ?_))
  · refine (rn_iload_n (pc := 59) (dd bX9_richest dX9_richest_59) rfl).trans ?_
    exact rn_ireturn (pc := 60) (dd bX9_richest dX9_richest_60) (Or.inl rfl)
  · refine (rn_aload_n (pc := 11) (dd bX9_richest dX9_richest_11) rfl).trans ?_
    refine (rg_gf (pc := 12) (dd bX9_richest dX9_richest_12) (ci := 10) (j := 5) rfl rfl (key := 1105) rfl (kc := 30) rfl s1.1 s1.2.2.2.2.2.2.2.2.2.2.2.2.2.2.2.2.1).trans ?_
    refine (rn_iload_n (pc := 15) (dd bX9_richest dX9_richest_15) rfl).trans ?_
    refine (rg_baload (pc := 16) (dd bX9_richest dX9_richest_16) s1.2.2.2.2.2.2.2.2.2.2.2.2.2.2.2.2.2.1 s1.2.2.2.2.2.2.2.2.2.2.2.2.2.2.2.2.2.2 (p2 c1) (Int.not_le.mp c1) rfl).trans ?_
    have e2 : vrun mX9_richest 17 [(1, 127), (0, x1), (0, x2), (0, x3)] [(0, h 2 133 x3)] h = vrun mX9_richest 53 [(1, 127), (0, (if h 2 133 x3 = 0 then x1 else (if h 2 132 x3 - h 2 130 x3 ≤ x2 then x1 else x3))), (0, (if h 2 133 x3 = 0 then x2 else (if h 2 132 x3 - h 2 130 x3 ≤ x2 then x2 else h 2 132 x3 - h 2 130 x3))), (0, x3)] [] h := by
      refine (rn_if_eq (t := 53) (pc := 17) (dd bX9_richest dX9_richest_17) rfl).trans ?_
      by_cases c2 : h 2 133 x3 = 0
      · refine (if_pos c2).trans ?_
        refine Eq.trans (b := vrun mX9_richest 53 [(1, 127), (0, x1), (0, x2), (0, x3)] [] h) rfl ?_
        simp only [if_pos c2]
      · refine (if_neg c2).trans ?_
        refine (rn_aload_n (pc := 20) (dd bX9_richest dX9_richest_20) rfl).trans ?_
        refine (rg_gf (pc := 21) (dd bX9_richest dX9_richest_21) (ci := 10) (j := 4) rfl rfl (key := 1104) rfl (kc := 30) rfl s1.1 s1.2.2.2.2.2.2.2.2.2.2.2.2.2.1).trans ?_
        refine (rn_iload_n (pc := 24) (dd bX9_richest dX9_richest_24) rfl).trans ?_
        refine (rg_iaload (pc := 25) (dd bX9_richest dX9_richest_25) s1.2.2.2.2.2.2.2.2.2.2.2.2.2.2.1 s1.2.2.2.2.2.2.2.2.2.2.2.2.2.2.2.1 (by have z0 := p2 c1; omega) (Int.not_le.mp c1) rfl).trans ?_
        refine (rn_aload_n (pc := 26) (dd bX9_richest dX9_richest_26) rfl).trans ?_
        refine (rg_gf (pc := 27) (dd bX9_richest dX9_richest_27) (ci := 10) (j := 2) rfl rfl (key := 1102) rfl (kc := 30) rfl s1.1 s1.2.2.2.2.2.2.2.1).trans ?_
        refine (rn_iload_n (pc := 30) (dd bX9_richest dX9_richest_30) rfl).trans ?_
        refine (rg_iaload (pc := 31) (dd bX9_richest dX9_richest_31) s1.2.2.2.2.2.2.2.2.1 s1.2.2.2.2.2.2.2.2.2.1 (by have z0 := p2 c1; omega) (Int.not_le.mp c1) rfl).trans ?_
        refine (rg_isub (pc := 32) (dd bX9_richest dX9_richest_32) (p3 c1 c2) (p4 c1 c2)).trans ?_
        refine (rn_iload_n (pc := 33) (dd bX9_richest dX9_richest_33) rfl).trans ?_
        have e1 : vrun mX9_richest 34 [(1, 127), (0, x1), (0, x2), (0, x3)] [(0, x2), (0, h 2 132 x3 - h 2 130 x3)] h = vrun mX9_richest 53 [(1, 127), (0, (if h 2 132 x3 - h 2 130 x3 ≤ x2 then x1 else x3)), (0, (if h 2 132 x3 - h 2 130 x3 ≤ x2 then x2 else h 2 132 x3 - h 2 130 x3)), (0, x3)] [] h := by
          refine (rn_icmp_le (t := 53) (pc := 34) (dd bX9_richest dX9_richest_34) rfl).trans ?_
          by_cases c3 : h 2 132 x3 - h 2 130 x3 ≤ x2
          · refine (if_pos c3).trans ?_
            refine Eq.trans (b := vrun mX9_richest 53 [(1, 127), (0, x1), (0, x2), (0, x3)] [] h) rfl ?_
            simp only [if_pos c3]
          · refine (if_neg c3).trans ?_
            refine (rn_aload_n (pc := 37) (dd bX9_richest dX9_richest_37) rfl).trans ?_
            refine (rg_gf (pc := 38) (dd bX9_richest dX9_richest_38) (ci := 10) (j := 4) rfl rfl (key := 1104) rfl (kc := 30) rfl s1.1 s1.2.2.2.2.2.2.2.2.2.2.2.2.2.1).trans ?_
            refine (rn_iload_n (pc := 41) (dd bX9_richest dX9_richest_41) rfl).trans ?_
            refine (rg_iaload (pc := 42) (dd bX9_richest dX9_richest_42) s1.2.2.2.2.2.2.2.2.2.2.2.2.2.2.1 s1.2.2.2.2.2.2.2.2.2.2.2.2.2.2.2.1 (by have z0 := p2 c1; omega) (Int.not_le.mp c1) rfl).trans ?_
            refine (rn_aload_n (pc := 43) (dd bX9_richest dX9_richest_43) rfl).trans ?_
            refine (rg_gf (pc := 44) (dd bX9_richest dX9_richest_44) (ci := 10) (j := 2) rfl rfl (key := 1102) rfl (kc := 30) rfl s1.1 s1.2.2.2.2.2.2.2.1).trans ?_
            refine (rn_iload_n (pc := 47) (dd bX9_richest dX9_richest_47) rfl).trans ?_
            refine (rg_iaload (pc := 48) (dd bX9_richest dX9_richest_48) s1.2.2.2.2.2.2.2.2.1 s1.2.2.2.2.2.2.2.2.2.1 (by have z0 := p2 c1; omega) (Int.not_le.mp c1) rfl).trans ?_
            refine (rg_isub (pc := 49) (dd bX9_richest dX9_richest_49) (by have z0 := p3 c1 c2; have z1 := p4 c1 c2; omega) (by have z0 := p3 c1 c2; have z1 := p4 c1 c2; omega)).trans ?_
            refine (rn_istore_n (pc := 50) (dd bX9_richest dX9_richest_50) (Nat.le_of_ble_eq_true rfl) rfl).trans ?_
            refine (rn_iload_n (pc := 51) (dd bX9_richest dX9_richest_51) rfl).trans ?_
            refine (rn_istore_n (pc := 52) (dd bX9_richest dX9_richest_52) (Nat.le_of_ble_eq_true rfl) rfl).trans ?_
            refine Eq.trans (b := vrun mX9_richest 53 [(1, 127), (0, x3), (0, h 2 132 x3 - h 2 130 x3), (0, x3)] [] h) rfl ?_
            simp only [if_neg c3]
        refine e1.trans ?_
        refine Eq.trans (b := vrun mX9_richest 53 [(1, 127), (0, (if h 2 132 x3 - h 2 130 x3 ≤ x2 then x1 else x3)), (0, (if h 2 132 x3 - h 2 130 x3 ≤ x2 then x2 else h 2 132 x3 - h 2 130 x3)), (0, x3)] [] h) rfl ?_
        simp only [if_neg c2]
    refine e2.trans ?_
    refine (rg_iinc (pc := 53) (dd bX9_richest dX9_richest_53) rfl (Nat.le_of_ble_eq_true rfl) (by have z0 := p2 c1; omega) (by have z0 := p2 c1; omega) rfl).trans ?_
    refine (rn_goto (t := 6) (pc := 56) (dd bX9_richest dX9_richest_56) rfl).trans ?_
    rfl
theorem bX9_deal : vmB mX9_deal = cX9_deal := rfl
theorem rX9_deal_0 {h : vH} (s1 : shStack h) : vrun mX9_deal 0 [(1, 127), (9, 0), (9, 0), (9, 0), (9, 0), (9, 0)] [] h = vret vrun mX9_deal 1 [(1, 127), (9, 0), (9, 0), (9, 0), (9, 0), (9, 0)] [] (vcl mX9_findSharing [(1, 127)] h) := by
  refine (rn_aload_n (pc := 0) (dd bX9_deal dX9_deal_0) rfl).trans ?_
  exact rg_virtual (pc := 1) (dd bX9_deal dX9_deal_1) rfl rfl (by decide) (kc := 30) rfl s1.1 (as := [(1, 127)]) rfl ⟨Nat.le_of_ble_eq_true rfl, Nat.le_of_ble_eq_true rfl, Nat.le_of_ble_eq_true rfl, Nat.le_of_ble_eq_true rfl⟩
theorem rX9_deal_4 {h : vH} : vrun mX9_deal 4 [(1, 127), (9, 0), (9, 0), (9, 0), (9, 0), (9, 0)] [] h = vrun mX9_deal 11 [(1, 127), (0, 24), (0, 0), (0, 0), (9, 0), (9, 0)] [] h := by
  refine (rn_bipush (pc := 4) (dd bX9_deal dX9_deal_4) (by decide)).trans ?_
  refine (rn_istore_n (pc := 6) (dd bX9_deal dX9_deal_6) (Nat.le_of_ble_eq_true rfl) rfl).trans ?_
  refine (rn_iconst (pc := 7) (dd bX9_deal dX9_deal_7) (by decide)).trans ?_
  refine (rn_istore_n (pc := 8) (dd bX9_deal dX9_deal_8) (Nat.le_of_ble_eq_true rfl) rfl).trans ?_
  refine (rn_iconst (pc := 9) (dd bX9_deal dX9_deal_9) (by decide)).trans ?_
  refine (rn_istore_n (pc := 10) (dd bX9_deal dX9_deal_10) (Nat.le_of_ble_eq_true rfl) rfl).trans ?_
  rfl
theorem rX9_deal_11 {x1 : Int} {x2 : Int} {x3 : Int} {h : vH} (s1 : shStack h) (p2 : ¬ (4 ≤ x3) → 0 ≤ x3) (p3 : ¬ (4 ≤ x3) → (-2147483648) ≤ x1 - (vup h 2 132 x3 (if h 2 128 x3 = 0 then 0 else (if h 2 133 x3 = 0 then h 2 131 x3 else 0))) 2 132 x3) (p4 : ¬ (4 ≤ x3) → x1 - (vup h 2 132 x3 (if h 2 128 x3 = 0 then 0 else (if h 2 133 x3 = 0 then h 2 131 x3 else 0))) 2 132 x3 < 2147483648) (p5 : ¬ (4 ≤ x3) → (-2147483648) ≤ x2 + (if h 2 133 x3 = 0 then 0 else h 2 129 x3)) (p6 : ¬ (4 ≤ x3) → x2 + (if h 2 133 x3 = 0 then 0 else h 2 129 x3) < 2147483648) : vrun mX9_deal 11 [(1, 127), (0, x1), (0, x2), (0, x3), (9, 0), (9, 0)] [] h = if 4 ≤ x3 then vret vrun mX9_deal 94 [(1, 127), (0, x1), (0, x2), (0, x3), (9, 0), (9, 0)] [] (vcl mX9_giveRest [(1, 127), (0, max 0 x1), (0, x2)] h) else vrun mX9_deal 11 [(1, 127), (0, x1 - (vup h 2 132 x3 (if h 2 128 x3 = 0 then 0 else (if h 2 133 x3 = 0 then h 2 131 x3 else 0))) 2 132 x3), (0, x2 + (if h 2 133 x3 = 0 then 0 else h 2 129 x3)), (0, x3 + 1), (9, 0), (9, 0)] [] (vup h 2 132 x3 (if h 2 128 x3 = 0 then 0 else (if h 2 133 x3 = 0 then h 2 131 x3 else 0))) := by
  refine (rn_iload_n (pc := 11) (dd bX9_deal dX9_deal_11) rfl).trans ?_
  refine (rn_iconst (pc := 12) (dd bX9_deal dX9_deal_12) (by decide)).trans ?_
  refine (rn_icmp_ge (t := 87) (pc := 13) (dd bX9_deal dX9_deal_13) rfl).trans (itec (fun c1 => ?_) (fun c1 => ?_))
  · refine (rn_aload_n (pc := 87) (dd bX9_deal dX9_deal_87) rfl).trans ?_
    refine (rn_iconst (pc := 88) (dd bX9_deal dX9_deal_88) (by decide)).trans ?_
    refine (rn_iload_n (pc := 89) (dd bX9_deal dX9_deal_89) rfl).trans ?_
    refine (rg_max (pc := 90) (dd bX9_deal dX9_deal_90) rfl ⟨Nat.le_of_ble_eq_true rfl, Nat.le_of_ble_eq_true rfl, Nat.le_of_ble_eq_true rfl⟩).trans ?_
    refine (rn_iload_n (pc := 93) (dd bX9_deal dX9_deal_93) rfl).trans ?_
    exact rg_virtual (pc := 94) (dd bX9_deal dX9_deal_94) rfl rfl (by decide) (kc := 30) rfl s1.1 (as := [(1, 127), (0, max 0 x1), (0, x2)]) rfl ⟨Nat.le_of_ble_eq_true rfl, Nat.le_of_ble_eq_true rfl, Nat.le_of_ble_eq_true rfl, Nat.le_of_ble_eq_true rfl⟩
  · refine (rn_aload_n (pc := 16) (dd bX9_deal dX9_deal_16) rfl).trans ?_
    refine (rg_gf (pc := 17) (dd bX9_deal dX9_deal_17) (ci := 10) (j := 4) rfl rfl (key := 1104) rfl (kc := 30) rfl s1.1 s1.2.2.2.2.2.2.2.2.2.2.2.2.2.1).trans ?_
    refine (rn_iload_n (pc := 20) (dd bX9_deal dX9_deal_20) rfl).trans ?_
    refine (rn_aload_n (pc := 21) (dd bX9_deal dX9_deal_21) rfl).trans ?_
    refine (rg_gf (pc := 22) (dd bX9_deal dX9_deal_22) (ci := 10) (j := 0) rfl rfl (key := 1100) rfl (kc := 30) rfl s1.1 s1.2.1).trans ?_
    refine (rn_iload_n (pc := 25) (dd bX9_deal dX9_deal_25) rfl).trans ?_
    refine (rg_baload (pc := 26) (dd bX9_deal dX9_deal_26) s1.2.2.1 s1.2.2.2.1 (p2 c1) (Int.not_le.mp c1) rfl).trans ?_
    have e2 : vrun mX9_deal 27 [(1, 127), (0, x1), (0, x2), (0, x3), (9, 0), (9, 0)] [(0, h 2 128 x3), (0, x3), (1, 132)] h = vrun mX9_deal 49 [(1, 127), (0, x1), (0, x2), (0, x3), (9, 0), (9, 0)] [(0, (if h 2 128 x3 = 0 then 0 else (if h 2 133 x3 = 0 then h 2 131 x3 else 0))), (0, x3), (1, 132)] h := by
      refine (rn_if_eq (t := 48) (pc := 27) (dd bX9_deal dX9_deal_27) rfl).trans ?_
      by_cases c2 : h 2 128 x3 = 0
      · refine (if_pos c2).trans ?_
        refine (rn_iconst (pc := 48) (dd bX9_deal dX9_deal_48) (by decide)).trans ?_
        refine Eq.trans (b := vrun mX9_deal 49 [(1, 127), (0, x1), (0, x2), (0, x3), (9, 0), (9, 0)] [(0, 0), (0, x3), (1, 132)] h) rfl ?_
        simp only [if_pos c2]
      · refine (if_neg c2).trans ?_
        refine (rn_aload_n (pc := 30) (dd bX9_deal dX9_deal_30) rfl).trans ?_
        refine (rg_gf (pc := 31) (dd bX9_deal dX9_deal_31) (ci := 10) (j := 5) rfl rfl (key := 1105) rfl (kc := 30) rfl s1.1 s1.2.2.2.2.2.2.2.2.2.2.2.2.2.2.2.2.1).trans ?_
        refine (rn_iload_n (pc := 34) (dd bX9_deal dX9_deal_34) rfl).trans ?_
        refine (rg_baload (pc := 35) (dd bX9_deal dX9_deal_35) s1.2.2.2.2.2.2.2.2.2.2.2.2.2.2.2.2.2.1 s1.2.2.2.2.2.2.2.2.2.2.2.2.2.2.2.2.2.2 (by have z0 := p2 c1; omega) (Int.not_le.mp c1) rfl).trans ?_
        have e1 : vrun mX9_deal 36 [(1, 127), (0, x1), (0, x2), (0, x3), (9, 0), (9, 0)] [(0, h 2 133 x3), (0, x3), (1, 132)] h = vrun mX9_deal 49 [(1, 127), (0, x1), (0, x2), (0, x3), (9, 0), (9, 0)] [(0, (if h 2 133 x3 = 0 then h 2 131 x3 else 0)), (0, x3), (1, 132)] h := by
          refine (rg_if_ne (t := 48) (pc := 36) (dd bX9_deal dX9_deal_36) rfl).trans ?_
          by_cases c3 : h 2 133 x3 = 0
          · refine (if_pos c3).trans ?_
            refine (rn_aload_n (pc := 39) (dd bX9_deal dX9_deal_39) rfl).trans ?_
            refine (rg_gf (pc := 40) (dd bX9_deal dX9_deal_40) (ci := 10) (j := 3) rfl rfl (key := 1103) rfl (kc := 30) rfl s1.1 s1.2.2.2.2.2.2.2.2.2.2.1).trans ?_
            refine (rn_iload_n (pc := 43) (dd bX9_deal dX9_deal_43) rfl).trans ?_
            refine (rg_iaload (pc := 44) (dd bX9_deal dX9_deal_44) s1.2.2.2.2.2.2.2.2.2.2.2.1 s1.2.2.2.2.2.2.2.2.2.2.2.2.1 (by have z0 := p2 c1; omega) (Int.not_le.mp c1) rfl).trans ?_
            refine (rn_goto (t := 49) (pc := 45) (dd bX9_deal dX9_deal_45) rfl).trans ?_
            refine Eq.trans (b := vrun mX9_deal 49 [(1, 127), (0, x1), (0, x2), (0, x3), (9, 0), (9, 0)] [(0, h 2 131 x3), (0, x3), (1, 132)] h) rfl ?_
            simp only [if_pos c3]
          · refine (if_neg c3).trans ?_
            refine (rn_iconst (pc := 48) (dd bX9_deal dX9_deal_48) (by decide)).trans ?_
            refine Eq.trans (b := vrun mX9_deal 49 [(1, 127), (0, x1), (0, x2), (0, x3), (9, 0), (9, 0)] [(0, 0), (0, x3), (1, 132)] h) rfl ?_
            simp only [if_neg c3]
        refine e1.trans ?_
        refine Eq.trans (b := vrun mX9_deal 49 [(1, 127), (0, x1), (0, x2), (0, x3), (9, 0), (9, 0)] [(0, (if h 2 133 x3 = 0 then h 2 131 x3 else 0)), (0, x3), (1, 132)] h) rfl ?_
        simp only [if_neg c2]
    refine e2.trans ?_
    refine (rg_iastore (pc := 49) (dd bX9_deal dX9_deal_49) s1.2.2.2.2.2.2.2.2.2.2.2.2.2.2.1 s1.2.2.2.2.2.2.2.2.2.2.2.2.2.2.2.1 (by have z0 := p2 c1; omega) (Int.not_le.mp c1)).trans ?_
    refine (rn_iload_n (pc := 50) (dd bX9_deal dX9_deal_50) rfl).trans ?_
    refine (rn_aload_n (pc := 51) (dd bX9_deal dX9_deal_51) rfl).trans ?_
    refine (rg_gf (pc := 52) (dd bX9_deal dX9_deal_52) (ci := 10) (j := 4) rfl rfl (key := 1104) rfl (kc := 30) rfl ((vup_k (by decide)).trans s1.1) ((vup_k (by decide)).trans s1.2.2.2.2.2.2.2.2.2.2.2.2.2.1)).trans ?_
    refine (rn_iload_n (pc := 55) (dd bX9_deal dX9_deal_55) rfl).trans ?_
    refine (rg_iaload (pc := 56) (dd bX9_deal dX9_deal_56) ((vup_k (by decide)).trans s1.2.2.2.2.2.2.2.2.2.2.2.2.2.2.1) ((vup_k (by decide)).trans s1.2.2.2.2.2.2.2.2.2.2.2.2.2.2.2.1) (by have z0 := p2 c1; omega) (Int.not_le.mp c1) rfl).trans ?_
    refine (rg_isub (pc := 57) (dd bX9_deal dX9_deal_57) (p3 c1) (p4 c1)).trans ?_
    refine (rn_istore_n (pc := 58) (dd bX9_deal dX9_deal_58) (Nat.le_of_ble_eq_true rfl) rfl).trans ?_
    refine (rn_iload_n (pc := 59) (dd bX9_deal dX9_deal_59) rfl).trans ?_
    refine (rn_aload_n (pc := 60) (dd bX9_deal dX9_deal_60) rfl).trans ?_
    refine (rg_gf (pc := 61) (dd bX9_deal dX9_deal_61) (ci := 10) (j := 5) rfl rfl (key := 1105) rfl (kc := 30) rfl ((vup_k (by decide)).trans s1.1) ((vup_k (by decide)).trans s1.2.2.2.2.2.2.2.2.2.2.2.2.2.2.2.2.1)).trans ?_
    refine (rn_iload_n (pc := 64) (dd bX9_deal dX9_deal_64) rfl).trans ?_
    refine (rg_baload (pc := 65) (dd bX9_deal dX9_deal_65) ((vup_k (by decide)).trans s1.2.2.2.2.2.2.2.2.2.2.2.2.2.2.2.2.2.1) ((vup_k (by decide)).trans s1.2.2.2.2.2.2.2.2.2.2.2.2.2.2.2.2.2.2) (by have z0 := p2 c1; omega) (Int.not_le.mp c1) ((vup_r (by omega)).trans rfl)).trans ?_
    have e3 : vrun mX9_deal 66 [(1, 127), (0, x1 - (vup h 2 132 x3 (if h 2 128 x3 = 0 then 0 else (if h 2 133 x3 = 0 then h 2 131 x3 else 0))) 2 132 x3), (0, x2), (0, x3), (9, 0), (9, 0)] [(0, h 2 133 x3), (0, x2)] (vup h 2 132 x3 (if h 2 128 x3 = 0 then 0 else (if h 2 133 x3 = 0 then h 2 131 x3 else 0))) = vrun mX9_deal 79 [(1, 127), (0, x1 - (vup h 2 132 x3 (if h 2 128 x3 = 0 then 0 else (if h 2 133 x3 = 0 then h 2 131 x3 else 0))) 2 132 x3), (0, x2), (0, x3), (9, 0), (9, 0)] [(0, (if h 2 133 x3 = 0 then 0 else h 2 129 x3)), (0, x2)] (vup h 2 132 x3 (if h 2 128 x3 = 0 then 0 else (if h 2 133 x3 = 0 then h 2 131 x3 else 0))) := by
      refine (rn_if_eq (t := 78) (pc := 66) (dd bX9_deal dX9_deal_66) rfl).trans ?_
      by_cases c4 : h 2 133 x3 = 0
      · refine (if_pos c4).trans ?_
        refine (rn_iconst (pc := 78) (dd bX9_deal dX9_deal_78) (by decide)).trans ?_
        refine Eq.trans (b := vrun mX9_deal 79 [(1, 127), (0, x1 - (vup h 2 132 x3 (if h 2 128 x3 = 0 then 0 else (if h 2 133 x3 = 0 then h 2 131 x3 else 0))) 2 132 x3), (0, x2), (0, x3), (9, 0), (9, 0)] [(0, 0), (0, x2)] (vup h 2 132 x3 (if h 2 128 x3 = 0 then 0 else (if h 2 133 x3 = 0 then h 2 131 x3 else 0)))) rfl ?_
        simp only [if_pos c4]
      · refine (if_neg c4).trans ?_
        refine (rn_aload_n (pc := 69) (dd bX9_deal dX9_deal_69) rfl).trans ?_
        refine (rg_gf (pc := 70) (dd bX9_deal dX9_deal_70) (ci := 10) (j := 1) rfl rfl (key := 1101) rfl (kc := 30) rfl ((vup_k (by decide)).trans s1.1) ((vup_k (by decide)).trans s1.2.2.2.2.1)).trans ?_
        refine (rn_iload_n (pc := 73) (dd bX9_deal dX9_deal_73) rfl).trans ?_
        refine (rg_iaload (pc := 74) (dd bX9_deal dX9_deal_74) ((vup_k (by decide)).trans s1.2.2.2.2.2.1) ((vup_k (by decide)).trans s1.2.2.2.2.2.2.1) (by have z0 := p2 c1; omega) (Int.not_le.mp c1) ((vup_r (by omega)).trans rfl)).trans ?_
        refine (rn_goto (t := 79) (pc := 75) (dd bX9_deal dX9_deal_75) rfl).trans ?_
        refine Eq.trans (b := vrun mX9_deal 79 [(1, 127), (0, x1 - (vup h 2 132 x3 (if h 2 128 x3 = 0 then 0 else (if h 2 133 x3 = 0 then h 2 131 x3 else 0))) 2 132 x3), (0, x2), (0, x3), (9, 0), (9, 0)] [(0, h 2 129 x3), (0, x2)] (vup h 2 132 x3 (if h 2 128 x3 = 0 then 0 else (if h 2 133 x3 = 0 then h 2 131 x3 else 0)))) rfl ?_
        simp only [if_neg c4]
    refine e3.trans ?_
    refine (rg_iadd (pc := 79) (dd bX9_deal dX9_deal_79) (p5 c1) (p6 c1)).trans ?_
    refine (rn_istore_n (pc := 80) (dd bX9_deal dX9_deal_80) (Nat.le_of_ble_eq_true rfl) rfl).trans ?_
    refine (rg_iinc (pc := 81) (dd bX9_deal dX9_deal_81) rfl (Nat.le_of_ble_eq_true rfl) (by have z0 := p2 c1; omega) (by have z0 := p2 c1; omega) rfl).trans ?_
    refine (rn_goto (t := 11) (pc := 84) (dd bX9_deal dX9_deal_84) rfl).trans ?_
    rfl
theorem rX9_deal_97 {x1 : Int} {x2 : Int} {x3 : Int} {h : vH} : vrun mX9_deal 97 [(1, 127), (0, x1), (0, x2), (0, x3), (9, 0), (9, 0)] [] h = vrun mX9_deal 99 [(1, 127), (0, x1), (0, x2), (0, 0), (9, 0), (9, 0)] [] h := by
  refine (rn_iconst (pc := 97) (dd bX9_deal dX9_deal_97) (by decide)).trans ?_
  refine (rn_istore_n (pc := 98) (dd bX9_deal dX9_deal_98) (Nat.le_of_ble_eq_true rfl) rfl).trans ?_
  rfl
theorem rX9_deal_99 {x1 : Int} {x2 : Int} {x3 : Int} {v4 : vv} {v5 : vv} {h : vH} (s1 : shStack h) : vrun mX9_deal 99 [(1, 127), (0, x1), (0, x2), (0, x3), v4, v5] [] h = if 24 ≤ x3 then some (.inl none, h) else vret vrun mX9_deal 106 [(1, 127), (0, x1), (0, x2), (0, x3), v4, v5] [] (vcl mX9_firstPoor [(1, 127)] h) := by
  refine (rn_iload_n (pc := 99) (dd bX9_deal dX9_deal_99) rfl).trans ?_
  refine (rn_bipush (pc := 100) (dd bX9_deal dX9_deal_100) (by decide)).trans ?_
  refine (rn_icmp_ge (t := 164) (pc := 102) (dd bX9_deal dX9_deal_102) rfl).trans (itec (fun c1 => ?_) (fun c1 => ?_))
  · exact rn_return (pc := 164) (dd bX9_deal dX9_deal_164) rfl
  · refine (rn_aload_n (pc := 105) (dd bX9_deal dX9_deal_105) rfl).trans ?_
    exact rg_virtual (pc := 106) (dd bX9_deal dX9_deal_106) rfl rfl (by decide) (kc := 30) rfl s1.1 (as := [(1, 127)]) rfl ⟨Nat.le_of_ble_eq_true rfl, Nat.le_of_ble_eq_true rfl, Nat.le_of_ble_eq_true rfl, Nat.le_of_ble_eq_true rfl⟩
theorem rX9_deal_109 {x1 : Int} {x2 : Int} {x3 : Int} {v4 : vv} {v5 : vv} {y0 : Int} {h : vH} (s1 : shStack h) : vrun mX9_deal 109 [(1, 127), (0, x1), (0, x2), (0, x3), v4, v5] [(0, y0)] h = vret vrun mX9_deal 112 [(1, 127), (0, x1), (0, x2), (0, x3), (0, y0), v5] [] (vcl mX9_richest [(1, 127)] h) := by
  refine (rn_istore (pc := 109) (dd bX9_deal dX9_deal_109) (Nat.le_of_ble_eq_true rfl) rfl).trans ?_
  refine (rn_aload_n (pc := 111) (dd bX9_deal dX9_deal_111) rfl).trans ?_
  exact rg_virtual (pc := 112) (dd bX9_deal dX9_deal_112) rfl rfl (by decide) (kc := 30) rfl s1.1 (as := [(1, 127)]) rfl ⟨Nat.le_of_ble_eq_true rfl, Nat.le_of_ble_eq_true rfl, Nat.le_of_ble_eq_true rfl, Nat.le_of_ble_eq_true rfl⟩
theorem rX9_deal_115 {x1 : Int} {x2 : Int} {x3 : Int} {x4 : Int} {v5 : vv} {y0 : Int} {h : vH} (s1 : shStack h) (p2 : ¬ (x4 < 0) ∧ ¬ (4 ≤ x4) → ¬ (y0 < 0) ∧ ¬ (4 ≤ y0) → 0 ≤ x4) (p3 : ¬ (x4 < 0) ∧ ¬ (4 ≤ x4) → ¬ (y0 < 0) ∧ ¬ (4 ≤ y0) → x4 < 4) (p4 : ¬ (x4 < 0) ∧ ¬ (4 ≤ x4) → ¬ (y0 < 0) ∧ ¬ (4 ≤ y0) → (-2147483648) ≤ h 2 132 x4 + 1) (p5 : ¬ (x4 < 0) ∧ ¬ (4 ≤ x4) → ¬ (y0 < 0) ∧ ¬ (4 ≤ y0) → h 2 132 x4 + 1 < 2147483648) (p6 : ¬ (x4 < 0) ∧ ¬ (4 ≤ x4) → ¬ (y0 < 0) ∧ ¬ (4 ≤ y0) → 0 ≤ y0) (p7 : ¬ (x4 < 0) ∧ ¬ (4 ≤ x4) → ¬ (y0 < 0) ∧ ¬ (4 ≤ y0) → y0 < 4) (p8 : ¬ (x4 < 0) ∧ ¬ (4 ≤ x4) → ¬ (y0 < 0) ∧ ¬ (4 ≤ y0) → (-2147483648) ≤ (vup h 2 132 x4 (h 2 132 x4 + 1)) 2 132 y0 - 1) (p9 : ¬ (x4 < 0) ∧ ¬ (4 ≤ x4) → ¬ (y0 < 0) ∧ ¬ (4 ≤ y0) → (vup h 2 132 x4 (h 2 132 x4 + 1)) 2 132 y0 - 1 < 2147483648) (p10 : ¬ (x4 < 0) ∧ ¬ (4 ≤ x4) → ¬ (y0 < 0) ∧ ¬ (4 ≤ y0) → (-2147483648) ≤ x3 + 1) (p11 : ¬ (x4 < 0) ∧ ¬ (4 ≤ x4) → ¬ (y0 < 0) ∧ ¬ (4 ≤ y0) → x3 + 1 < 2147483648) : vrun mX9_deal 115 [(1, 127), (0, x1), (0, x2), (0, x3), (0, x4), v5] [(0, y0)] h = if ¬ (x4 < 0) ∧ ¬ (4 ≤ x4) then if ¬ (y0 < 0) ∧ ¬ (4 ≤ y0) then vrun mX9_deal 99 [(1, 127), (0, x1), (0, x2), (0, x3 + 1), (0, x4), (0, y0)] [] (vup (vup h 2 132 x4 (h 2 132 x4 + 1)) 2 132 y0 ((vup h 2 132 x4 (h 2 132 x4 + 1)) 2 132 y0 - 1)) else some (.inl none, h) else some (.inl none, h) := by
  refine (rn_istore (pc := 115) (dd bX9_deal dX9_deal_115) (Nat.le_of_ble_eq_true rfl) rfl).trans ?_
  refine (rn_aload_n (pc := 117) (dd bX9_deal dX9_deal_117) rfl).trans ?_
  refine (rn_iload (pc := 118) (dd bX9_deal dX9_deal_118) rfl).trans ?_
  refine (rg_virtual (pc := 120) (dd bX9_deal dX9_deal_120) rfl rfl (by decide) (kc := 30) rfl s1.1 (as := [(1, 127), (0, x4)]) rfl ⟨Nat.le_of_ble_eq_true rfl, Nat.le_of_ble_eq_true rfl, Nat.le_of_ble_eq_true rfl, Nat.le_of_ble_eq_true rfl⟩).trans ?_
  refine (vret_v spX9_isPane).trans ?_
  refine (rg_beq (t := 135) (pc := 123) (dd bX9_deal dX9_deal_123) rfl).trans (itec (fun c1 => ?_) (fun c1 => ?_))
  · refine (rn_aload_n (pc := 126) (dd bX9_deal dX9_deal_126) rfl).trans ?_
    refine (rn_iload (pc := 127) (dd bX9_deal dX9_deal_127) rfl).trans ?_
    refine (rg_virtual (pc := 129) (dd bX9_deal dX9_deal_129) rfl rfl (by decide) (kc := 30) rfl s1.1 (as := [(1, 127), (0, y0)]) rfl ⟨Nat.le_of_ble_eq_true rfl, Nat.le_of_ble_eq_true rfl, Nat.le_of_ble_eq_true rfl, Nat.le_of_ble_eq_true rfl⟩).trans ?_
    refine (vret_v spX9_isPane).trans ?_
    refine (rg_bne (t := 136) (pc := 132) (dd bX9_deal dX9_deal_132) rfl).trans (itec (fun c2 => ?_) (fun c2 => ?_))
    · refine (rn_aload_n (pc := 136) (dd bX9_deal dX9_deal_136) rfl).trans ?_
      refine (rg_gf (pc := 137) (dd bX9_deal dX9_deal_137) (ci := 10) (j := 4) rfl rfl (key := 1104) rfl (kc := 30) rfl s1.1 s1.2.2.2.2.2.2.2.2.2.2.2.2.2.1).trans ?_
      refine (rn_iload (pc := 140) (dd bX9_deal dX9_deal_140) rfl).trans ?_
      refine (rn_dup2 (pc := 142) (dd bX9_deal dX9_deal_142) (by decide)).trans ?_
      refine (rg_iaload (pc := 143) (dd bX9_deal dX9_deal_143) s1.2.2.2.2.2.2.2.2.2.2.2.2.2.2.1 s1.2.2.2.2.2.2.2.2.2.2.2.2.2.2.2.1 (p2 c1 c2) (p3 c1 c2) rfl).trans ?_
      refine (rn_iconst (pc := 144) (dd bX9_deal dX9_deal_144) (by decide)).trans ?_
      refine (rg_iadd (pc := 145) (dd bX9_deal dX9_deal_145) (p4 c1 c2) (p5 c1 c2)).trans ?_
      refine (rg_iastore (pc := 146) (dd bX9_deal dX9_deal_146) s1.2.2.2.2.2.2.2.2.2.2.2.2.2.2.1 s1.2.2.2.2.2.2.2.2.2.2.2.2.2.2.2.1 (by have z0 := p2 c1 c2; have z1 := p3 c1 c2; omega) (by have z0 := p2 c1 c2; have z1 := p3 c1 c2; omega)).trans ?_
      refine (rn_aload_n (pc := 147) (dd bX9_deal dX9_deal_147) rfl).trans ?_
      refine (rg_gf (pc := 148) (dd bX9_deal dX9_deal_148) (ci := 10) (j := 4) rfl rfl (key := 1104) rfl (kc := 30) rfl ((vup_k (by decide)).trans s1.1) ((vup_k (by decide)).trans s1.2.2.2.2.2.2.2.2.2.2.2.2.2.1)).trans ?_
      refine (rn_iload (pc := 151) (dd bX9_deal dX9_deal_151) rfl).trans ?_
      refine (rn_dup2 (pc := 153) (dd bX9_deal dX9_deal_153) (by decide)).trans ?_
      refine (rg_iaload (pc := 154) (dd bX9_deal dX9_deal_154) ((vup_k (by decide)).trans s1.2.2.2.2.2.2.2.2.2.2.2.2.2.2.1) ((vup_k (by decide)).trans s1.2.2.2.2.2.2.2.2.2.2.2.2.2.2.2.1) (p6 c1 c2) (p7 c1 c2) rfl).trans ?_
      refine (rn_iconst (pc := 155) (dd bX9_deal dX9_deal_155) (by decide)).trans ?_
      refine (rg_isub (pc := 156) (dd bX9_deal dX9_deal_156) (p8 c1 c2) (p9 c1 c2)).trans ?_
      refine (rg_iastore (pc := 157) (dd bX9_deal dX9_deal_157) ((vup_k (by decide)).trans s1.2.2.2.2.2.2.2.2.2.2.2.2.2.2.1) ((vup_k (by decide)).trans s1.2.2.2.2.2.2.2.2.2.2.2.2.2.2.2.1) (by have z0 := p6 c1 c2; have z1 := p7 c1 c2; omega) (by have z0 := p6 c1 c2; have z1 := p7 c1 c2; omega)).trans ?_
      refine (rg_iinc (pc := 158) (dd bX9_deal dX9_deal_158) rfl (Nat.le_of_ble_eq_true rfl) (p10 c1 c2) (p11 c1 c2) rfl).trans ?_
      refine (rn_goto (t := 99) (pc := 161) (dd bX9_deal dX9_deal_161) rfl).trans ?_
      rfl
    · exact rn_return (pc := 135) (dd bX9_deal dX9_deal_135) rfl
  · exact rn_return (pc := 135) (dd bX9_deal dX9_deal_135) rfl
theorem bX9_setOpen : vmB mX9_setOpen = cX9_setOpen := rfl
theorem rX9_setOpen_0 {x1 : Int} {x2 : Int} {h : vH} (s1 : shStack h) (p2 : ¬ (x1 < 0) ∧ ¬ (4 ≤ x1) → 0 ≤ x1) (p3 : ¬ (x1 < 0) ∧ ¬ (4 ≤ x1) → x1 < 4) (p4 : ¬ (x1 < 0) ∧ ¬ (4 ≤ x1) → x2 = 0 ∨ x2 = 1) : vrun mX9_setOpen 0 [(1, 127), (0, x1), (0, x2)] [] h = if ¬ (x1 < 0) ∧ ¬ (4 ≤ x1) then vret vrun mX9_setOpen 16 [(1, 127), (0, x1), (0, x2)] [] (vcl mX9_deal [(1, 127)] (vup h 2 128 x1 x2)) else some (.inl none, h) := by
  refine (rn_aload_n (pc := 0) (dd bX9_setOpen dX9_setOpen_0) rfl).trans ?_
  refine (rn_iload_n (pc := 1) (dd bX9_setOpen dX9_setOpen_1) rfl).trans ?_
  refine (rg_virtual (pc := 2) (dd bX9_setOpen dX9_setOpen_2) rfl rfl (by decide) (kc := 30) rfl s1.1 (as := [(1, 127), (0, x1)]) rfl ⟨Nat.le_of_ble_eq_true rfl, Nat.le_of_ble_eq_true rfl, Nat.le_of_ble_eq_true rfl, Nat.le_of_ble_eq_true rfl⟩).trans ?_
  refine (vret_v spX9_isPane).trans ?_
  refine (rg_beq (t := 19) (pc := 5) (dd bX9_setOpen dX9_setOpen_5) rfl).trans (itec (fun c1 => ?_) (fun c1 => ?_))
  · refine (rn_aload_n (pc := 8) (dd bX9_setOpen dX9_setOpen_8) rfl).trans ?_
    refine (rg_gf (pc := 9) (dd bX9_setOpen dX9_setOpen_9) (ci := 10) (j := 0) rfl rfl (key := 1100) rfl (kc := 30) rfl s1.1 s1.2.1).trans ?_
    refine (rn_iload_n (pc := 12) (dd bX9_setOpen dX9_setOpen_12) rfl).trans ?_
    refine (rn_iload_n (pc := 13) (dd bX9_setOpen dX9_setOpen_13) rfl).trans ?_
    refine (rg_bastore (pc := 14) (dd bX9_setOpen dX9_setOpen_14) s1.2.2.1 s1.2.2.2.1 (p2 c1) (p3 c1) (p4 c1)).trans ?_
    refine (rn_aload_n (pc := 15) (dd bX9_setOpen dX9_setOpen_15) rfl).trans ?_
    exact rg_virtual (pc := 16) (dd bX9_setOpen dX9_setOpen_16) rfl rfl (by decide) (kc := 30) rfl ((vup_k (by decide)).trans s1.1) (as := [(1, 127)]) rfl ⟨Nat.le_of_ble_eq_true rfl, Nat.le_of_ble_eq_true rfl, Nat.le_of_ble_eq_true rfl, Nat.le_of_ble_eq_true rfl⟩
  · exact rn_return (pc := 19) (dd bX9_setOpen dX9_setOpen_19) rfl
theorem rX9_setOpen_19 {x1 : Int} {x2 : Int} {h : vH} : vrun mX9_setOpen 19 [(1, 127), (0, x1), (0, x2)] [] h = some (.inl none, h) := by
  exact rn_return (pc := 19) (dd bX9_setOpen dX9_setOpen_19) rfl
theorem bX9_heightOf : vmB mX9_heightOf = cX9_heightOf := rfl
theorem rX9_heightOf_0 {x1 : Int} {h : vH} (s1 : shStack h) (p2 : ¬ (x1 < 0) ∧ ¬ (4 ≤ x1) → 0 ≤ x1) (p3 : ¬ (x1 < 0) ∧ ¬ (4 ≤ x1) → x1 < 4) : vrun mX9_heightOf 0 [(1, 127), (0, x1)] [] h = some (.inl (some (0, (if ¬ (x1 < 0) ∧ ¬ (4 ≤ x1) then h 2 132 x1 else 0))), h) := by
  refine (rn_aload_n (pc := 0) (dd bX9_heightOf dX9_heightOf_0) rfl).trans ?_
  refine (rn_iload_n (pc := 1) (dd bX9_heightOf dX9_heightOf_1) rfl).trans ?_
  refine (rg_virtual (pc := 2) (dd bX9_heightOf dX9_heightOf_2) rfl rfl (by decide) (kc := 30) rfl s1.1 (as := [(1, 127), (0, x1)]) rfl ⟨Nat.le_of_ble_eq_true rfl, Nat.le_of_ble_eq_true rfl, Nat.le_of_ble_eq_true rfl, Nat.le_of_ble_eq_true rfl⟩).trans ?_
  refine (vret_v spX9_isPane).trans ?_
  have e1 : vrun mX9_heightOf 5 [(1, 127), (0, x1)] [(0, (if ¬ (x1 < 0) ∧ ¬ (4 ≤ x1) then 1 else 0))] h = vrun mX9_heightOf 18 [(1, 127), (0, x1)] [(0, (if ¬ (x1 < 0) ∧ ¬ (4 ≤ x1) then h 2 132 x1 else 0))] h := by
    refine (rg_beq (t := 17) (pc := 5) (dd bX9_heightOf dX9_heightOf_5) rfl).trans ?_
    by_cases c1 : ¬ (x1 < 0) ∧ ¬ (4 ≤ x1)
    · refine (if_pos c1).trans ?_
      refine (rn_aload_n (pc := 8) (dd bX9_heightOf dX9_heightOf_8) rfl).trans ?_
      refine (rg_gf (pc := 9) (dd bX9_heightOf dX9_heightOf_9) (ci := 10) (j := 4) rfl rfl (key := 1104) rfl (kc := 30) rfl s1.1 s1.2.2.2.2.2.2.2.2.2.2.2.2.2.1).trans ?_
      refine (rn_iload_n (pc := 12) (dd bX9_heightOf dX9_heightOf_12) rfl).trans ?_
      refine (rg_iaload (pc := 13) (dd bX9_heightOf dX9_heightOf_13) s1.2.2.2.2.2.2.2.2.2.2.2.2.2.2.1 s1.2.2.2.2.2.2.2.2.2.2.2.2.2.2.2.1 (p2 c1) (p3 c1) rfl).trans ?_
      refine (rn_goto (t := 18) (pc := 14) (dd bX9_heightOf dX9_heightOf_14) rfl).trans ?_
      refine Eq.trans (b := vrun mX9_heightOf 18 [(1, 127), (0, x1)] [(0, h 2 132 x1)] h) rfl ?_
      simp only [if_pos c1]
    · refine (if_neg c1).trans ?_
      refine (rn_iconst (pc := 17) (dd bX9_heightOf dX9_heightOf_17) (by decide)).trans ?_
      refine Eq.trans (b := vrun mX9_heightOf 18 [(1, 127), (0, x1)] [(0, 0)] h) rfl ?_
      simp only [if_neg c1]
  refine e1.trans ?_
  exact rn_ireturn (pc := 18) (dd bX9_heightOf dX9_heightOf_18) (Or.inl rfl)
def fX9_heightOf (h : vH) (x1 : Int) : Int := (if ¬ (x1 < 0) ∧ ¬ (4 ≤ x1) then h 2 132 x1 else 0)
theorem spX9_heightOf {x1 : Int} {h : vH} (s1 : shStack h) (p2 : ¬ (x1 < 0) ∧ ¬ (4 ≤ x1) → 0 ≤ x1) (p3 : ¬ (x1 < 0) ∧ ¬ (4 ≤ x1) → x1 < 4) : vcl mX9_heightOf [(1, 127), (0, x1)] h = some (.inl (some (0, fX9_heightOf h x1)), h) := by
  refine (show _ = _ from rX9_heightOf_0 s1 p2 p3).trans ?_
  rfl
theorem bX9_openOnes : vmB mX9_openOnes = cX9_openOnes := rfl
theorem rX9_openOnes_0 {h : vH} : vrun mX9_openOnes 0 [(1, 127), (9, 0), (9, 0)] [] h = vrun mX9_openOnes 4 [(1, 127), (0, 0), (0, 0)] [] h := by
  refine (rn_iconst (pc := 0) (dd bX9_openOnes dX9_openOnes_0) (by decide)).trans ?_
  refine (rn_istore_n (pc := 1) (dd bX9_openOnes dX9_openOnes_1) (Nat.le_of_ble_eq_true rfl) rfl).trans ?_
  refine (rn_iconst (pc := 2) (dd bX9_openOnes dX9_openOnes_2) (by decide)).trans ?_
  refine (rn_istore_n (pc := 3) (dd bX9_openOnes dX9_openOnes_3) (Nat.le_of_ble_eq_true rfl) rfl).trans ?_
  rfl
theorem rX9_openOnes_4 {x1 : Int} {x2 : Int} {h : vH} (s1 : shStack h) (p2 : ¬ (4 ≤ x2) → 0 ≤ x2) (p3 : ¬ (4 ≤ x2) → (-2147483648) ≤ x1 + (if ¬ (h 2 128 x2 = 0) then 1 else 0)) (p4 : ¬ (4 ≤ x2) → x1 + (if ¬ (h 2 128 x2 = 0) then 1 else 0) < 2147483648) : vrun mX9_openOnes 4 [(1, 127), (0, x1), (0, x2)] [] h = if 4 ≤ x2 then some (.inl (some (0, x1)), h) else vrun mX9_openOnes 4 [(1, 127), (0, x1 + (if ¬ (h 2 128 x2 = 0) then 1 else 0)), (0, x2 + 1)] [] h := by
  refine (rn_iload_n (pc := 4) (dd bX9_openOnes dX9_openOnes_4) rfl).trans ?_
  refine (rn_iconst (pc := 5) (dd bX9_openOnes dX9_openOnes_5) (by decide)).trans ?_
  refine (rn_icmp_ge (t := 32) (pc := 6) (dd bX9_openOnes dX9_openOnes_6) rfl).trans (itec (fun c1 => ?_) (fun c1 => ?_))
  · refine (rn_iload_n (pc := 32) (dd bX9_openOnes dX9_openOnes_32) rfl).trans ?_
    exact rn_ireturn (pc := 33) (dd bX9_openOnes dX9_openOnes_33) (Or.inl rfl)
  · refine (rn_iload_n (pc := 9) (dd bX9_openOnes dX9_openOnes_9) rfl).trans ?_
    refine (rn_aload_n (pc := 10) (dd bX9_openOnes dX9_openOnes_10) rfl).trans ?_
    refine (rg_gf (pc := 11) (dd bX9_openOnes dX9_openOnes_11) (ci := 10) (j := 0) rfl rfl (key := 1100) rfl (kc := 30) rfl s1.1 s1.2.1).trans ?_
    refine (rn_iload_n (pc := 14) (dd bX9_openOnes dX9_openOnes_14) rfl).trans ?_
    refine (rg_baload (pc := 15) (dd bX9_openOnes dX9_openOnes_15) s1.2.2.1 s1.2.2.2.1 (p2 c1) (Int.not_le.mp c1) rfl).trans ?_
    have e1 : vrun mX9_openOnes 16 [(1, 127), (0, x1), (0, x2)] [(0, h 2 128 x2), (0, x1)] h = vrun mX9_openOnes 24 [(1, 127), (0, x1), (0, x2)] [(0, (if ¬ (h 2 128 x2 = 0) then 1 else 0)), (0, x1)] h := by
      refine (rn_if_eq (t := 23) (pc := 16) (dd bX9_openOnes dX9_openOnes_16) rfl).trans ?_
      by_cases c2 : h 2 128 x2 = 0
      · refine (if_pos c2).trans ?_
        refine (rn_iconst (pc := 23) (dd bX9_openOnes dX9_openOnes_23) (by decide)).trans ?_
        refine Eq.trans (b := vrun mX9_openOnes 24 [(1, 127), (0, x1), (0, x2)] [(0, 0), (0, x1)] h) rfl ?_
        simp only [c2, true_or, false_or, or_true, or_false, true_and, false_and, and_true, and_false, not_true_eq_false, not_false_eq_true, ne_eq, if_true, if_false, ↓reduceIte]
      · refine (if_neg c2).trans ?_
        refine (rn_iconst (pc := 19) (dd bX9_openOnes dX9_openOnes_19) (by decide)).trans ?_
        refine (rn_goto (t := 24) (pc := 20) (dd bX9_openOnes dX9_openOnes_20) rfl).trans ?_
        refine Eq.trans (b := vrun mX9_openOnes 24 [(1, 127), (0, x1), (0, x2)] [(0, 1), (0, x1)] h) rfl ?_
        simp only [c2, true_or, false_or, or_true, or_false, true_and, false_and, and_true, and_false, not_true_eq_false, not_false_eq_true, ne_eq, if_true, if_false, ↓reduceIte]
    refine e1.trans ?_
    refine (rg_iadd (pc := 24) (dd bX9_openOnes dX9_openOnes_24) (p3 c1) (p4 c1)).trans ?_
    refine (rn_istore_n (pc := 25) (dd bX9_openOnes dX9_openOnes_25) (Nat.le_of_ble_eq_true rfl) rfl).trans ?_
    refine (rg_iinc (pc := 26) (dd bX9_openOnes dX9_openOnes_26) rfl (Nat.le_of_ble_eq_true rfl) (by have z0 := p2 c1; omega) (by have z0 := p2 c1; omega) rfl).trans ?_
    refine (rn_goto (t := 4) (pc := 29) (dd bX9_openOnes dX9_openOnes_29) rfl).trans ?_
    rfl
theorem bX9_setShare : vmB mX9_setShare = cX9_setShare := rfl
theorem rX9_setShare_0 {x1 : Int} {x2 : Int} {x3 : Int} {x4 : Int} {h : vH} (s1 : shStack h) (p2 : ¬ (x1 < 0) ∧ ¬ (4 ≤ x1) → 0 ≤ x1) (p3 : ¬ (x1 < 0) ∧ ¬ (4 ≤ x1) → x1 < 4) : vrun mX9_setShare 0 [(1, 127), (0, x1), (0, x2), (0, x3), (0, x4)] [] h = if ¬ (x1 < 0) ∧ ¬ (4 ≤ x1) then vret vrun mX9_setShare 31 [(1, 127), (0, x1), (0, x2), (0, x3), (0, x4)] [] (vcl mX9_deal [(1, 127)] (vup (vup (vup h 2 129 x1 x2) 2 130 x1 x3) 2 131 x1 x4)) else some (.inl none, h) := by
  refine (rn_aload_n (pc := 0) (dd bX9_setShare dX9_setShare_0) rfl).trans ?_
  refine (rn_iload_n (pc := 1) (dd bX9_setShare dX9_setShare_1) rfl).trans ?_
  refine (rg_virtual (pc := 2) (dd bX9_setShare dX9_setShare_2) rfl rfl (by decide) (kc := 30) rfl s1.1 (as := [(1, 127), (0, x1)]) rfl ⟨Nat.le_of_ble_eq_true rfl, Nat.le_of_ble_eq_true rfl, Nat.le_of_ble_eq_true rfl, Nat.le_of_ble_eq_true rfl⟩).trans ?_
  refine (vret_v spX9_isPane).trans ?_
  refine (rg_beq (t := 34) (pc := 5) (dd bX9_setShare dX9_setShare_5) rfl).trans (itec (fun c1 => ?_) (fun c1 => ?_))
  · refine (rn_aload_n (pc := 8) (dd bX9_setShare dX9_setShare_8) rfl).trans ?_
    refine (rg_gf (pc := 9) (dd bX9_setShare dX9_setShare_9) (ci := 10) (j := 1) rfl rfl (key := 1101) rfl (kc := 30) rfl s1.1 s1.2.2.2.2.1).trans ?_
    refine (rn_iload_n (pc := 12) (dd bX9_setShare dX9_setShare_12) rfl).trans ?_
    refine (rn_iload_n (pc := 13) (dd bX9_setShare dX9_setShare_13) rfl).trans ?_
    refine (rg_iastore (pc := 14) (dd bX9_setShare dX9_setShare_14) s1.2.2.2.2.2.1 s1.2.2.2.2.2.2.1 (p2 c1) (p3 c1)).trans ?_
    refine (rn_aload_n (pc := 15) (dd bX9_setShare dX9_setShare_15) rfl).trans ?_
    refine (rg_gf (pc := 16) (dd bX9_setShare dX9_setShare_16) (ci := 10) (j := 2) rfl rfl (key := 1102) rfl (kc := 30) rfl ((vup_k (by decide)).trans s1.1) ((vup_k (by decide)).trans s1.2.2.2.2.2.2.2.1)).trans ?_
    refine (rn_iload_n (pc := 19) (dd bX9_setShare dX9_setShare_19) rfl).trans ?_
    refine (rn_iload_n (pc := 20) (dd bX9_setShare dX9_setShare_20) rfl).trans ?_
    refine (rg_iastore (pc := 21) (dd bX9_setShare dX9_setShare_21) ((vup_k (by decide)).trans s1.2.2.2.2.2.2.2.2.1) ((vup_k (by decide)).trans s1.2.2.2.2.2.2.2.2.2.1) (by have z0 := p2 c1; have z1 := p3 c1; omega) (by have z0 := p2 c1; have z1 := p3 c1; omega)).trans ?_
    refine (rn_aload_n (pc := 22) (dd bX9_setShare dX9_setShare_22) rfl).trans ?_
    refine (rg_gf (pc := 23) (dd bX9_setShare dX9_setShare_23) (ci := 10) (j := 3) rfl rfl (key := 1103) rfl (kc := 30) rfl ((vup_k (by decide)).trans ((vup_k (by decide)).trans s1.1)) ((vup_k (by decide)).trans ((vup_k (by decide)).trans s1.2.2.2.2.2.2.2.2.2.2.1))).trans ?_
    refine (rn_iload_n (pc := 26) (dd bX9_setShare dX9_setShare_26) rfl).trans ?_
    refine (rn_iload (pc := 27) (dd bX9_setShare dX9_setShare_27) rfl).trans ?_
    refine (rg_iastore (pc := 29) (dd bX9_setShare dX9_setShare_29) ((vup_k (by decide)).trans ((vup_k (by decide)).trans s1.2.2.2.2.2.2.2.2.2.2.2.1)) ((vup_k (by decide)).trans ((vup_k (by decide)).trans s1.2.2.2.2.2.2.2.2.2.2.2.2.1)) (by have z0 := p2 c1; have z1 := p3 c1; omega) (by have z0 := p2 c1; have z1 := p3 c1; omega)).trans ?_
    refine (rn_aload_n (pc := 30) (dd bX9_setShare dX9_setShare_30) rfl).trans ?_
    exact rg_virtual (pc := 31) (dd bX9_setShare dX9_setShare_31) rfl rfl (by decide) (kc := 30) rfl ((vup_k (by decide)).trans ((vup_k (by decide)).trans ((vup_k (by decide)).trans s1.1))) (as := [(1, 127)]) rfl ⟨Nat.le_of_ble_eq_true rfl, Nat.le_of_ble_eq_true rfl, Nat.le_of_ble_eq_true rfl, Nat.le_of_ble_eq_true rfl⟩
  · exact rn_return (pc := 34) (dd bX9_setShare dX9_setShare_34) rfl
theorem rX9_setShare_34 {x1 : Int} {x2 : Int} {x3 : Int} {x4 : Int} {h : vH} : vrun mX9_setShare 34 [(1, 127), (0, x1), (0, x2), (0, x3), (0, x4)] [] h = some (.inl none, h) := by
  exact rn_return (pc := 34) (dd bX9_setShare dX9_setShare_34) rfl

