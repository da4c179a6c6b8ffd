theorem bX12_isBlank : vmB mX12_isBlank = cX12_isBlank := rfl
theorem rX12_isBlank_0 {x0 : Int} {h : vH} : vrun mX12_isBlank 0 [(0, x0)] [] h = some (.inl (some (0, (if x0 = 32 ∨ x0 = 9 then 1 else 0))), h) := by
  refine (rn_iload_n (pc := 0) (dd bX12_isBlank dX12_isBlank_0) rfl).trans ?_
  refine (rn_bipush (pc := 1) (dd bX12_isBlank dX12_isBlank_1) (by decide)).trans ?_
  have e2 : vrun mX12_isBlank 3 [(0, x0)] [(0, 32), (0, x0)] h = vrun mX12_isBlank 17 [(0, x0)] [(0, (if x0 = 32 ∨ x0 = 9 then 1 else 0))] h := by
    refine (rn_icmp_eq (t := 12) (pc := 3) (dd bX12_isBlank dX12_isBlank_3) rfl).trans ?_
    by_cases c1 : x0 = 32
    · refine (if_pos c1).trans ?_
      refine (rn_iconst (pc := 12) (dd bX12_isBlank dX12_isBlank_12) (by decide)).trans ?_
      refine (rn_goto (t := 17) (pc := 13) (dd bX12_isBlank dX12_isBlank_13) rfl).trans ?_
      refine Eq.trans (b := vrun mX12_isBlank 17 [(0, x0)] [(0, 1)] h) rfl ?_
      simp only [c1, true_or, false_or, or_true, or_false, true_and, false_and, and_true, and_false, not_true_eq_false, not_false_eq_true, ne_eq, if_true, if_false, ↓reduceIte]
    · refine (if_neg c1).trans ?_
      refine (rn_iload_n (pc := 6) (dd bX12_isBlank dX12_isBlank_6) rfl).trans ?_
      refine (rn_bipush (pc := 7) (dd bX12_isBlank dX12_isBlank_7) (by decide)).trans ?_
      have e1 : vrun mX12_isBlank 9 [(0, x0)] [(0, 9), (0, x0)] h = vrun mX12_isBlank 17 [(0, x0)] [(0, (if x0 = 9 then 1 else 0))] h := by
        refine (rg_icmp_ne (t := 16) (pc := 9) (dd bX12_isBlank dX12_isBlank_9) rfl).trans ?_
        by_cases c2 : x0 = 9
        · refine (if_pos c2).trans ?_
          refine (rn_iconst (pc := 12) (dd bX12_isBlank dX12_isBlank_12) (by decide)).trans ?_
          refine (rn_goto (t := 17) (pc := 13) (dd bX12_isBlank dX12_isBlank_13) rfl).trans ?_
          refine Eq.trans (b := vrun mX12_isBlank 17 [(0, x0)] [(0, 1)] h) rfl ?_
          simp only [c2, true_or, false_or, or_true, or_false, true_and, false_and, and_true, and_false, not_true_eq_false, not_false_eq_true, ne_eq, if_true, if_false, ↓reduceIte]
        · refine (if_neg c2).trans ?_
          refine (rn_iconst (pc := 16) (dd bX12_isBlank dX12_isBlank_16) (by decide)).trans ?_
          refine Eq.trans (b := vrun mX12_isBlank 17 [(0, x0)] [(0, 0)] h) rfl ?_
          simp only [c2, true_or, false_or, or_true, or_false, true_and, false_and, and_true, and_false, not_true_eq_false, not_false_eq_true, ne_eq, if_true, if_false, ↓reduceIte]
      refine e1.trans ?_
      refine Eq.trans (b := vrun mX12_isBlank 17 [(0, x0)] [(0, (if x0 = 9 then 1 else 0))] h) rfl ?_
      simp only [c1, true_or, false_or, or_true, or_false, true_and, false_and, and_true, and_false, not_true_eq_false, not_false_eq_true, ne_eq, if_true, if_false, ↓reduceIte]
  refine e2.trans ?_
  exact rn_ireturn (pc := 17) (dd bX12_isBlank dX12_isBlank_17) (Or.inr ⟨rfl, b01⟩)
theorem spX12_isBlank {x0 : Int} {h : vH} : vcl mX12_isBlank [(0, x0)] h = some (.inl (some (0, (if x0 = 32 ∨ x0 = 9 then 1 else 0))), h) := by
  refine (show _ = _ from rX12_isBlank_0).trans ?_
  rfl

