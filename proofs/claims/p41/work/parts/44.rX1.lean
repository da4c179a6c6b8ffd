theorem bX1_lineBroke : vmB mX1_lineBroke = cX1_lineBroke := rfl
theorem rX1_lineBroke_0 {x0 : Int} {x1 : Int} {h : vH} (s1 : shFold h x0) (p2 : ¬ (h 300 x0 0 ≤ x1) → (-2147483648) ≤ h 300 x0 0 + 1) (p3 : ¬ (h 300 x0 0 ≤ x1) → h 300 x0 0 + 1 < 2147483648) (p4 : ¬ (h 301 x0 0 < x1) → (-2147483648) ≤ h 301 x0 0 + 1) (p5 : ¬ (h 301 x0 0 < x1) → h 301 x0 0 + 1 < 2147483648) : vrun mX1_lineBroke 0 [(1, x0), (0, x1)] [] h = some (.inl none, (if h 301 x0 0 < x1 then (if h 300 x0 0 ≤ x1 then h else vup h 300 x0 0 (h 300 x0 0 + 1)) else vup (if h 300 x0 0 ≤ x1 then h else vup h 300 x0 0 (h 300 x0 0 + 1)) 301 x0 0 (h 301 x0 0 + 1))) := by
  refine (rn_aload_n (pc := 0) (dd bX1_lineBroke dX1_lineBroke_0) rfl).trans ?_
  refine (rg_gf (pc := 1) (dd bX1_lineBroke dX1_lineBroke_1) (ci := 2) (j := 0) rfl rfl (key := 300) rfl (kc := 22) rfl s1 rfl).trans ?_
  refine (rn_iload_n (pc := 4) (dd bX1_lineBroke dX1_lineBroke_4) rfl).trans ?_
  have e1 : vrun mX1_lineBroke 5 [(1, x0), (0, x1)] [(0, x1), (0, h 300 x0 0)] h = vrun mX1_lineBroke 18 [(1, x0), (0, x1)] [] (if h 300 x0 0 ≤ x1 then h else vup h 300 x0 0 (h 300 x0 0 + 1)) := by
    refine (rn_icmp_le (t := 18) (pc := 5) (dd bX1_lineBroke dX1_lineBroke_5) rfl).trans ?_
    by_cases c1 : h 300 x0 0 ≤ x1
    · refine (if_pos c1).trans ?_
      refine Eq.trans (b := vrun mX1_lineBroke 18 [(1, x0), (0, x1)] [] h) rfl ?_
      simp only [if_pos c1]
    · refine (if_neg c1).trans ?_
      refine (rn_aload_n (pc := 8) (dd bX1_lineBroke dX1_lineBroke_8) rfl).trans ?_
      refine (rn_dup (pc := 9) (dd bX1_lineBroke dX1_lineBroke_9) (by decide)).trans ?_
      refine (rg_gf (pc := 10) (dd bX1_lineBroke dX1_lineBroke_10) (ci := 2) (j := 0) rfl rfl (key := 300) rfl (kc := 22) rfl s1 rfl).trans ?_
      refine (rn_iconst (pc := 13) (dd bX1_lineBroke dX1_lineBroke_13) (by decide)).trans ?_
      refine (rg_iadd (pc := 14) (dd bX1_lineBroke dX1_lineBroke_14) (p2 c1) (p3 c1)).trans ?_
      refine (rg_pf (pc := 15) (dd bX1_lineBroke dX1_lineBroke_15) (ci := 2) (j := 0) rfl (key := 300) rfl (kc := 22) rfl s1 rfl (by intro z; cases z) (by decide)).trans ?_
      refine Eq.trans (b := vrun mX1_lineBroke 18 [(1, x0), (0, x1)] [] (vup h 300 x0 0 (h 300 x0 0 + 1))) rfl ?_
      simp only [if_neg c1]
  refine e1.trans ?_
  refine (rn_aload_n (pc := 18) (dd bX1_lineBroke dX1_lineBroke_18) rfl).trans ?_
  refine (rg_gf (pc := 19) (dd bX1_lineBroke dX1_lineBroke_19) (ci := 2) (j := 1) rfl rfl (key := 301) rfl (kc := 22) rfl (ite_rd s1 ((vup_k (by decide)).trans s1)) (ite_rd rfl ((vup_k (by decide)).trans rfl))).trans ?_
  refine (rn_iload_n (pc := 22) (dd bX1_lineBroke dX1_lineBroke_22) rfl).trans ?_
  have e2 : vrun mX1_lineBroke 23 [(1, x0), (0, x1)] [(0, x1), (0, h 301 x0 0)] (if h 300 x0 0 ≤ x1 then h else vup h 300 x0 0 (h 300 x0 0 + 1)) = vrun mX1_lineBroke 36 [(1, x0), (0, x1)] [] (if h 301 x0 0 < x1 then (if h 300 x0 0 ≤ x1 then h else vup h 300 x0 0 (h 300 x0 0 + 1)) else vup (if h 300 x0 0 ≤ x1 then h else vup h 300 x0 0 (h 300 x0 0 + 1)) 301 x0 0 (h 301 x0 0 + 1)) := by
    refine (rn_icmp_lt (t := 36) (pc := 23) (dd bX1_lineBroke dX1_lineBroke_23) rfl).trans ?_
    by_cases c2 : h 301 x0 0 < x1
    · refine (if_pos c2).trans ?_
      refine Eq.trans (b := vrun mX1_lineBroke 36 [(1, x0), (0, x1)] [] (if h 300 x0 0 ≤ x1 then h else vup h 300 x0 0 (h 300 x0 0 + 1))) rfl ?_
      simp only [if_pos c2]
    · refine (if_neg c2).trans ?_
      refine (rn_aload_n (pc := 26) (dd bX1_lineBroke dX1_lineBroke_26) rfl).trans ?_
      refine (rn_dup (pc := 27) (dd bX1_lineBroke dX1_lineBroke_27) (by decide)).trans ?_
      refine (rg_gf (pc := 28) (dd bX1_lineBroke dX1_lineBroke_28) (ci := 2) (j := 1) rfl rfl (key := 301) rfl (kc := 22) rfl (ite_rd s1 ((vup_k (by decide)).trans s1)) (ite_rd rfl ((vup_k (by decide)).trans rfl))).trans ?_
      refine (rn_iconst (pc := 31) (dd bX1_lineBroke dX1_lineBroke_31) (by decide)).trans ?_
      refine (rg_iadd (pc := 32) (dd bX1_lineBroke dX1_lineBroke_32) (p4 c2) (p5 c2)).trans ?_
      refine (rg_pf (pc := 33) (dd bX1_lineBroke dX1_lineBroke_33) (ci := 2) (j := 1) rfl (key := 301) rfl (kc := 22) rfl (ite_rd s1 ((vup_k (by decide)).trans s1)) rfl (by intro z; cases z) (by decide)).trans ?_
      refine Eq.trans (b := vrun mX1_lineBroke 36 [(1, x0), (0, x1)] [] (vup (if h 300 x0 0 ≤ x1 then h else vup h 300 x0 0 (h 300 x0 0 + 1)) 301 x0 0 (h 301 x0 0 + 1))) rfl ?_
      simp only [if_neg c2]
  refine e2.trans ?_
  exact rn_return (pc := 36) (dd bX1_lineBroke dX1_lineBroke_36) rfl
theorem bX1_linesJoined : vmB mX1_linesJoined = cX1_linesJoined := rfl
theorem rX1_linesJoined_0 {x0 : Int} {x1 : Int} {h : vH} (s1 : shFold h x0) (p2 : ¬ (h 300 x0 0 ≤ x1) → (-2147483648) ≤ h 300 x0 0 - 1) (p3 : ¬ (h 300 x0 0 ≤ x1) → h 300 x0 0 - 1 < 2147483648) (p4 : ¬ (h 301 x0 0 ≤ x1) → (-2147483648) ≤ h 301 x0 0 - 1) (p5 : ¬ (h 301 x0 0 ≤ x1) → h 301 x0 0 - 1 < 2147483648) : vrun mX1_linesJoined 0 [(1, x0), (0, x1)] [] h = some (.inl none, (if h 301 x0 0 ≤ x1 then (if h 300 x0 0 ≤ x1 then h else vup h 300 x0 0 (h 300 x0 0 - 1)) else vup (if h 300 x0 0 ≤ x1 then h else vup h 300 x0 0 (h 300 x0 0 - 1)) 301 x0 0 (h 301 x0 0 - 1))) := by
  refine (rn_aload_n (pc := 0) (dd bX1_linesJoined dX1_linesJoined_0) rfl).trans ?_
  refine (rg_gf (pc := 1) (dd bX1_linesJoined dX1_linesJoined_1) (ci := 2) (j := 0) rfl rfl (key := 300) rfl (kc := 22) rfl s1 rfl).trans ?_
  refine (rn_iload_n (pc := 4) (dd bX1_linesJoined dX1_linesJoined_4) rfl).trans ?_
  have e1 : vrun mX1_linesJoined 5 [(1, x0), (0, x1)] [(0, x1), (0, h 300 x0 0)] h = vrun mX1_linesJoined 18 [(1, x0), (0, x1)] [] (if h 300 x0 0 ≤ x1 then h else vup h 300 x0 0 (h 300 x0 0 - 1)) := by
    refine (rn_icmp_le (t := 18) (pc := 5) (dd bX1_linesJoined dX1_linesJoined_5) rfl).trans ?_
    by_cases c1 : h 300 x0 0 ≤ x1
    · refine (if_pos c1).trans ?_
      refine Eq.trans (b := vrun mX1_linesJoined 18 [(1, x0), (0, x1)] [] h) rfl ?_
      simp only [if_pos c1]
    · refine (if_neg c1).trans ?_
      refine (rn_aload_n (pc := 8) (dd bX1_linesJoined dX1_linesJoined_8) rfl).trans ?_
      refine (rn_dup (pc := 9) (dd bX1_linesJoined dX1_linesJoined_9) (by decide)).trans ?_
      refine (rg_gf (pc := 10) (dd bX1_linesJoined dX1_linesJoined_10) (ci := 2) (j := 0) rfl rfl (key := 300) rfl (kc := 22) rfl s1 rfl).trans ?_
      refine (rn_iconst (pc := 13) (dd bX1_linesJoined dX1_linesJoined_13) (by decide)).trans ?_
      refine (rg_isub (pc := 14) (dd bX1_linesJoined dX1_linesJoined_14) (p2 c1) (p3 c1)).trans ?_
      refine (rg_pf (pc := 15) (dd bX1_linesJoined dX1_linesJoined_15) (ci := 2) (j := 0) rfl (key := 300) rfl (kc := 22) rfl s1 rfl (by intro z; cases z) (by decide)).trans ?_
      refine Eq.trans (b := vrun mX1_linesJoined 18 [(1, x0), (0, x1)] [] (vup h 300 x0 0 (h 300 x0 0 - 1))) rfl ?_
      simp only [if_neg c1]
  refine e1.trans ?_
  refine (rn_aload_n (pc := 18) (dd bX1_linesJoined dX1_linesJoined_18) rfl).trans ?_
  refine (rg_gf (pc := 19) (dd bX1_linesJoined dX1_linesJoined_19) (ci := 2) (j := 1) rfl rfl (key := 301) rfl (kc := 22) rfl (ite_rd s1 ((vup_k (by decide)).trans s1)) (ite_rd rfl ((vup_k (by decide)).trans rfl))).trans ?_
  refine (rn_iload_n (pc := 22) (dd bX1_linesJoined dX1_linesJoined_22) rfl).trans ?_
  have e2 : vrun mX1_linesJoined 23 [(1, x0), (0, x1)] [(0, x1), (0, h 301 x0 0)] (if h 300 x0 0 ≤ x1 then h else vup h 300 x0 0 (h 300 x0 0 - 1)) = vrun mX1_linesJoined 36 [(1, x0), (0, x1)] [] (if h 301 x0 0 ≤ x1 then (if h 300 x0 0 ≤ x1 then h else vup h 300 x0 0 (h 300 x0 0 - 1)) else vup (if h 300 x0 0 ≤ x1 then h else vup h 300 x0 0 (h 300 x0 0 - 1)) 301 x0 0 (h 301 x0 0 - 1)) := by
    refine (rn_icmp_le (t := 36) (pc := 23) (dd bX1_linesJoined dX1_linesJoined_23) rfl).trans ?_
    by_cases c2 : h 301 x0 0 ≤ x1
    · refine (if_pos c2).trans ?_
      refine Eq.trans (b := vrun mX1_linesJoined 36 [(1, x0), (0, x1)] [] (if h 300 x0 0 ≤ x1 then h else vup h 300 x0 0 (h 300 x0 0 - 1))) rfl ?_
      simp only [if_pos c2]
    · refine (if_neg c2).trans ?_
      refine (rn_aload_n (pc := 26) (dd bX1_linesJoined dX1_linesJoined_26) rfl).trans ?_
      refine (rn_dup (pc := 27) (dd bX1_linesJoined dX1_linesJoined_27) (by decide)).trans ?_
      refine (rg_gf (pc := 28) (dd bX1_linesJoined dX1_linesJoined_28) (ci := 2) (j := 1) rfl rfl (key := 301) rfl (kc := 22) rfl (ite_rd s1 ((vup_k (by decide)).trans s1)) (ite_rd rfl ((vup_k (by decide)).trans rfl))).trans ?_
      refine (rn_iconst (pc := 31) (dd bX1_linesJoined dX1_linesJoined_31) (by decide)).trans ?_
      refine (rg_isub (pc := 32) (dd bX1_linesJoined dX1_linesJoined_32) (p4 c2) (p5 c2)).trans ?_
      refine (rg_pf (pc := 33) (dd bX1_linesJoined dX1_linesJoined_33) (ci := 2) (j := 1) rfl (key := 301) rfl (kc := 22) rfl (ite_rd s1 ((vup_k (by decide)).trans s1)) rfl (by intro z; cases z) (by decide)).trans ?_
      refine Eq.trans (b := vrun mX1_linesJoined 36 [(1, x0), (0, x1)] [] (vup (if h 300 x0 0 ≤ x1 then h else vup h 300 x0 0 (h 300 x0 0 - 1)) 301 x0 0 (h 301 x0 0 - 1))) rfl ?_
      simp only [if_neg c2]
  refine e2.trans ?_
  exact rn_return (pc := 36) (dd bX1_linesJoined dX1_linesJoined_36) rfl
theorem bX1_hides : vmB mX1_hides = cX1_hides := rfl
theorem rX1_hides_0 {x0 : Int} {x1 : Int} {h : vH} (s1 : shFold h x0) : vrun mX1_hides 0 [(1, x0), (0, x1)] [] h = some (.inl (some (0, (if ¬ (h 302 x0 0 = 0) ∧ ¬ (x1 ≤ h 300 x0 0) ∧ ¬ (h 301 x0 0 < x1) then 1 else 0))), h) := by
  refine (rn_aload_n (pc := 0) (dd bX1_hides dX1_hides_0) rfl).trans ?_
  refine (rg_gf (pc := 1) (dd bX1_hides dX1_hides_1) (ci := 2) (j := 2) rfl rfl (key := 302) rfl (kc := 22) rfl s1 rfl).trans ?_
  have e3 : vrun mX1_hides 4 [(1, x0), (0, x1)] [(0, h 302 x0 0)] h = vrun mX1_hides 28 [(1, x0), (0, x1)] [(0, (if ¬ (h 302 x0 0 = 0) ∧ ¬ (x1 ≤ h 300 x0 0) ∧ ¬ (h 301 x0 0 < x1) then 1 else 0))] h := by
    refine (rn_if_eq (t := 27) (pc := 4) (dd bX1_hides dX1_hides_4) rfl).trans ?_
    by_cases c1 : h 302 x0 0 = 0
    · refine (if_pos c1).trans ?_
      refine (rn_iconst (pc := 27) (dd bX1_hides dX1_hides_27) (by decide)).trans ?_
      refine Eq.trans (b := vrun mX1_hides 28 [(1, x0), (0, x1)] [(0, 0)] h) rfl ?_
      simp only [c1, true_or, false_or, or_true, or_false, true_and, false_and, and_true, and_false, not_true_eq_false, not_false_eq_true, ne_eq, if_true, if_false, ↓reduceIte]
    · refine (if_neg c1).trans ?_
      refine (rn_iload_n (pc := 7) (dd bX1_hides dX1_hides_7) rfl).trans ?_
      refine (rn_aload_n (pc := 8) (dd bX1_hides dX1_hides_8) rfl).trans ?_
      refine (rg_gf (pc := 9) (dd bX1_hides dX1_hides_9) (ci := 2) (j := 0) rfl rfl (key := 300) rfl (kc := 22) rfl s1 rfl).trans ?_
      have e2 : vrun mX1_hides 12 [(1, x0), (0, x1)] [(0, h 300 x0 0), (0, x1)] h = vrun mX1_hides 28 [(1, x0), (0, x1)] [(0, (if ¬ (x1 ≤ h 300 x0 0) ∧ ¬ (h 301 x0 0 < x1) then 1 else 0))] h := by
        refine (rn_icmp_le (t := 27) (pc := 12) (dd bX1_hides dX1_hides_12) rfl).trans ?_
        by_cases c2 : x1 ≤ h 300 x0 0
        · refine (if_pos c2).trans ?_
          refine (rn_iconst (pc := 27) (dd bX1_hides dX1_hides_27) (by decide)).trans ?_
          refine Eq.trans (b := vrun mX1_hides 28 [(1, x0), (0, x1)] [(0, 0)] h) rfl ?_
          simp only [c2, true_or, false_or, or_true, or_false, true_and, false_and, and_true, and_false, not_true_eq_false, not_false_eq_true, ne_eq, if_true, if_false, ↓reduceIte]
        · refine (if_neg c2).trans ?_
          refine (rn_iload_n (pc := 15) (dd bX1_hides dX1_hides_15) rfl).trans ?_
          refine (rn_aload_n (pc := 16) (dd bX1_hides dX1_hides_16) rfl).trans ?_
          refine (rg_gf (pc := 17) (dd bX1_hides dX1_hides_17) (ci := 2) (j := 1) rfl rfl (key := 301) rfl (kc := 22) rfl s1 rfl).trans ?_
          have e1 : vrun mX1_hides 20 [(1, x0), (0, x1)] [(0, h 301 x0 0), (0, x1)] h = vrun mX1_hides 28 [(1, x0), (0, x1)] [(0, (if ¬ (h 301 x0 0 < x1) then 1 else 0))] h := by
            refine (rn_icmp_gt (t := 27) (pc := 20) (dd bX1_hides dX1_hides_20) rfl).trans ?_
            by_cases c3 : h 301 x0 0 < x1
            · refine (if_pos c3).trans ?_
              refine (rn_iconst (pc := 27) (dd bX1_hides dX1_hides_27) (by decide)).trans ?_
              refine Eq.trans (b := vrun mX1_hides 28 [(1, x0), (0, x1)] [(0, 0)] h) rfl ?_
              simp only [c3, true_or, false_or, or_true, or_false, true_and, false_and, and_true, and_false, not_true_eq_false, not_false_eq_true, ne_eq, if_true, if_false, ↓reduceIte]
            · refine (if_neg c3).trans ?_
              refine (rn_iconst (pc := 23) (dd bX1_hides dX1_hides_23) (by decide)).trans ?_
              refine (rn_goto (t := 28) (pc := 24) (dd bX1_hides dX1_hides_24) rfl).trans ?_
              refine Eq.trans (b := vrun mX1_hides 28 [(1, x0), (0, x1)] [(0, 1)] h) rfl ?_
              simp only [c3, true_or, false_or, or_true, or_false, true_and, false_and, and_true, and_false, not_true_eq_false, not_false_eq_true, ne_eq, if_true, if_false, ↓reduceIte]
          refine e1.trans ?_
          refine Eq.trans (b := vrun mX1_hides 28 [(1, x0), (0, x1)] [(0, (if ¬ (h 301 x0 0 < x1) then 1 else 0))] h) rfl ?_
          simp only [c2, true_or, false_or, or_true, or_false, true_and, false_and, and_true, and_false, not_true_eq_false, not_false_eq_true, ne_eq, if_true, if_false, ↓reduceIte]
      refine e2.trans ?_
      refine Eq.trans (b := vrun mX1_hides 28 [(1, x0), (0, x1)] [(0, (if ¬ (x1 ≤ h 300 x0 0) ∧ ¬ (h 301 x0 0 < x1) then 1 else 0))] h) rfl ?_
      simp only [c1, true_or, false_or, or_true, or_false, true_and, false_and, and_true, and_false, not_true_eq_false, not_false_eq_true, ne_eq, if_true, if_false, ↓reduceIte]
  refine e3.trans ?_
  exact rn_ireturn (pc := 28) (dd bX1_hides dX1_hides_28) (Or.inr ⟨rfl, b01⟩)
def fX1_hides (h : vH) (x0 : Int) (x1 : Int) : Int := (if ¬ (h 302 x0 0 = 0) ∧ ¬ (x1 ≤ h 300 x0 0) ∧ ¬ (h 301 x0 0 < x1) then 1 else 0)
theorem spX1_hides {x0 : Int} {x1 : Int} {h : vH} (s1 : shFold h x0) : vcl mX1_hides [(1, x0), (0, x1)] h = some (.inl (some (0, fX1_hides h x0 x1)), h) := by
  refine (show _ = _ from rX1_hides_0 s1).trans ?_
  rfl

