theorem bX11_isText : vmB mX11_isText = cX11_isText := rfl
theorem rX11_isText_0 {x0 : Int} {h : vH} : vrun mX11_isText 0 [(2, x0), (8, 0), (9, 0), (9, 0), (9, 0), (9, 0), (9, 0)] [] h = vrun mX11_isText 5 [(2, x0), (8, 0), (2, x0), (8, 0), (0, 0), (9, 0), (9, 0)] [] h := by
  refine (rn_lload_n (pc := 0) (dd bX11_isText dX11_isText_0) rfl).trans ?_
  refine (rn_lstore_n (pc := 1) (dd bX11_isText dX11_isText_1) (Nat.le_of_ble_eq_true rfl) rfl).trans ?_
  refine (rn_iconst (pc := 2) (dd bX11_isText dX11_isText_2) (by decide)).trans ?_
  refine (rn_istore (pc := 3) (dd bX11_isText dX11_isText_3) (Nat.le_of_ble_eq_true rfl) rfl).trans ?_
  rfl
theorem rX11_isText_5 {x0 : Int} {x2 : Int} {x4 : Int} {v5 : vv} {v6 : vv} {h : vH} (p1 : ¬ (8 ≤ x4) → ¬ (blcmp x2 0 = 0) → ¬ (blcmp (bland x2 255) 32 < 0) → blcmp (bland x2 255) 125 ≤ 0 → (-2147483648) ≤ x4 + 1) : vrun mX11_isText 5 [(2, x0), (8, 0), (2, x2), (8, 0), (0, x4), v5, v6] [] h = if 8 ≤ x4 then some (.inl (some (0, (if ¬ (blcmp x0 0 = 0) then 1 else 0))), h) else if blcmp x2 0 = 0 then some (.inl (some (0, (if ¬ (blcmp x0 0 = 0) then 1 else 0))), h) else if blcmp (bland x2 255) 32 < 0 then some (.inl (some (0, 0)), h) else if blcmp (bland x2 255) 125 ≤ 0 then vrun mX11_isText 5 [(2, x0), (8, 0), (2, blushr x2 8), (8, 0), (0, x4 + 1), (2, bland x2 255), (8, 0)] [] h else some (.inl (some (0, 0)), h) := by
  refine (rn_iload (pc := 5) (dd bX11_isText dX11_isText_5) rfl).trans ?_
  refine (rn_bipush (pc := 7) (dd bX11_isText dX11_isText_7) (by decide)).trans ?_
  refine (rn_icmp_ge (t := 56) (pc := 9) (dd bX11_isText dX11_isText_9) rfl).trans (itec (fun c1 => ?_) (fun c1 => ?_))
  · refine (rn_lload_n (pc := 56) (dd bX11_isText dX11_isText_56) rfl).trans ?_
    refine (rn_lconst (pc := 57) (dd bX11_isText dX11_isText_57)).trans ?_
    refine (rg_lcmp (pc := 58) (dd bX11_isText dX11_isText_58)).trans ?_
    have e1 : vrun mX11_isText 59 [(2, x0), (8, 0), (2, x2), (8, 0), (0, x4), v5, v6] [(0, blcmp x0 0)] h = vrun mX11_isText 67 [(2, x0), (8, 0), (2, x2), (8, 0), (0, x4), v5, v6] [(0, (if ¬ (blcmp x0 0 = 0) then 1 else 0))] h := by
      refine (rn_if_eq (t := 66) (pc := 59) (dd bX11_isText dX11_isText_59) rfl).trans ?_
      by_cases c2 : blcmp x0 0 = 0
      · refine (if_pos c2).trans ?_
        refine (rn_iconst (pc := 66) (dd bX11_isText dX11_isText_66) (by decide)).trans ?_
        refine Eq.trans (b := vrun mX11_isText 67 [(2, x0), (8, 0), (2, x2), (8, 0), (0, x4), v5, v6] [(0, 0)] h) rfl ?_
        simp only [c2, true_or, false_or, or_true, or_false, true_and, false_and, and_true, and_false, not_true_eq_false, not_false_eq_true, ne_eq, if_true, if_false, ↓reduceIte]
      · refine (if_neg c2).trans ?_
        refine (rn_iconst (pc := 62) (dd bX11_isText dX11_isText_62) (by decide)).trans ?_
        refine (rn_goto (t := 67) (pc := 63) (dd bX11_isText dX11_isText_63) rfl).trans ?_
        refine Eq.trans (b := vrun mX11_isText 67 [(2, x0), (8, 0), (2, x2), (8, 0), (0, x4), v5, v6] [(0, 1)] h) rfl ?_
        simp only [c2, true_or, false_or, or_true, or_false, true_and, false_and, and_true, and_false, not_true_eq_false, not_false_eq_true, ne_eq, if_true, if_false, ↓reduceIte]
    refine e1.trans ?_
    exact rn_ireturn (pc := 67) (dd bX11_isText dX11_isText_67) (Or.inr ⟨rfl, b01⟩)
  · refine (rn_lload_n (pc := 12) (dd bX11_isText dX11_isText_12) rfl).trans ?_
    refine (rn_lconst (pc := 13) (dd bX11_isText dX11_isText_13)).trans ?_
    refine (rg_lcmp (pc := 14) (dd bX11_isText dX11_isText_14)).trans ?_
    refine (rn_if_eq (t := 56) (pc := 15) (dd bX11_isText dX11_isText_15) rfl).trans (itec (fun c3 => ?_) (fun c3 => ?_))
    · refine (rn_lload_n (pc := 56) (dd bX11_isText dX11_isText_56) rfl).trans ?_
      refine (rn_lconst (pc := 57) (dd bX11_isText dX11_isText_57)).trans ?_
      refine (rg_lcmp (pc := 58) (dd bX11_isText dX11_isText_58)).trans ?_
      have e2 : vrun mX11_isText 59 [(2, x0), (8, 0), (2, x2), (8, 0), (0, x4), v5, v6] [(0, blcmp x0 0)] h = vrun mX11_isText 67 [(2, x0), (8, 0), (2, x2), (8, 0), (0, x4), v5, v6] [(0, (if ¬ (blcmp x0 0 = 0) then 1 else 0))] h := by
        refine (rn_if_eq (t := 66) (pc := 59) (dd bX11_isText dX11_isText_59) rfl).trans ?_
        by_cases c4 : blcmp x0 0 = 0
        · refine (if_pos c4).trans ?_
          refine (rn_iconst (pc := 66) (dd bX11_isText dX11_isText_66) (by decide)).trans ?_
          refine Eq.trans (b := vrun mX11_isText 67 [(2, x0), (8, 0), (2, x2), (8, 0), (0, x4), v5, v6] [(0, 0)] h) rfl ?_
          simp only [c4, true_or, false_or, or_true, or_false, true_and, false_and, and_true, and_false, not_true_eq_false, not_false_eq_true, ne_eq, if_true, if_false, ↓reduceIte]
        · refine (if_neg c4).trans ?_
          refine (rn_iconst (pc := 62) (dd bX11_isText dX11_isText_62) (by decide)).trans ?_
          refine (rn_goto (t := 67) (pc := 63) (dd bX11_isText dX11_isText_63) rfl).trans ?_
          refine Eq.trans (b := vrun mX11_isText 67 [(2, x0), (8, 0), (2, x2), (8, 0), (0, x4), v5, v6] [(0, 1)] h) rfl ?_
          simp only [c4, true_or, false_or, or_true, or_false, true_and, false_and, and_true, and_false, not_true_eq_false, not_false_eq_true, ne_eq, if_true, if_false, ↓reduceIte]
      refine e2.trans ?_
      exact rn_ireturn (pc := 67) (dd bX11_isText dX11_isText_67) (Or.inr ⟨rfl, b01⟩)
    · refine (rn_lload_n (pc := 18) (dd bX11_isText dX11_isText_18) rfl).trans ?_
      refine (rn_ldc2_w (pc := 19) (dd bX11_isText dX11_isText_19) (z := 255) rfl).trans ?_
      refine (rg_land (pc := 22) (dd bX11_isText dX11_isText_22)).trans ?_
      refine (rn_lstore (pc := 23) (dd bX11_isText dX11_isText_23) (Nat.le_of_ble_eq_true rfl) rfl).trans ?_
      refine (rn_lload (pc := 25) (dd bX11_isText dX11_isText_25) rfl).trans ?_
      refine (rn_ldc2_w (pc := 27) (dd bX11_isText dX11_isText_27) (z := 32) rfl).trans ?_
      refine (rg_lcmp (pc := 30) (dd bX11_isText dX11_isText_30)).trans ?_
      refine (rn_if_lt (t := 43) (pc := 31) (dd bX11_isText dX11_isText_31) rfl).trans (itec (fun c5 => ?_) (fun c5 => ?_))
      · refine (rn_iconst (pc := 43) (dd bX11_isText dX11_isText_43) (by decide)).trans ?_
        exact rn_ireturn (pc := 44) (dd bX11_isText dX11_isText_44) (Or.inr ⟨rfl, (by decide)⟩)
      · refine (rn_lload (pc := 34) (dd bX11_isText dX11_isText_34) rfl).trans ?_
        refine (rn_ldc2_w (pc := 36) (dd bX11_isText dX11_isText_36) (z := 125) rfl).trans ?_
        refine (rg_lcmp (pc := 39) (dd bX11_isText dX11_isText_39)).trans ?_
        refine (rn_if_le (t := 45) (pc := 40) (dd bX11_isText dX11_isText_40) rfl).trans (itec (fun c6 => ?_) (fun c6 => ?_))
        · refine (rn_lload_n (pc := 45) (dd bX11_isText dX11_isText_45) rfl).trans ?_
          refine (rn_bipush (pc := 46) (dd bX11_isText dX11_isText_46) (by decide)).trans ?_
          refine (rg_lushr (pc := 48) (dd bX11_isText dX11_isText_48)).trans ?_
          refine (rn_lstore_n (pc := 49) (dd bX11_isText dX11_isText_49) (Nat.le_of_ble_eq_true rfl) rfl).trans ?_
          refine (rg_iinc (pc := 50) (dd bX11_isText dX11_isText_50) rfl (Nat.le_of_ble_eq_true rfl) (p1 c1 c3 c5 c6) (by have z0 := p1 c1 c3 c5 c6; omega) rfl).trans ?_
          refine (rn_goto (t := 5) (pc := 53) (dd bX11_isText dX11_isText_53) rfl).trans ?_
          rfl
        · refine (rn_iconst (pc := 43) (dd bX11_isText dX11_isText_43) (by decide)).trans ?_
          exact rn_ireturn (pc := 44) (dd bX11_isText dX11_isText_44) (Or.inr ⟨rfl, (by decide)⟩)
theorem bX11_signAt : vmB mX11_signAt = cX11_signAt := rfl
theorem rX11_signAt_0 {x0 : Int} {x1 : Int} {h : vH} (s1 : shVirtual h x0) (p2 : (-2147483648) ≤ x1 * 8) (p3 : x1 * 8 < 2147483648) : vrun mX11_signAt 0 [(1, x0), (0, x1)] [] h = some (.inl (some (0, biand (w32 (blushr (h 1301 x0 0) (x1 * 8))) 255)), h) := by
  refine (rn_aload_n (pc := 0) (dd bX11_signAt dX11_signAt_0) rfl).trans ?_
  refine (rg_gf (pc := 1) (dd bX11_signAt dX11_signAt_1) (ci := 12) (j := 1) rfl rfl (key := 1301) rfl (kc := 32) rfl s1.1 rfl).trans ?_
  refine (rn_iload_n (pc := 4) (dd bX11_signAt dX11_signAt_4) rfl).trans ?_
  refine (rn_bipush (pc := 5) (dd bX11_signAt dX11_signAt_5) (by decide)).trans ?_
  refine (rg_imul (pc := 7) (dd bX11_signAt dX11_signAt_7) p2 p3).trans ?_
  refine (rg_lushr (pc := 8) (dd bX11_signAt dX11_signAt_8)).trans ?_
  refine (rn_l2i (pc := 9) (dd bX11_signAt dX11_signAt_9)).trans ?_
  refine (rn_sipush (pc := 10) (dd bX11_signAt dX11_signAt_10) (by decide)).trans ?_
  refine (rg_iand (pc := 13) (dd bX11_signAt dX11_signAt_13)).trans ?_
  exact rn_ireturn (pc := 14) (dd bX11_signAt dX11_signAt_14) (Or.inl rfl)
def fX11_signAt (h : vH) (x0 : Int) (x1 : Int) : Int := biand (w32 (blushr (h 1301 x0 0) (x1 * 8))) 255
theorem spX11_signAt {x0 : Int} {x1 : Int} {h : vH} (s1 : shVirtual h x0) (p2 : (-2147483648) ≤ x1 * 8) (p3 : x1 * 8 < 2147483648) : vcl mX11_signAt [(1, x0), (0, x1)] h = some (.inl (some (0, fX11_signAt h x0 x1)), h) := by
  refine (show _ = _ from rX11_signAt_0 s1 p2 p3).trans ?_
  rfl

