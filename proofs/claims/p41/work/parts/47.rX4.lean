theorem bX4_signAt : vmB mX4_signAt = cX4_signAt := rfl
theorem rX4_signAt_0 {x0 : Int} {x1 : Int} {h : vH} (s1 : shLine h x0) : vrun mX4_signAt 0 [(1, x0), (0, x1)] [] h = some (.inl (some (0, (if x1 < 0 then (-1) else (if h 601 x0 0 ≤ x1 then (-1) else (if 80 ≤ x1 then (-1) else h 2 (x0 + 1) x1))))), h) := by
  refine (rn_iload_n (pc := 0) (dd bX4_signAt dX4_signAt_0) rfl).trans ?_
  have e3 : vrun mX4_signAt 1 [(1, x0), (0, x1)] [(0, x1)] h = vrun mX4_signAt 28 [(1, x0), (0, x1)] [(0, (if x1 < 0 then (-1) else (if h 601 x0 0 ≤ x1 then (-1) else (if 80 ≤ x1 then (-1) else h 2 (x0 + 1) x1))))] h := by
    refine (rn_if_lt (t := 27) (pc := 1) (dd bX4_signAt dX4_signAt_1) rfl).trans ?_
    by_cases c1 : x1 < 0
    · refine (if_pos c1).trans ?_
      refine (rn_iconst (pc := 27) (dd bX4_signAt dX4_signAt_27) (by decide)).trans ?_
      refine Eq.trans (b := vrun mX4_signAt 28 [(1, x0), (0, x1)] [(0, (-1))] h) rfl ?_
      simp only [if_pos c1]
    · refine (if_neg c1).trans ?_
      refine (rn_iload_n (pc := 4) (dd bX4_signAt dX4_signAt_4) rfl).trans ?_
      refine (rn_aload_n (pc := 5) (dd bX4_signAt dX4_signAt_5) rfl).trans ?_
      refine (rg_gf (pc := 6) (dd bX4_signAt dX4_signAt_6) (ci := 5) (j := 1) rfl rfl (key := 601) rfl (kc := 25) rfl s1.1 rfl).trans ?_
      have e2 : vrun mX4_signAt 9 [(1, x0), (0, x1)] [(0, h 601 x0 0), (0, x1)] h = vrun mX4_signAt 28 [(1, x0), (0, x1)] [(0, (if h 601 x0 0 ≤ x1 then (-1) else (if 80 ≤ x1 then (-1) else h 2 (x0 + 1) x1)))] h := by
        refine (rn_icmp_ge (t := 27) (pc := 9) (dd bX4_signAt dX4_signAt_9) rfl).trans ?_
        by_cases c2 : h 601 x0 0 ≤ x1
        · refine (if_pos c2).trans ?_
          refine (rn_iconst (pc := 27) (dd bX4_signAt dX4_signAt_27) (by decide)).trans ?_
          refine Eq.trans (b := vrun mX4_signAt 28 [(1, x0), (0, x1)] [(0, (-1))] h) rfl ?_
          simp only [if_pos c2]
        · refine (if_neg c2).trans ?_
          refine (rn_iload_n (pc := 12) (dd bX4_signAt dX4_signAt_12) rfl).trans ?_
          refine (rn_bipush (pc := 13) (dd bX4_signAt dX4_signAt_13) (by decide)).trans ?_
          have e1 : vrun mX4_signAt 15 [(1, x0), (0, x1)] [(0, 80), (0, x1)] h = vrun mX4_signAt 28 [(1, x0), (0, x1)] [(0, (if 80 ≤ x1 then (-1) else h 2 (x0 + 1) x1))] h := by
            refine (rn_icmp_ge (t := 27) (pc := 15) (dd bX4_signAt dX4_signAt_15) rfl).trans ?_
            by_cases c3 : 80 ≤ x1
            · refine (if_pos c3).trans ?_
              refine (rn_iconst (pc := 27) (dd bX4_signAt dX4_signAt_27) (by decide)).trans ?_
              refine Eq.trans (b := vrun mX4_signAt 28 [(1, x0), (0, x1)] [(0, (-1))] h) rfl ?_
              simp only [if_pos c3]
            · refine (if_neg c3).trans ?_
              refine (rn_aload_n (pc := 18) (dd bX4_signAt dX4_signAt_18) rfl).trans ?_
              refine (rg_gf (pc := 19) (dd bX4_signAt dX4_signAt_19) (ci := 5) (j := 0) rfl rfl (key := 600) rfl (kc := 25) rfl s1.1 s1.2.1).trans ?_
              refine (rn_iload_n (pc := 22) (dd bX4_signAt dX4_signAt_22) rfl).trans ?_
              refine (rg_iaload (pc := 23) (dd bX4_signAt dX4_signAt_23) s1.2.2.1 s1.2.2.2 (Int.not_lt.mp c1) (Int.not_le.mp c3) rfl).trans ?_
              refine (rn_goto (t := 28) (pc := 24) (dd bX4_signAt dX4_signAt_24) rfl).trans ?_
              refine Eq.trans (b := vrun mX4_signAt 28 [(1, x0), (0, x1)] [(0, h 2 (x0 + 1) x1)] h) rfl ?_
              simp only [if_neg c3]
          refine e1.trans ?_
          refine Eq.trans (b := vrun mX4_signAt 28 [(1, x0), (0, x1)] [(0, (if 80 ≤ x1 then (-1) else h 2 (x0 + 1) x1))] h) rfl ?_
          simp only [if_neg c2]
      refine e2.trans ?_
      refine Eq.trans (b := vrun mX4_signAt 28 [(1, x0), (0, x1)] [(0, (if h 601 x0 0 ≤ x1 then (-1) else (if 80 ≤ x1 then (-1) else h 2 (x0 + 1) x1)))] h) rfl ?_
      simp only [if_neg c1]
  refine e3.trans ?_
  exact rn_ireturn (pc := 28) (dd bX4_signAt dX4_signAt_28) (Or.inl rfl)
def fX4_signAt (h : vH) (x0 : Int) (x1 : Int) : Int := (if x1 < 0 then (-1) else (if h 601 x0 0 ≤ x1 then (-1) else (if 80 ≤ x1 then (-1) else h 2 (x0 + 1) x1)))
theorem spX4_signAt {x0 : Int} {x1 : Int} {h : vH} (s1 : shLine h x0) : vcl mX4_signAt [(1, x0), (0, x1)] h = some (.inl (some (0, fX4_signAt h x0 x1)), h) := by
  refine (show _ = _ from rX4_signAt_0 s1).trans ?_
  rfl
theorem bX4_putIn : vmB mX4_putIn = cX4_putIn := rfl
theorem rX4_putIn_0 {x0 : Int} {x1 : Int} {x2 : Int} {h : vH} (s1 : shLine h x0) (p2 : ¬ (x1 < 0) → ¬ (h 601 x0 0 < x1) → h 601 x0 0 < 80 → x1 + 1 < 2147483648) (p3 : ¬ (x1 < 0) → ¬ (h 601 x0 0 < x1) → h 601 x0 0 < 80 → (-2147483648) ≤ h 601 x0 0 - x1) (p4 : ¬ (x1 < 0) → ¬ (h 601 x0 0 < x1) → h 601 x0 0 < 80 → 0 ≤ h 601 x0 0 - x1) (p5 : ¬ (x1 < 0) → ¬ (h 601 x0 0 < x1) → h 601 x0 0 < 80 → x1 + (h 601 x0 0 - x1) ≤ 80) (p6 : ¬ (x1 < 0) → ¬ (h 601 x0 0 < x1) → h 601 x0 0 < 80 → x1 + 1 + (h 601 x0 0 - x1) ≤ 80) (p7 : ¬ (x1 < 0) → ¬ (h 601 x0 0 < x1) → h 601 x0 0 < 80 → x1 < 80) (p8 : ¬ (x1 < 0) → ¬ (h 601 x0 0 < x1) → h 601 x0 0 < 80 → (-2147483648) ≤ h 601 x0 0 + 1) : vrun mX4_putIn 0 [(1, x0), (0, x1), (0, x2)] [] h = if x1 < 0 then some (.inl none, h) else if h 601 x0 0 < x1 then some (.inl none, h) else if h 601 x0 0 < 80 then some (.inl none, vup (vup (vcp h (x0 + 1) x1 (x0 + 1) (x1 + 1) (h 601 x0 0 - x1)) 2 (x0 + 1) x1 x2) 601 x0 0 (h 601 x0 0 + 1)) else some (.inl none, h) := by
  refine (rn_iload_n (pc := 0) (dd bX4_putIn dX4_putIn_0) rfl).trans ?_
  refine (rn_if_lt (t := 21) (pc := 1) (dd bX4_putIn dX4_putIn_1) rfl).trans (itec (fun c1 => ?_) (fun c1 => ?_))
  · exact rn_return (pc := 21) (dd bX4_putIn dX4_putIn_21) rfl
  · refine (rn_iload_n (pc := 4) (dd bX4_putIn dX4_putIn_4) rfl).trans ?_
    refine (rn_aload_n (pc := 5) (dd bX4_putIn dX4_putIn_5) rfl).trans ?_
    refine (rg_gf (pc := 6) (dd bX4_putIn dX4_putIn_6) (ci := 5) (j := 1) rfl rfl (key := 601) rfl (kc := 25) rfl s1.1 rfl).trans ?_
    refine (rn_icmp_gt (t := 21) (pc := 9) (dd bX4_putIn dX4_putIn_9) rfl).trans (itec (fun c2 => ?_) (fun c2 => ?_))
    · exact rn_return (pc := 21) (dd bX4_putIn dX4_putIn_21) rfl
    · refine (rn_aload_n (pc := 12) (dd bX4_putIn dX4_putIn_12) rfl).trans ?_
      refine (rg_gf (pc := 13) (dd bX4_putIn dX4_putIn_13) (ci := 5) (j := 1) rfl rfl (key := 601) rfl (kc := 25) rfl s1.1 rfl).trans ?_
      refine (rn_bipush (pc := 16) (dd bX4_putIn dX4_putIn_16) (by decide)).trans ?_
      refine (rn_icmp_lt (t := 22) (pc := 18) (dd bX4_putIn dX4_putIn_18) rfl).trans (itec (fun c3 => ?_) (fun c3 => ?_))
      · refine (rn_aload_n (pc := 22) (dd bX4_putIn dX4_putIn_22) rfl).trans ?_
        refine (rg_gf (pc := 23) (dd bX4_putIn dX4_putIn_23) (ci := 5) (j := 0) rfl rfl (key := 600) rfl (kc := 25) rfl s1.1 s1.2.1).trans ?_
        refine (rn_iload_n (pc := 26) (dd bX4_putIn dX4_putIn_26) rfl).trans ?_
        refine (rn_aload_n (pc := 27) (dd bX4_putIn dX4_putIn_27) rfl).trans ?_
        refine (rg_gf (pc := 28) (dd bX4_putIn dX4_putIn_28) (ci := 5) (j := 0) rfl rfl (key := 600) rfl (kc := 25) rfl s1.1 s1.2.1).trans ?_
        refine (rn_iload_n (pc := 31) (dd bX4_putIn dX4_putIn_31) rfl).trans ?_
        refine (rn_iconst (pc := 32) (dd bX4_putIn dX4_putIn_32) (by decide)).trans ?_
        refine (rg_iadd (pc := 33) (dd bX4_putIn dX4_putIn_33) (by omega) (p2 c1 c2 c3)).trans ?_
        refine (rn_aload_n (pc := 34) (dd bX4_putIn dX4_putIn_34) rfl).trans ?_
        refine (rg_gf (pc := 35) (dd bX4_putIn dX4_putIn_35) (ci := 5) (j := 1) rfl rfl (key := 601) rfl (kc := 25) rfl s1.1 rfl).trans ?_
        refine (rn_iload_n (pc := 38) (dd bX4_putIn dX4_putIn_38) rfl).trans ?_
        refine (rg_isub (pc := 39) (dd bX4_putIn dX4_putIn_39) (p3 c1 c2 c3) (by have z0 := p3 c1 c2 c3; omega)).trans ?_
        refine (rg_copy1 (pc := 40) (dd bX4_putIn dX4_putIn_40) rfl s1.2.2.1 s1.2.2.2 s1.2.2.1 s1.2.2.2 (p4 c1 c2 c3) (Int.not_lt.mp c1) (by have z0 := p2 c1 c2 c3; omega) (p5 c1 c2 c3) (p6 c1 c2 c3) ⟨Nat.le_of_ble_eq_true rfl, Nat.le_of_ble_eq_true rfl, Nat.le_of_ble_eq_true rfl⟩).trans ?_
        refine (rn_aload_n (pc := 43) (dd bX4_putIn dX4_putIn_43) rfl).trans ?_
        refine (rg_gf (pc := 44) (dd bX4_putIn dX4_putIn_44) (ci := 5) (j := 0) rfl rfl (key := 600) rfl (kc := 25) rfl ((vcp_k (by decide)).trans s1.1) ((vcp_k (by decide)).trans s1.2.1)).trans ?_
        refine (rn_iload_n (pc := 47) (dd bX4_putIn dX4_putIn_47) rfl).trans ?_
        refine (rn_iload_n (pc := 48) (dd bX4_putIn dX4_putIn_48) rfl).trans ?_
        refine (rg_iastore (pc := 49) (dd bX4_putIn dX4_putIn_49) ((vcp_k (by decide)).trans s1.2.2.1) ((vcp_k (by decide)).trans s1.2.2.2) (Int.not_lt.mp c1) (p7 c1 c2 c3)).trans ?_
        refine (rn_aload_n (pc := 50) (dd bX4_putIn dX4_putIn_50) rfl).trans ?_
        refine (rn_dup (pc := 51) (dd bX4_putIn dX4_putIn_51) (by decide)).trans ?_
        refine (rg_gf (pc := 52) (dd bX4_putIn dX4_putIn_52) (ci := 5) (j := 1) rfl rfl (key := 601) rfl (kc := 25) rfl ((vup_k (by decide)).trans ((vcp_k (by decide)).trans s1.1)) ((vup_k (by decide)).trans ((vcp_k (by decide)).trans rfl))).trans ?_
        refine (rn_iconst (pc := 55) (dd bX4_putIn dX4_putIn_55) (by decide)).trans ?_
        refine (rg_iadd (pc := 56) (dd bX4_putIn dX4_putIn_56) (p8 c1 c2 c3) (by have z0 := p8 c1 c2 c3; omega)).trans ?_
        refine (rg_pf (pc := 57) (dd bX4_putIn dX4_putIn_57) (ci := 5) (j := 1) rfl (key := 601) rfl (kc := 25) rfl ((vup_k (by decide)).trans ((vcp_k (by decide)).trans s1.1)) rfl (by intro z; cases z) (by decide)).trans ?_
        exact rn_return (pc := 60) (dd bX4_putIn dX4_putIn_60) rfl
      · exact rn_return (pc := 21) (dd bX4_putIn dX4_putIn_21) rfl
theorem bX4_takeOut : vmB mX4_takeOut = cX4_takeOut := rfl
theorem rX4_takeOut_0 {x0 : Int} {x1 : Int} {x2 : Int} {h : vH} (s1 : shLine h x0) (p2 : ¬ (x1 < 0) → ¬ (x2 ≤ x1) → x2 ≤ h 601 x0 0 → (-2147483648) ≤ h 601 x0 0 - x2) (p3 : ¬ (x1 < 0) → ¬ (x2 ≤ x1) → x2 ≤ h 601 x0 0 → h 601 x0 0 - x2 < 2147483648) (p4 : ¬ (x1 < 0) → ¬ (x2 ≤ x1) → x2 ≤ h 601 x0 0 → 0 ≤ h 601 x0 0 - x2) (p5 : ¬ (x1 < 0) → ¬ (x2 ≤ x1) → x2 ≤ h 601 x0 0 → 0 ≤ x2) (p6 : ¬ (x1 < 0) → ¬ (x2 ≤ x1) → x2 ≤ h 601 x0 0 → x2 + (h 601 x0 0 - x2) ≤ 80) (p7 : ¬ (x1 < 0) → ¬ (x2 ≤ x1) → x2 ≤ h 601 x0 0 → x1 + (h 601 x0 0 - x2) ≤ 80) (p8 : ¬ (x1 < 0) → ¬ (x2 ≤ x1) → x2 ≤ h 601 x0 0 → (-2147483648) ≤ x2 - x1) (p9 : ¬ (x1 < 0) → ¬ (x2 ≤ x1) → x2 ≤ h 601 x0 0 → x2 - x1 < 2147483648) (p10 : ¬ (x1 < 0) → ¬ (x2 ≤ x1) → x2 ≤ h 601 x0 0 → (-2147483648) ≤ h 601 x0 0 - (x2 - x1)) (p11 : ¬ (x1 < 0) → ¬ (x2 ≤ x1) → x2 ≤ h 601 x0 0 → h 601 x0 0 - (x2 - x1) < 2147483648) : vrun mX4_takeOut 0 [(1, x0), (0, x1), (0, x2)] [] h = if x1 < 0 then some (.inl none, h) else if x2 ≤ x1 then some (.inl none, h) else if x2 ≤ h 601 x0 0 then some (.inl none, vup (vcp h (x0 + 1) x2 (x0 + 1) x1 (h 601 x0 0 - x2)) 601 x0 0 (h 601 x0 0 - (x2 - x1))) else some (.inl none, h) := by
  refine (rn_iload_n (pc := 0) (dd bX4_takeOut dX4_takeOut_0) rfl).trans ?_
  refine (rn_if_lt (t := 17) (pc := 1) (dd bX4_takeOut dX4_takeOut_1) rfl).trans (itec (fun c1 => ?_) (fun c1 => ?_))
  · exact rn_return (pc := 17) (dd bX4_takeOut dX4_takeOut_17) rfl
  · refine (rn_iload_n (pc := 4) (dd bX4_takeOut dX4_takeOut_4) rfl).trans ?_
    refine (rn_iload_n (pc := 5) (dd bX4_takeOut dX4_takeOut_5) rfl).trans ?_
    refine (rn_icmp_ge (t := 17) (pc := 6) (dd bX4_takeOut dX4_takeOut_6) rfl).trans (itec (fun c2 => ?_) (fun c2 => ?_))
    · exact rn_return (pc := 17) (dd bX4_takeOut dX4_takeOut_17) rfl
    · refine (rn_iload_n (pc := 9) (dd bX4_takeOut dX4_takeOut_9) rfl).trans ?_
      refine (rn_aload_n (pc := 10) (dd bX4_takeOut dX4_takeOut_10) rfl).trans ?_
      refine (rg_gf (pc := 11) (dd bX4_takeOut dX4_takeOut_11) (ci := 5) (j := 1) rfl rfl (key := 601) rfl (kc := 25) rfl s1.1 rfl).trans ?_
      refine (rn_icmp_le (t := 18) (pc := 14) (dd bX4_takeOut dX4_takeOut_14) rfl).trans (itec (fun c3 => ?_) (fun c3 => ?_))
      · refine (rn_aload_n (pc := 18) (dd bX4_takeOut dX4_takeOut_18) rfl).trans ?_
        refine (rg_gf (pc := 19) (dd bX4_takeOut dX4_takeOut_19) (ci := 5) (j := 0) rfl rfl (key := 600) rfl (kc := 25) rfl s1.1 s1.2.1).trans ?_
        refine (rn_iload_n (pc := 22) (dd bX4_takeOut dX4_takeOut_22) rfl).trans ?_
        refine (rn_aload_n (pc := 23) (dd bX4_takeOut dX4_takeOut_23) rfl).trans ?_
        refine (rg_gf (pc := 24) (dd bX4_takeOut dX4_takeOut_24) (ci := 5) (j := 0) rfl rfl (key := 600) rfl (kc := 25) rfl s1.1 s1.2.1).trans ?_
        refine (rn_iload_n (pc := 27) (dd bX4_takeOut dX4_takeOut_27) rfl).trans ?_
        refine (rn_aload_n (pc := 28) (dd bX4_takeOut dX4_takeOut_28) rfl).trans ?_
        refine (rg_gf (pc := 29) (dd bX4_takeOut dX4_takeOut_29) (ci := 5) (j := 1) rfl rfl (key := 601) rfl (kc := 25) rfl s1.1 rfl).trans ?_
        refine (rn_iload_n (pc := 32) (dd bX4_takeOut dX4_takeOut_32) rfl).trans ?_
        refine (rg_isub (pc := 33) (dd bX4_takeOut dX4_takeOut_33) (p2 c1 c2 c3) (p3 c1 c2 c3)).trans ?_
        refine (rg_copy1 (pc := 34) (dd bX4_takeOut dX4_takeOut_34) rfl s1.2.2.1 s1.2.2.2 s1.2.2.1 s1.2.2.2 (p4 c1 c2 c3) (p5 c1 c2 c3) (Int.not_lt.mp c1) (p6 c1 c2 c3) (p7 c1 c2 c3) ⟨Nat.le_of_ble_eq_true rfl, Nat.le_of_ble_eq_true rfl, Nat.le_of_ble_eq_true rfl⟩).trans ?_
        refine (rn_aload_n (pc := 37) (dd bX4_takeOut dX4_takeOut_37) rfl).trans ?_
        refine (rn_dup (pc := 38) (dd bX4_takeOut dX4_takeOut_38) (by decide)).trans ?_
        refine (rg_gf (pc := 39) (dd bX4_takeOut dX4_takeOut_39) (ci := 5) (j := 1) rfl rfl (key := 601) rfl (kc := 25) rfl ((vcp_k (by decide)).trans s1.1) ((vcp_k (by decide)).trans rfl)).trans ?_
        refine (rn_iload_n (pc := 42) (dd bX4_takeOut dX4_takeOut_42) rfl).trans ?_
        refine (rn_iload_n (pc := 43) (dd bX4_takeOut dX4_takeOut_43) rfl).trans ?_
        refine (rg_isub (pc := 44) (dd bX4_takeOut dX4_takeOut_44) (p8 c1 c2 c3) (p9 c1 c2 c3)).trans ?_
        refine (rg_isub (pc := 45) (dd bX4_takeOut dX4_takeOut_45) (p10 c1 c2 c3) (p11 c1 c2 c3)).trans ?_
        refine (rg_pf (pc := 46) (dd bX4_takeOut dX4_takeOut_46) (ci := 5) (j := 1) rfl (key := 601) rfl (kc := 25) rfl ((vcp_k (by decide)).trans s1.1) rfl (by intro z; cases z) (by decide)).trans ?_
        exact rn_return (pc := 49) (dd bX4_takeOut dX4_takeOut_49) rfl
      · exact rn_return (pc := 17) (dd bX4_takeOut dX4_takeOut_17) rfl
theorem bX4_takeAllFrom : vmB mX4_takeAllFrom = cX4_takeAllFrom := rfl
theorem rX4_takeAllFrom_0 {x0 : Int} {x1 : Int} {x2 : Int} {h : vH} (s1 : shLine h x1) (p2 : (-2147483648) ≤ h 601 x1 0 - x2) (p3 : h 601 x1 0 - x2 < 2147483648) (s4 : shLine h x0) (p5 : ¬ (x2 < 0) → ¬ (h 601 x1 0 - x2 < 0) → (-2147483648) ≤ h 601 x0 0 + (h 601 x1 0 - x2)) (p6 : ¬ (x2 < 0) → ¬ (h 601 x1 0 - x2 < 0) → h 601 x0 0 + (h 601 x1 0 - x2) < 2147483648) (p7 : ¬ (x2 < 0) → ¬ (h 601 x1 0 - x2 < 0) → h 601 x0 0 + (h 601 x1 0 - x2) ≤ 80 → 0 ≤ h 601 x0 0) (p8 : ¬ (x2 < 0) → ¬ (h 601 x1 0 - x2 < 0) → h 601 x0 0 + (h 601 x1 0 - x2) ≤ 80 → x2 + (h 601 x1 0 - x2) ≤ 80) : vrun mX4_takeAllFrom 0 [(1, x0), (1, x1), (0, x2), (9, 0)] [] h = if x2 < 0 then some (.inl none, h) else if h 601 x1 0 - x2 < 0 then some (.inl none, h) else if h 601 x0 0 + (h 601 x1 0 - x2) ≤ 80 then some (.inl none, vup (vup (vcp h (x1 + 1) x2 (x0 + 1) (h 601 x0 0) (h 601 x1 0 - x2)) 601 x0 0 (h 601 x0 0 + (h 601 x1 0 - x2))) 601 x1 0 x2) else some (.inl none, h) := by
  refine (rn_aload_n (pc := 0) (dd bX4_takeAllFrom dX4_takeAllFrom_0) rfl).trans ?_
  refine (rg_gf (pc := 1) (dd bX4_takeAllFrom dX4_takeAllFrom_1) (ci := 5) (j := 1) rfl rfl (key := 601) rfl (kc := 25) rfl s1.1 rfl).trans ?_
  refine (rn_iload_n (pc := 4) (dd bX4_takeAllFrom dX4_takeAllFrom_4) rfl).trans ?_
  refine (rg_isub (pc := 5) (dd bX4_takeAllFrom dX4_takeAllFrom_5) p2 p3).trans ?_
  refine (rn_istore_n (pc := 6) (dd bX4_takeAllFrom dX4_takeAllFrom_6) (Nat.le_of_ble_eq_true rfl) rfl).trans ?_
  refine (rn_iload_n (pc := 7) (dd bX4_takeAllFrom dX4_takeAllFrom_7) rfl).trans ?_
  refine (rn_if_lt (t := 26) (pc := 8) (dd bX4_takeAllFrom dX4_takeAllFrom_8) rfl).trans (itec (fun c1 => ?_) (fun c1 => ?_))
  · exact rn_return (pc := 26) (dd bX4_takeAllFrom dX4_takeAllFrom_26) rfl
  · refine (rn_iload_n (pc := 11) (dd bX4_takeAllFrom dX4_takeAllFrom_11) rfl).trans ?_
    refine (rn_if_lt (t := 26) (pc := 12) (dd bX4_takeAllFrom dX4_takeAllFrom_12) rfl).trans (itec (fun c2 => ?_) (fun c2 => ?_))
    · exact rn_return (pc := 26) (dd bX4_takeAllFrom dX4_takeAllFrom_26) rfl
    · refine (rn_aload_n (pc := 15) (dd bX4_takeAllFrom dX4_takeAllFrom_15) rfl).trans ?_
      refine (rg_gf (pc := 16) (dd bX4_takeAllFrom dX4_takeAllFrom_16) (ci := 5) (j := 1) rfl rfl (key := 601) rfl (kc := 25) rfl s4.1 rfl).trans ?_
      refine (rn_iload_n (pc := 19) (dd bX4_takeAllFrom dX4_takeAllFrom_19) rfl).trans ?_
      refine (rg_iadd (pc := 20) (dd bX4_takeAllFrom dX4_takeAllFrom_20) (p5 c1 c2) (p6 c1 c2)).trans ?_
      refine (rn_bipush (pc := 21) (dd bX4_takeAllFrom dX4_takeAllFrom_21) (by decide)).trans ?_
      refine (rn_icmp_le (t := 27) (pc := 23) (dd bX4_takeAllFrom dX4_takeAllFrom_23) rfl).trans (itec (fun c3 => ?_) (fun c3 => ?_))
      · refine (rn_aload_n (pc := 27) (dd bX4_takeAllFrom dX4_takeAllFrom_27) rfl).trans ?_
        refine (rg_gf (pc := 28) (dd bX4_takeAllFrom dX4_takeAllFrom_28) (ci := 5) (j := 0) rfl rfl (key := 600) rfl (kc := 25) rfl s1.1 s1.2.1).trans ?_
        refine (rn_iload_n (pc := 31) (dd bX4_takeAllFrom dX4_takeAllFrom_31) rfl).trans ?_
        refine (rn_aload_n (pc := 32) (dd bX4_takeAllFrom dX4_takeAllFrom_32) rfl).trans ?_
        refine (rg_gf (pc := 33) (dd bX4_takeAllFrom dX4_takeAllFrom_33) (ci := 5) (j := 0) rfl rfl (key := 600) rfl (kc := 25) rfl s4.1 s4.2.1).trans ?_
        refine (rn_aload_n (pc := 36) (dd bX4_takeAllFrom dX4_takeAllFrom_36) rfl).trans ?_
        refine (rg_gf (pc := 37) (dd bX4_takeAllFrom dX4_takeAllFrom_37) (ci := 5) (j := 1) rfl rfl (key := 601) rfl (kc := 25) rfl s4.1 rfl).trans ?_
        refine (rn_iload_n (pc := 40) (dd bX4_takeAllFrom dX4_takeAllFrom_40) rfl).trans ?_
        refine (rg_copy1 (pc := 41) (dd bX4_takeAllFrom dX4_takeAllFrom_41) rfl s1.2.2.1 s1.2.2.2 s4.2.2.1 s4.2.2.2 (Int.not_lt.mp c2) (Int.not_lt.mp c1) (p7 c1 c2 c3) (p8 c1 c2 c3) c3 ⟨Nat.le_of_ble_eq_true rfl, Nat.le_of_ble_eq_true rfl, Nat.le_of_ble_eq_true rfl⟩).trans ?_
        refine (rn_aload_n (pc := 44) (dd bX4_takeAllFrom dX4_takeAllFrom_44) rfl).trans ?_
        refine (rn_dup (pc := 45) (dd bX4_takeAllFrom dX4_takeAllFrom_45) (by decide)).trans ?_
        refine (rg_gf (pc := 46) (dd bX4_takeAllFrom dX4_takeAllFrom_46) (ci := 5) (j := 1) rfl rfl (key := 601) rfl (kc := 25) rfl ((vcp_k (by decide)).trans s4.1) ((vcp_k (by decide)).trans rfl)).trans ?_
        refine (rn_iload_n (pc := 49) (dd bX4_takeAllFrom dX4_takeAllFrom_49) rfl).trans ?_
        refine (rg_iadd (pc := 50) (dd bX4_takeAllFrom dX4_takeAllFrom_50) (by have z0 := p7 c1 c2 c3; omega) (by have z0 := p7 c1 c2 c3; omega)).trans ?_
        refine (rg_pf (pc := 51) (dd bX4_takeAllFrom dX4_takeAllFrom_51) (ci := 5) (j := 1) rfl (key := 601) rfl (kc := 25) rfl ((vcp_k (by decide)).trans s4.1) rfl (by intro z; cases z) (by decide)).trans ?_
        refine (rn_aload_n (pc := 54) (dd bX4_takeAllFrom dX4_takeAllFrom_54) rfl).trans ?_
        refine (rn_iload_n (pc := 55) (dd bX4_takeAllFrom dX4_takeAllFrom_55) rfl).trans ?_
        refine (rg_pf (pc := 56) (dd bX4_takeAllFrom dX4_takeAllFrom_56) (ci := 5) (j := 1) rfl (key := 601) rfl (kc := 25) rfl ((vup_k (by decide)).trans ((vcp_k (by decide)).trans s1.1)) rfl (by intro z; cases z) (by decide)).trans ?_
        exact rn_return (pc := 59) (dd bX4_takeAllFrom dX4_takeAllFrom_59) rfl
      · exact rn_return (pc := 26) (dd bX4_takeAllFrom dX4_takeAllFrom_26) rfl
theorem bX4_hasClusterAt : vmB mX4_hasClusterAt = cX4_hasClusterAt := rfl
theorem rX4_hasClusterAt_0 {x0 : Int} {x1 : Int} {h : vH} (s1 : shLine h x0) : vrun mX4_hasClusterAt 0 [(1, x0), (0, x1)] [] h = some (.inl (some (0, (if x1 = 0 ∨ ¬ (fX4_signAt h x0 x1 = 126) then 1 else 0))), h) := by
  refine (rn_iload_n (pc := 0) (dd bX4_hasClusterAt dX4_hasClusterAt_0) rfl).trans ?_
  have e2 : vrun mX4_hasClusterAt 1 [(1, x0), (0, x1)] [(0, x1)] h = vrun mX4_hasClusterAt 19 [(1, x0), (0, x1)] [(0, (if x1 = 0 ∨ ¬ (fX4_signAt h x0 x1 = 126) then 1 else 0))] h := by
    refine (rn_if_eq (t := 14) (pc := 1) (dd bX4_hasClusterAt dX4_hasClusterAt_1) rfl).trans ?_
    by_cases c1 : x1 = 0
    · refine (if_pos c1).trans ?_
      refine (rn_iconst (pc := 14) (dd bX4_hasClusterAt dX4_hasClusterAt_14) (by decide)).trans ?_
      refine (rn_goto (t := 19) (pc := 15) (dd bX4_hasClusterAt dX4_hasClusterAt_15) rfl).trans ?_
      refine Eq.trans (b := vrun mX4_hasClusterAt 19 [(1, x0), (0, x1)] [(0, 1)] h) rfl ?_
      simp only [c1, true_or, false_or, or_true, or_false, true_and, false_and, and_true, and_false, not_true_eq_false, not_false_eq_true, ne_eq, if_true, if_false, ↓reduceIte]
    · refine (if_neg c1).trans ?_
      refine (rn_aload_n (pc := 4) (dd bX4_hasClusterAt dX4_hasClusterAt_4) rfl).trans ?_
      refine (rn_iload_n (pc := 5) (dd bX4_hasClusterAt dX4_hasClusterAt_5) rfl).trans ?_
      refine (rg_virtual (pc := 6) (dd bX4_hasClusterAt dX4_hasClusterAt_6) rfl rfl (by decide) (kc := 25) rfl s1.1 (as := [(1, x0), (0, x1)]) rfl ⟨Nat.le_of_ble_eq_true rfl, Nat.le_of_ble_eq_true rfl, Nat.le_of_ble_eq_true rfl, Nat.le_of_ble_eq_true rfl⟩).trans ?_
      refine (vret_v (spX4_signAt s1)).trans ?_
      refine (rn_bipush (pc := 9) (dd bX4_hasClusterAt dX4_hasClusterAt_9) (by decide)).trans ?_
      have e1 : vrun mX4_hasClusterAt 11 [(1, x0), (0, x1)] [(0, 126), (0, fX4_signAt h x0 x1)] h = vrun mX4_hasClusterAt 19 [(1, x0), (0, x1)] [(0, (if ¬ (fX4_signAt h x0 x1 = 126) then 1 else 0))] h := by
        refine (rn_icmp_eq (t := 18) (pc := 11) (dd bX4_hasClusterAt dX4_hasClusterAt_11) rfl).trans ?_
        by_cases c2 : fX4_signAt h x0 x1 = 126
        · refine (if_pos c2).trans ?_
          refine (rn_iconst (pc := 18) (dd bX4_hasClusterAt dX4_hasClusterAt_18) (by decide)).trans ?_
          refine Eq.trans (b := vrun mX4_hasClusterAt 19 [(1, x0), (0, x1)] [(0, 0)] h) rfl ?_
          simp only [c2, true_or, false_or, or_true, or_false, true_and, false_and, and_true, and_false, not_true_eq_false, not_false_eq_true, ne_eq, if_true, if_false, ↓reduceIte]
        · refine (if_neg c2).trans ?_
          refine (rn_iconst (pc := 14) (dd bX4_hasClusterAt dX4_hasClusterAt_14) (by decide)).trans ?_
          refine (rn_goto (t := 19) (pc := 15) (dd bX4_hasClusterAt dX4_hasClusterAt_15) rfl).trans ?_
          refine Eq.trans (b := vrun mX4_hasClusterAt 19 [(1, x0), (0, x1)] [(0, 1)] h) rfl ?_
          simp only [c2, true_or, false_or, or_true, or_false, true_and, false_and, and_true, and_false, not_true_eq_false, not_false_eq_true, ne_eq, if_true, if_false, ↓reduceIte]
      refine e1.trans ?_
      refine Eq.trans (b := vrun mX4_hasClusterAt 19 [(1, x0), (0, x1)] [(0, (if ¬ (fX4_signAt h x0 x1 = 126) then 1 else 0))] h) rfl ?_
      simp only [c1, true_or, false_or, or_true, or_false, true_and, false_and, and_true, and_false, not_true_eq_false, not_false_eq_true, ne_eq, if_true, if_false, ↓reduceIte]
  refine e2.trans ?_
  exact rn_ireturn (pc := 19) (dd bX4_hasClusterAt dX4_hasClusterAt_19) (Or.inr ⟨rfl, b01⟩)
def fX4_hasClusterAt (h : vH) (x0 : Int) (x1 : Int) : Int := (if x1 = 0 ∨ ¬ (fX4_signAt h x0 x1 = 126) then 1 else 0)
theorem spX4_hasClusterAt {x0 : Int} {x1 : Int} {h : vH} (s1 : shLine h x0) : vcl mX4_hasClusterAt [(1, x0), (0, x1)] h = some (.inl (some (0, fX4_hasClusterAt h x0 x1)), h) := by
  refine (show _ = _ from rX4_hasClusterAt_0 s1).trans ?_
  rfl
theorem bX4_clusterSize : vmB mX4_clusterSize = cX4_clusterSize := rfl
theorem rX4_clusterSize_0 {x0 : Int} {x1 : Int} {h : vH} (p1 : (-2147483648) ≤ x1 + 1) (p2 : x1 + 1 < 2147483648) : vrun mX4_clusterSize 0 [(1, x0), (0, x1), (9, 0)] [] h = vrun mX4_clusterSize 4 [(1, x0), (0, x1), (0, x1 + 1)] [] h := by
  refine (rn_iload_n (pc := 0) (dd bX4_clusterSize dX4_clusterSize_0) rfl).trans ?_
  refine (rn_iconst (pc := 1) (dd bX4_clusterSize dX4_clusterSize_1) (by decide)).trans ?_
  refine (rg_iadd (pc := 2) (dd bX4_clusterSize dX4_clusterSize_2) p1 p2).trans ?_
  refine (rn_istore_n (pc := 3) (dd bX4_clusterSize dX4_clusterSize_3) (Nat.le_of_ble_eq_true rfl) rfl).trans ?_
  rfl
theorem rX4_clusterSize_4 {x0 : Int} {x1 : Int} {x2 : Int} {h : vH} (s1 : shLine h x0) (p2 : h 601 x0 0 ≤ x2 → (-2147483648) ≤ x2 - x1) (p3 : h 601 x0 0 ≤ x2 → x2 - x1 < 2147483648) (p4 : ¬ (h 601 x0 0 ≤ x2) → fX4_signAt h x0 x2 = 126 → (-2147483648) ≤ x2 + 1) (p5 : ¬ (h 601 x0 0 ≤ x2) → fX4_signAt h x0 x2 = 126 → x2 + 1 < 2147483648) (p6 : ¬ (h 601 x0 0 ≤ x2) → ¬ (fX4_signAt h x0 x2 = 126) → (-2147483648) ≤ x2 - x1) (p7 : ¬ (h 601 x0 0 ≤ x2) → ¬ (fX4_signAt h x0 x2 = 126) → x2 - x1 < 2147483648) : vrun mX4_clusterSize 4 [(1, x0), (0, x1), (0, x2)] [] h = if h 601 x0 0 ≤ x2 then some (.inl (some (0, x2 - x1)), h) else if fX4_signAt h x0 x2 = 126 then vrun mX4_clusterSize 4 [(1, x0), (0, x1), (0, x2 + 1)] [] h else some (.inl (some (0, x2 - x1)), h) := by
  refine (rn_iload_n (pc := 4) (dd bX4_clusterSize dX4_clusterSize_4) rfl).trans ?_
  refine (rn_aload_n (pc := 5) (dd bX4_clusterSize dX4_clusterSize_5) rfl).trans ?_
  refine (rg_gf (pc := 6) (dd bX4_clusterSize dX4_clusterSize_6) (ci := 5) (j := 1) rfl rfl (key := 601) rfl (kc := 25) rfl s1.1 rfl).trans ?_
  refine (rn_icmp_ge (t := 28) (pc := 9) (dd bX4_clusterSize dX4_clusterSize_9) rfl).trans (itec (fun c1 => ?_) (fun c1 => ?_))
  · refine (rn_iload_n (pc := 28) (dd bX4_clusterSize dX4_clusterSize_28) rfl).trans ?_
    refine (rn_iload_n (pc := 29) (dd bX4_clusterSize dX4_clusterSize_29) rfl).trans ?_
    refine (rg_isub (pc := 30) (dd bX4_clusterSize dX4_clusterSize_30) (p2 c1) (p3 c1)).trans ?_
    exact rn_ireturn (pc := 31) (dd bX4_clusterSize dX4_clusterSize_31) (Or.inl rfl)
  · refine (rn_aload_n (pc := 12) (dd bX4_clusterSize dX4_clusterSize_12) rfl).trans ?_
    refine (rn_iload_n (pc := 13) (dd bX4_clusterSize dX4_clusterSize_13) rfl).trans ?_
    refine (rg_virtual (pc := 14) (dd bX4_clusterSize dX4_clusterSize_14) rfl rfl (by decide) (kc := 25) rfl s1.1 (as := [(1, x0), (0, x2)]) rfl ⟨Nat.le_of_ble_eq_true rfl, Nat.le_of_ble_eq_true rfl, Nat.le_of_ble_eq_true rfl, Nat.le_of_ble_eq_true rfl⟩).trans ?_
    refine (vret_v (spX4_signAt s1)).trans ?_
    refine (rn_bipush (pc := 17) (dd bX4_clusterSize dX4_clusterSize_17) (by decide)).trans ?_
    refine (rg_icmp_ne (t := 28) (pc := 19) (dd bX4_clusterSize dX4_clusterSize_19) rfl).trans (itec (fun c2 => ?_) (fun c2 => ?_))
    · refine (rg_iinc (pc := 22) (dd bX4_clusterSize dX4_clusterSize_22) rfl (Nat.le_of_ble_eq_true rfl) (p4 c1 c2) (p5 c1 c2) rfl).trans ?_
      refine (rn_goto (t := 4) (pc := 25) (dd bX4_clusterSize dX4_clusterSize_25) rfl).trans ?_
      rfl
    · refine (rn_iload_n (pc := 28) (dd bX4_clusterSize dX4_clusterSize_28) rfl).trans ?_
      refine (rn_iload_n (pc := 29) (dd bX4_clusterSize dX4_clusterSize_29) rfl).trans ?_
      refine (rg_isub (pc := 30) (dd bX4_clusterSize dX4_clusterSize_30) (p6 c1 c2) (p7 c1 c2)).trans ?_
      exact rn_ireturn (pc := 31) (dd bX4_clusterSize dX4_clusterSize_31) (Or.inl rfl)

