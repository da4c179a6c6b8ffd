theorem bX10_at : vmB mX10_at = cX10_at := rfl
theorem rX10_at_0 {x1 : Int} {h : vH} (s1 : shText h) : vrun mX10_at 0 [(1, 4), (0, x1)] [] h = some (.inl (some (1, (if x1 < 0 then h 2 5 0 else (if h 1201 4 0 ≤ x1 then h 2 5 0 else (if 60 ≤ x1 then h 2 5 0 else h 2 5 x1))))), h) := by
  refine (rn_iload_n (pc := 0) (dd bX10_at dX10_at_0) rfl).trans ?_
  have e3 : vrun mX10_at 1 [(1, 4), (0, x1)] [(0, x1)] h = vrun mX10_at 33 [(1, 4), (0, x1)] [(1, (if x1 < 0 then h 2 5 0 else (if h 1201 4 0 ≤ x1 then h 2 5 0 else (if 60 ≤ x1 then h 2 5 0 else h 2 5 x1))))] h := by
    refine (rn_if_lt (t := 27) (pc := 1) (dd bX10_at dX10_at_1) rfl).trans ?_
    by_cases c1 : x1 < 0
    · refine (if_pos c1).trans ?_
      refine (rn_aload_n (pc := 27) (dd bX10_at dX10_at_27) rfl).trans ?_
      refine (rg_gf (pc := 28) (dd bX10_at dX10_at_28) (ci := 11) (j := 0) rfl rfl (key := 1200) rfl (kc := 31) rfl s1.1 s1.2.1).trans ?_
      refine (rn_iconst (pc := 31) (dd bX10_at dX10_at_31) (by decide)).trans ?_
      refine (rg_aaload (pc := 32) (dd bX10_at dX10_at_32) s1.2.2.1 (by decide) s1.2.2.2 (by decide) (by decide) rfl).trans ?_
      refine Eq.trans (b := vrun mX10_at 33 [(1, 4), (0, x1)] [(1, h 2 5 0)] h) rfl ?_
      simp only [if_pos c1]
    · refine (if_neg c1).trans ?_
      refine (rn_iload_n (pc := 4) (dd bX10_at dX10_at_4) rfl).trans ?_
      refine (rn_aload_n (pc := 5) (dd bX10_at dX10_at_5) rfl).trans ?_
      refine (rg_gf (pc := 6) (dd bX10_at dX10_at_6) (ci := 11) (j := 1) rfl rfl (key := 1201) rfl (kc := 31) rfl s1.1 rfl).trans ?_
      have e2 : vrun mX10_at 9 [(1, 4), (0, x1)] [(0, h 1201 4 0), (0, x1)] h = vrun mX10_at 33 [(1, 4), (0, x1)] [(1, (if h 1201 4 0 ≤ x1 then h 2 5 0 else (if 60 ≤ x1 then h 2 5 0 else h 2 5 x1)))] h := by
        refine (rn_icmp_ge (t := 27) (pc := 9) (dd bX10_at dX10_at_9) rfl).trans ?_
        by_cases c2 : h 1201 4 0 ≤ x1
        · refine (if_pos c2).trans ?_
          refine (rn_aload_n (pc := 27) (dd bX10_at dX10_at_27) rfl).trans ?_
          refine (rg_gf (pc := 28) (dd bX10_at dX10_at_28) (ci := 11) (j := 0) rfl rfl (key := 1200) rfl (kc := 31) rfl s1.1 s1.2.1).trans ?_
          refine (rn_iconst (pc := 31) (dd bX10_at dX10_at_31) (by decide)).trans ?_
          refine (rg_aaload (pc := 32) (dd bX10_at dX10_at_32) s1.2.2.1 (by decide) s1.2.2.2 (by decide) (by decide) rfl).trans ?_
          refine Eq.trans (b := vrun mX10_at 33 [(1, 4), (0, x1)] [(1, h 2 5 0)] h) rfl ?_
          simp only [if_pos c2]
        · refine (if_neg c2).trans ?_
          refine (rn_iload_n (pc := 12) (dd bX10_at dX10_at_12) rfl).trans ?_
          refine (rn_bipush (pc := 13) (dd bX10_at dX10_at_13) (by decide)).trans ?_
          have e1 : vrun mX10_at 15 [(1, 4), (0, x1)] [(0, 60), (0, x1)] h = vrun mX10_at 33 [(1, 4), (0, x1)] [(1, (if 60 ≤ x1 then h 2 5 0 else h 2 5 x1))] h := by
            refine (rn_icmp_ge (t := 27) (pc := 15) (dd bX10_at dX10_at_15) rfl).trans ?_
            by_cases c3 : 60 ≤ x1
            · refine (if_pos c3).trans ?_
              refine (rn_aload_n (pc := 27) (dd bX10_at dX10_at_27) rfl).trans ?_
              refine (rg_gf (pc := 28) (dd bX10_at dX10_at_28) (ci := 11) (j := 0) rfl rfl (key := 1200) rfl (kc := 31) rfl s1.1 s1.2.1).trans ?_
              refine (rn_iconst (pc := 31) (dd bX10_at dX10_at_31) (by decide)).trans ?_
              refine (rg_aaload (pc := 32) (dd bX10_at dX10_at_32) s1.2.2.1 (by decide) s1.2.2.2 (by decide) (by decide) rfl).trans ?_
              refine Eq.trans (b := vrun mX10_at 33 [(1, 4), (0, x1)] [(1, h 2 5 0)] h) rfl ?_
              simp only [if_pos c3]
            · refine (if_neg c3).trans ?_
              refine (rn_aload_n (pc := 18) (dd bX10_at dX10_at_18) rfl).trans ?_
              refine (rg_gf (pc := 19) (dd bX10_at dX10_at_19) (ci := 11) (j := 0) rfl rfl (key := 1200) rfl (kc := 31) rfl s1.1 s1.2.1).trans ?_
              refine (rn_iload_n (pc := 22) (dd bX10_at dX10_at_22) rfl).trans ?_
              refine (rg_aaload (pc := 23) (dd bX10_at dX10_at_23) s1.2.2.1 (by decide) s1.2.2.2 (Int.not_lt.mp c1) (Int.not_le.mp c3) rfl).trans ?_
              refine (rn_goto (t := 33) (pc := 24) (dd bX10_at dX10_at_24) rfl).trans ?_
              refine Eq.trans (b := vrun mX10_at 33 [(1, 4), (0, x1)] [(1, h 2 5 x1)] h) rfl ?_
              simp only [if_neg c3]
          refine e1.trans ?_
          refine Eq.trans (b := vrun mX10_at 33 [(1, 4), (0, x1)] [(1, (if 60 ≤ x1 then h 2 5 0 else h 2 5 x1))] h) rfl ?_
          simp only [if_neg c2]
      refine e2.trans ?_
      refine Eq.trans (b := vrun mX10_at 33 [(1, 4), (0, x1)] [(1, (if h 1201 4 0 ≤ x1 then h 2 5 0 else (if 60 ≤ x1 then h 2 5 0 else h 2 5 x1)))] h) rfl ?_
      simp only [if_neg c1]
  refine e3.trans ?_
  exact rn_areturn (pc := 33) (dd bX10_at dX10_at_33) rfl
def fX10_at (h : vH) (x1 : Int) : Int := (if x1 < 0 then h 2 5 0 else (if h 1201 4 0 ≤ x1 then h 2 5 0 else (if 60 ≤ x1 then h 2 5 0 else h 2 5 x1)))
theorem spX10_at {x1 : Int} {h : vH} (s1 : shText h) : vcl mX10_at [(1, 4), (0, x1)] h = some (.inl (some (1, fX10_at h x1)), h) := by
  refine (show _ = _ from rX10_at_0 s1).trans ?_
  rfl
theorem bX10_breakAt : vmB mX10_breakAt = cX10_breakAt := rfl
theorem rX10_breakAt_0 {x1 : Int} {x2 : Int} {h : vH} (s1 : shText h) (p2 : ¬ (x1 < 0) → ¬ (h 1201 4 0 ≤ x1) → h 1201 4 0 < 60 → 0 ≤ h 1201 4 0) (p3 : ¬ (x1 < 0) → ¬ (h 1201 4 0 ≤ x1) → h 1201 4 0 < 60 → x1 + 1 < 2147483648) (p4 : ¬ (x1 < 0) → ¬ (h 1201 4 0 ≤ x1) → h 1201 4 0 < 60 → x1 + 2 < 2147483648) (p5 : ¬ (x1 < 0) → ¬ (h 1201 4 0 ≤ x1) → h 1201 4 0 < 60 → (-2147483648) ≤ h 1201 4 0 - x1) (p6 : ¬ (x1 < 0) → ¬ (h 1201 4 0 ≤ x1) → h 1201 4 0 < 60 → (-2147483648) ≤ h 1201 4 0 - x1 - 1) (p7 : ¬ (x1 < 0) → ¬ (h 1201 4 0 ≤ x1) → h 1201 4 0 < 60 → 0 ≤ h 1201 4 0 - x1 - 1) (p8 : ¬ (x1 < 0) → ¬ (h 1201 4 0 ≤ x1) → h 1201 4 0 < 60 → x1 + 1 + (h 1201 4 0 - x1 - 1) ≤ 60) (p9 : ¬ (x1 < 0) → ¬ (h 1201 4 0 ≤ x1) → h 1201 4 0 < 60 → x1 + 2 + (h 1201 4 0 - x1 - 1) ≤ 60) (s10 : ¬ (x1 < 0) → ¬ (h 1201 4 0 ≤ x1) → h 1201 4 0 < 60 → (∀ i : Int, 0 ≤ i → i < h 1201 4 0 - x1 - 1 → h 2 5 (x1 + 1 + i) = 0 ∨ h 0 (h 2 5 (x1 + 1 + i)) 0 = 25)) (s11 : ¬ (x1 < 0) → ¬ (h 1201 4 0 ≤ x1) → h 1201 4 0 < 60 → shLine h (h 2 5 (h 1201 4 0))) (p12 : ¬ (x1 < 0) → ¬ (h 1201 4 0 ≤ x1) → h 1201 4 0 < 60 → x1 + 1 < 60) (p13 : ¬ (x1 < 0) → ¬ (h 1201 4 0 ≤ x1) → h 1201 4 0 < 60 → x1 < 60) : vrun mX10_breakAt 0 [(1, 4), (0, x1), (0, x2), (9, 0)] [] h = if x1 < 0 then some (.inl none, h) else if h 1201 4 0 ≤ x1 then some (.inl none, h) else if h 1201 4 0 < 60 then vret vrun mX10_breakAt 84 [(1, 4), (0, x1), (0, x2), (1, h 2 5 (h 1201 4 0))] [] (vcl mX4_takeAllFrom [(1, h 2 5 (h 1201 4 0)), (1, (vup (vup (vup (vcp h 5 (x1 + 1) 5 (x1 + 2) (h 1201 4 0 - x1 - 1)) 2 5 (x1 + 1) (h 2 5 (h 1201 4 0))) 601 (h 2 5 (h 1201 4 0)) 0 0) 602 (h 2 5 (h 1201 4 0)) 0 0) 2 5 x1), (0, x2)] (vup (vup (vup (vcp h 5 (x1 + 1) 5 (x1 + 2) (h 1201 4 0 - x1 - 1)) 2 5 (x1 + 1) (h 2 5 (h 1201 4 0))) 601 (h 2 5 (h 1201 4 0)) 0 0) 602 (h 2 5 (h 1201 4 0)) 0 0)) else some (.inl none, h) := by
  refine (rn_iload_n (pc := 0) (dd bX10_breakAt dX10_breakAt_0) rfl).trans ?_
  refine (rn_if_lt (t := 21) (pc := 1) (dd bX10_breakAt dX10_breakAt_1) rfl).trans (itec (fun c1 => ?_) (fun c1 => ?_))
  · exact rn_return (pc := 21) (dd bX10_breakAt dX10_breakAt_21) rfl
  · refine (rn_iload_n (pc := 4) (dd bX10_breakAt dX10_breakAt_4) rfl).trans ?_
    refine (rn_aload_n (pc := 5) (dd bX10_breakAt dX10_breakAt_5) rfl).trans ?_
    refine (rg_gf (pc := 6) (dd bX10_breakAt dX10_breakAt_6) (ci := 11) (j := 1) rfl rfl (key := 1201) rfl (kc := 31) rfl s1.1 rfl).trans ?_
    refine (rn_icmp_ge (t := 21) (pc := 9) (dd bX10_breakAt dX10_breakAt_9) rfl).trans (itec (fun c2 => ?_) (fun c2 => ?_))
    · exact rn_return (pc := 21) (dd bX10_breakAt dX10_breakAt_21) rfl
    · refine (rn_aload_n (pc := 12) (dd bX10_breakAt dX10_breakAt_12) rfl).trans ?_
      refine (rg_gf (pc := 13) (dd bX10_breakAt dX10_breakAt_13) (ci := 11) (j := 1) rfl rfl (key := 1201) rfl (kc := 31) rfl s1.1 rfl).trans ?_
      refine (rn_bipush (pc := 16) (dd bX10_breakAt dX10_breakAt_16) (by decide)).trans ?_
      refine (rn_icmp_lt (t := 22) (pc := 18) (dd bX10_breakAt dX10_breakAt_18) rfl).trans (itec (fun c3 => ?_) (fun c3 => ?_))
      · refine (rn_aload_n (pc := 22) (dd bX10_breakAt dX10_breakAt_22) rfl).trans ?_
        refine (rg_gf (pc := 23) (dd bX10_breakAt dX10_breakAt_23) (ci := 11) (j := 0) rfl rfl (key := 1200) rfl (kc := 31) rfl s1.1 s1.2.1).trans ?_
        refine (rn_aload_n (pc := 26) (dd bX10_breakAt dX10_breakAt_26) rfl).trans ?_
        refine (rg_gf (pc := 27) (dd bX10_breakAt dX10_breakAt_27) (ci := 11) (j := 1) rfl rfl (key := 1201) rfl (kc := 31) rfl s1.1 rfl).trans ?_
        refine (rg_aaload (pc := 30) (dd bX10_breakAt dX10_breakAt_30) s1.2.2.1 (by decide) s1.2.2.2 (p2 c1 c2 c3) c3 rfl).trans ?_
        refine (rn_astore_n (pc := 31) (dd bX10_breakAt dX10_breakAt_31) (Nat.le_of_ble_eq_true rfl) rfl).trans ?_
        refine (rn_aload_n (pc := 32) (dd bX10_breakAt dX10_breakAt_32) rfl).trans ?_
        refine (rg_gf (pc := 33) (dd bX10_breakAt dX10_breakAt_33) (ci := 11) (j := 0) rfl rfl (key := 1200) rfl (kc := 31) rfl s1.1 s1.2.1).trans ?_
        refine (rn_iload_n (pc := 36) (dd bX10_breakAt dX10_breakAt_36) rfl).trans ?_
        refine (rn_iconst (pc := 37) (dd bX10_breakAt dX10_breakAt_37) (by decide)).trans ?_
        refine (rg_iadd (pc := 38) (dd bX10_breakAt dX10_breakAt_38) (by omega) (p3 c1 c2 c3)).trans ?_
        refine (rn_aload_n (pc := 39) (dd bX10_breakAt dX10_breakAt_39) rfl).trans ?_
        refine (rg_gf (pc := 40) (dd bX10_breakAt dX10_breakAt_40) (ci := 11) (j := 0) rfl rfl (key := 1200) rfl (kc := 31) rfl s1.1 s1.2.1).trans ?_
        refine (rn_iload_n (pc := 43) (dd bX10_breakAt dX10_breakAt_43) rfl).trans ?_
        refine (rn_iconst (pc := 44) (dd bX10_breakAt dX10_breakAt_44) (by decide)).trans ?_
        refine (rg_iadd (pc := 45) (dd bX10_breakAt dX10_breakAt_45) (by omega) (p4 c1 c2 c3)).trans ?_
        refine (rn_aload_n (pc := 46) (dd bX10_breakAt dX10_breakAt_46) rfl).trans ?_
        refine (rg_gf (pc := 47) (dd bX10_breakAt dX10_breakAt_47) (ci := 11) (j := 1) rfl rfl (key := 1201) rfl (kc := 31) rfl s1.1 rfl).trans ?_
        refine (rn_iload_n (pc := 50) (dd bX10_breakAt dX10_breakAt_50) rfl).trans ?_
        refine (rg_isub (pc := 51) (dd bX10_breakAt dX10_breakAt_51) (p5 c1 c2 c3) (by have z0 := p2 c1 c2 c3; have z1 := p5 c1 c2 c3; omega)).trans ?_
        refine (rn_iconst (pc := 52) (dd bX10_breakAt dX10_breakAt_52) (by decide)).trans ?_
        refine (rg_isub (pc := 53) (dd bX10_breakAt dX10_breakAt_53) (p6 c1 c2 c3) (by have z0 := p2 c1 c2 c3; have z1 := p5 c1 c2 c3; have z2 := p6 c1 c2 c3; omega)).trans ?_
        refine (rg_copy4 (pc := 54) (dd bX10_breakAt dX10_breakAt_54) rfl s1.2.2.1 s1.2.2.2 s1.2.2.1 s1.2.2.2 (p7 c1 c2 c3) (by have z0 := p3 c1 c2 c3; omega) (by have z0 := p4 c1 c2 c3; omega) (p8 c1 c2 c3) (p9 c1 c2 c3) (s10 c1 c2 c3) ⟨Nat.le_of_ble_eq_true rfl, Nat.le_of_ble_eq_true rfl, Nat.le_of_ble_eq_true rfl⟩).trans ?_
        refine (rn_aload_n (pc := 57) (dd bX10_breakAt dX10_breakAt_57) rfl).trans ?_
        refine (rg_gf (pc := 58) (dd bX10_breakAt dX10_breakAt_58) (ci := 11) (j := 0) rfl rfl (key := 1200) rfl (kc := 31) rfl ((vcp_k (by decide)).trans s1.1) ((vcp_k (by decide)).trans s1.2.1)).trans ?_
        refine (rn_iload_n (pc := 61) (dd bX10_breakAt dX10_breakAt_61) rfl).trans ?_
        refine (rn_iconst (pc := 62) (dd bX10_breakAt dX10_breakAt_62) (by decide)).trans ?_
        refine (rg_iadd (pc := 63) (dd bX10_breakAt dX10_breakAt_63) (by have z0 := p3 c1 c2 c3; omega) (by have z0 := p3 c1 c2 c3; omega)).trans ?_
        refine (rn_aload_n (pc := 64) (dd bX10_breakAt dX10_breakAt_64) rfl).trans ?_
        refine (rg_aastore (pc := 65) (dd bX10_breakAt dX10_breakAt_65) (kc := 4) ((vcp_k (by decide)).trans s1.2.2.1) ((vcp_k (by decide)).trans s1.2.2.2) (by have z0 := p3 c1 c2 c3; omega) (p12 c1 c2 c3) (Or.inl ⟨rfl, Or.inr ((vcp_k (by decide)).trans (s11 c1 c2 c3).1)⟩)).trans ?_
        refine (rn_aload_n (pc := 66) (dd bX10_breakAt dX10_breakAt_66) rfl).trans ?_
        refine (rn_iconst (pc := 67) (dd bX10_breakAt dX10_breakAt_67) (by decide)).trans ?_
        refine (rg_pf (pc := 68) (dd bX10_breakAt dX10_breakAt_68) (ci := 5) (j := 1) rfl (key := 601) rfl (kc := 25) rfl ((vup_k (by decide)).trans ((vcp_k (by decide)).trans (s11 c1 c2 c3).1)) rfl (by intro z; cases z) (by decide)).trans ?_
        refine (rn_aload_n (pc := 71) (dd bX10_breakAt dX10_breakAt_71) rfl).trans ?_
        refine (rn_iconst (pc := 72) (dd bX10_breakAt dX10_breakAt_72) (by decide)).trans ?_
        refine (rg_pf (pc := 73) (dd bX10_breakAt dX10_breakAt_73) (ci := 5) (j := 2) rfl (key := 602) rfl (kc := 25) rfl ((vup_k (by decide)).trans ((vup_k (by decide)).trans ((vcp_k (by decide)).trans (s11 c1 c2 c3).1))) rfl (fun _ => (by decide)) (by decide)).trans ?_
        refine (rn_aload_n (pc := 76) (dd bX10_breakAt dX10_breakAt_76) rfl).trans ?_
        refine (rn_aload_n (pc := 77) (dd bX10_breakAt dX10_breakAt_77) rfl).trans ?_
        refine (rg_gf (pc := 78) (dd bX10_breakAt dX10_breakAt_78) (ci := 11) (j := 0) rfl rfl (key := 1200) rfl (kc := 31) rfl ((vup_k (by decide)).trans ((vup_k (by decide)).trans ((vup_k (by decide)).trans ((vcp_k (by decide)).trans s1.1)))) ((vup_k (by decide)).trans ((vup_k (by decide)).trans ((vup_k (by decide)).trans ((vcp_k (by decide)).trans s1.2.1))))).trans ?_
        refine (rn_iload_n (pc := 81) (dd bX10_breakAt dX10_breakAt_81) rfl).trans ?_
        refine (rg_aaload (pc := 82) (dd bX10_breakAt dX10_breakAt_82) ((vup_k (by decide)).trans ((vup_k (by decide)).trans ((vup_k (by decide)).trans ((vcp_k (by decide)).trans s1.2.2.1)))) (by decide) ((vup_k (by decide)).trans ((vup_k (by decide)).trans ((vup_k (by decide)).trans ((vcp_k (by decide)).trans s1.2.2.2)))) (Int.not_lt.mp c1) (p13 c1 c2 c3) rfl).trans ?_
        refine (rn_iload_n (pc := 83) (dd bX10_breakAt dX10_breakAt_83) rfl).trans ?_
        exact rg_virtual (pc := 84) (dd bX10_breakAt dX10_breakAt_84) rfl rfl (by decide) (kc := 25) rfl ((vup_k (by decide)).trans ((vup_k (by decide)).trans ((vup_k (by decide)).trans ((vcp_k (by decide)).trans (s11 c1 c2 c3).1)))) (as := [(1, h 2 5 (h 1201 4 0)), (1, (vup (vup (vup (vcp h 5 (x1 + 1) 5 (x1 + 2) (h 1201 4 0 - x1 - 1)) 2 5 (x1 + 1) (h 2 5 (h 1201 4 0))) 601 (h 2 5 (h 1201 4 0)) 0 0) 602 (h 2 5 (h 1201 4 0)) 0 0) 2 5 x1), (0, x2)]) rfl ⟨Nat.le_of_ble_eq_true rfl, Nat.le_of_ble_eq_true rfl, Nat.le_of_ble_eq_true rfl, Nat.le_of_ble_eq_true rfl⟩
      · exact rn_return (pc := 21) (dd bX10_breakAt dX10_breakAt_21) rfl
theorem rX10_breakAt_87 {x1 : Int} {x2 : Int} {x3 : Int} {h : vH} (s1 : shText h) (p2 : (-2147483648) ≤ h 1201 4 0 + 1) (p3 : h 1201 4 0 + 1 < 2147483648) : vrun mX10_breakAt 87 [(1, 4), (0, x1), (0, x2), (1, x3)] [] h = some (.inl none, vup h 1201 4 0 (h 1201 4 0 + 1)) := by
  refine (rn_aload_n (pc := 87) (dd bX10_breakAt dX10_breakAt_87) rfl).trans ?_
  refine (rn_dup (pc := 88) (dd bX10_breakAt dX10_breakAt_88) (by decide)).trans ?_
  refine (rg_gf (pc := 89) (dd bX10_breakAt dX10_breakAt_89) (ci := 11) (j := 1) rfl rfl (key := 1201) rfl (kc := 31) rfl s1.1 rfl).trans ?_
  refine (rn_iconst (pc := 92) (dd bX10_breakAt dX10_breakAt_92) (by decide)).trans ?_
  refine (rg_iadd (pc := 93) (dd bX10_breakAt dX10_breakAt_93) p2 p3).trans ?_
  refine (rg_pf (pc := 94) (dd bX10_breakAt dX10_breakAt_94) (ci := 11) (j := 1) rfl (key := 1201) rfl (kc := 31) rfl s1.1 rfl (by intro z; cases z) (by decide)).trans ?_
  exact rn_return (pc := 97) (dd bX10_breakAt dX10_breakAt_97) rfl
theorem bX10_markedFrom : vmB mX10_markedFrom = cX10_markedFrom := rfl
theorem rX10_markedFrom_0 {x1 : Int} {x2 : Int} {h : vH} : vrun mX10_markedFrom 0 [(1, 4), (0, x1), (0, x2), (9, 0), (9, 0)] [] h = vrun mX10_markedFrom 5 [(1, 4), (0, x1), (0, x2), (0, 0), (0, x1)] [] h := by
  refine (rn_iconst (pc := 0) (dd bX10_markedFrom dX10_markedFrom_0) (by decide)).trans ?_
  refine (rn_istore_n (pc := 1) (dd bX10_markedFrom dX10_markedFrom_1) (Nat.le_of_ble_eq_true rfl) rfl).trans ?_
  refine (rn_iload_n (pc := 2) (dd bX10_markedFrom dX10_markedFrom_2) rfl).trans ?_
  refine (rn_istore (pc := 3) (dd bX10_markedFrom dX10_markedFrom_3) (Nat.le_of_ble_eq_true rfl) rfl).trans ?_
  rfl
theorem rX10_markedFrom_5 {x1 : Int} {x2 : Int} {x3 : Int} {x4 : Int} {h : vH} (s1 : shText h) (s2 : ¬ (x2 < x4) → ¬ (h 1201 4 0 ≤ x4) → shLine h (fX10_at h x4)) (p3 : ¬ (x2 < x4) → ¬ (h 1201 4 0 ≤ x4) → ¬ (h 602 (fX10_at h x4) 0 = 0) → (-2147483648) ≤ x3 + 1) (p4 : ¬ (x2 < x4) → ¬ (h 1201 4 0 ≤ x4) → ¬ (h 602 (fX10_at h x4) 0 = 0) → x3 + 1 < 2147483648) (p5 : ¬ (x2 < x4) → ¬ (h 1201 4 0 ≤ x4) → (-2147483648) ≤ x4 + 1) (p6 : ¬ (x2 < x4) → ¬ (h 1201 4 0 ≤ x4) → x4 + 1 < 2147483648) : vrun mX10_markedFrom 5 [(1, 4), (0, x1), (0, x2), (0, x3), (0, x4)] [] h = if x2 < x4 then some (.inl (some (0, x3)), h) else if h 1201 4 0 ≤ x4 then some (.inl (some (0, x3)), h) else vrun mX10_markedFrom 5 [(1, 4), (0, x1), (0, x2), (0, (if h 602 (fX10_at h x4) 0 = 0 then x3 else x3 + 1)), (0, x4 + 1)] [] h := by
  refine (rn_iload (pc := 5) (dd bX10_markedFrom dX10_markedFrom_5) rfl).trans ?_
  refine (rn_iload_n (pc := 7) (dd bX10_markedFrom dX10_markedFrom_7) rfl).trans ?_
  refine (rn_icmp_gt (t := 41) (pc := 8) (dd bX10_markedFrom dX10_markedFrom_8) rfl).trans (itec (fun c1 => ?_) (fun c1 => ?_))
  · refine (rn_iload_n (pc := 41) (dd bX10_markedFrom dX10_markedFrom_41) rfl).trans ?_
    exact rn_ireturn (pc := 42) (dd bX10_markedFrom dX10_markedFrom_42) (Or.inl rfl)
  · refine (rn_iload (pc := 11) (dd bX10_markedFrom dX10_markedFrom_11) rfl).trans ?_
    refine (rn_aload_n (pc := 13) (dd bX10_markedFrom dX10_markedFrom_13) rfl).trans ?_
    refine (rg_gf (pc := 14) (dd bX10_markedFrom dX10_markedFrom_14) (ci := 11) (j := 1) rfl rfl (key := 1201) rfl (kc := 31) rfl s1.1 rfl).trans ?_
    refine (rn_icmp_ge (t := 41) (pc := 17) (dd bX10_markedFrom dX10_markedFrom_17) rfl).trans (itec (fun c2 => ?_) (fun c2 => ?_))
    · refine (rn_iload_n (pc := 41) (dd bX10_markedFrom dX10_markedFrom_41) rfl).trans ?_
      exact rn_ireturn (pc := 42) (dd bX10_markedFrom dX10_markedFrom_42) (Or.inl rfl)
    · refine (rn_aload_n (pc := 20) (dd bX10_markedFrom dX10_markedFrom_20) rfl).trans ?_
      refine (rn_iload (pc := 21) (dd bX10_markedFrom dX10_markedFrom_21) rfl).trans ?_
      refine (rg_virtual (pc := 23) (dd bX10_markedFrom dX10_markedFrom_23) rfl rfl (by decide) (kc := 31) rfl s1.1 (as := [(1, 4), (0, x4)]) rfl ⟨Nat.le_of_ble_eq_true rfl, Nat.le_of_ble_eq_true rfl, Nat.le_of_ble_eq_true rfl, Nat.le_of_ble_eq_true rfl⟩).trans ?_
      refine (vret_v (spX10_at s1)).trans ?_
      refine (rg_gf (pc := 26) (dd bX10_markedFrom dX10_markedFrom_26) (ci := 5) (j := 2) rfl rfl (key := 602) rfl (kc := 25) rfl (s2 c1 c2).1 rfl).trans ?_
      have e1 : vrun mX10_markedFrom 29 [(1, 4), (0, x1), (0, x2), (0, x3), (0, x4)] [(0, h 602 (fX10_at h x4) 0)] h = vrun mX10_markedFrom 35 [(1, 4), (0, x1), (0, x2), (0, (if h 602 (fX10_at h x4) 0 = 0 then x3 else x3 + 1)), (0, x4)] [] h := by
        refine (rn_if_eq (t := 35) (pc := 29) (dd bX10_markedFrom dX10_markedFrom_29) rfl).trans ?_
        by_cases c3 : h 602 (fX10_at h x4) 0 = 0
        · refine (if_pos c3).trans ?_
          refine Eq.trans (b := vrun mX10_markedFrom 35 [(1, 4), (0, x1), (0, x2), (0, x3), (0, x4)] [] h) rfl ?_
          simp only [if_pos c3]
        · refine (if_neg c3).trans ?_
          refine (rg_iinc (pc := 32) (dd bX10_markedFrom dX10_markedFrom_32) rfl (Nat.le_of_ble_eq_true rfl) (p3 c1 c2 c3) (p4 c1 c2 c3) rfl).trans ?_
          refine Eq.trans (b := vrun mX10_markedFrom 35 [(1, 4), (0, x1), (0, x2), (0, x3 + 1), (0, x4)] [] h) rfl ?_
          simp only [if_neg c3]
      refine e1.trans ?_
      refine (rg_iinc (pc := 35) (dd bX10_markedFrom dX10_markedFrom_35) rfl (Nat.le_of_ble_eq_true rfl) (p5 c1 c2) (p6 c1 c2) rfl).trans ?_
      refine (rn_goto (t := 5) (pc := 38) (dd bX10_markedFrom dX10_markedFrom_38) rfl).trans ?_
      rfl

