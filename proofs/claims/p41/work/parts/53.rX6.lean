theorem bX6_start : vmB mX6_start = cX6_start := rfl
theorem rX6_start_0 {x0 : Int} {h : vH} (s1 : shPicture h x0) : vrun mX6_start 0 [(1, x0)] [] h = some (.inl none, vup h 803 x0 0 0) := by
  refine (rn_aload_n (pc := 0) (dd bX6_start dX6_start_0) rfl).trans ?_
  refine (rn_iconst (pc := 1) (dd bX6_start dX6_start_1) (by decide)).trans ?_
  refine (rg_pf (pc := 2) (dd bX6_start dX6_start_2) (ci := 7) (j := 3) rfl (key := 803) rfl (kc := 27) rfl s1.1 rfl (by intro z; cases z) (by decide)).trans ?_
  exact rn_return (pc := 5) (dd bX6_start dX6_start_5) rfl
theorem bX6_packed : vmB mX6_packed = cX6_packed := rfl
theorem rX6_packed_0 {x0 : Int} {x1 : Int} {x2 : Int} {h : vH} (s1 : shLayout h x1) : vrun mX6_packed 0 [(1, x0), (1, x1), (0, x2), (9, 0), (9, 0)] [] h = some (.inl (some (0, bior (bior (bior (fX3_tell h x1 x2 0) (bishl (fX3_tell h x1 x2 1) 7)) (bishl (bior (fX3_tell h x1 x2 2) (bishl (fX3_tell h x1 x2 3) 6)) 14)) (bishl (fX3_tell h x1 x2 4) 23))), h) := by
  refine (rn_aload_n (pc := 0) (dd bX6_packed dX6_packed_0) rfl).trans ?_
  refine (rn_iload_n (pc := 1) (dd bX6_packed dX6_packed_1) rfl).trans ?_
  refine (rn_iconst (pc := 2) (dd bX6_packed dX6_packed_2) (by decide)).trans ?_
  refine (rg_virtual (pc := 3) (dd bX6_packed dX6_packed_3) rfl rfl (by decide) (kc := 24) rfl s1.1 (as := [(1, x1), (0, x2), (0, 0)]) rfl ⟨Nat.le_of_ble_eq_true rfl, Nat.le_of_ble_eq_true rfl, Nat.le_of_ble_eq_true rfl, Nat.le_of_ble_eq_true rfl⟩).trans ?_
  refine (vret_v (spX3_tell s1)).trans ?_
  refine (rn_aload_n (pc := 6) (dd bX6_packed dX6_packed_6) rfl).trans ?_
  refine (rn_iload_n (pc := 7) (dd bX6_packed dX6_packed_7) rfl).trans ?_
  refine (rn_iconst (pc := 8) (dd bX6_packed dX6_packed_8) (by decide)).trans ?_
  refine (rg_virtual (pc := 9) (dd bX6_packed dX6_packed_9) rfl rfl (by decide) (kc := 24) rfl s1.1 (as := [(1, x1), (0, x2), (0, 1)]) rfl ⟨Nat.le_of_ble_eq_true rfl, Nat.le_of_ble_eq_true rfl, Nat.le_of_ble_eq_true rfl, Nat.le_of_ble_eq_true rfl⟩).trans ?_
  refine (vret_v (spX3_tell s1)).trans ?_
  refine (rn_bipush (pc := 12) (dd bX6_packed dX6_packed_12) (by decide)).trans ?_
  refine (rg_ishl (pc := 14) (dd bX6_packed dX6_packed_14)).trans ?_
  refine (rg_ior (pc := 15) (dd bX6_packed dX6_packed_15)).trans ?_
  refine (rn_istore_n (pc := 16) (dd bX6_packed dX6_packed_16) (Nat.le_of_ble_eq_true rfl) rfl).trans ?_
  refine (rn_aload_n (pc := 17) (dd bX6_packed dX6_packed_17) rfl).trans ?_
  refine (rn_iload_n (pc := 18) (dd bX6_packed dX6_packed_18) rfl).trans ?_
  refine (rn_iconst (pc := 19) (dd bX6_packed dX6_packed_19) (by decide)).trans ?_
  refine (rg_virtual (pc := 20) (dd bX6_packed dX6_packed_20) rfl rfl (by decide) (kc := 24) rfl s1.1 (as := [(1, x1), (0, x2), (0, 2)]) rfl ⟨Nat.le_of_ble_eq_true rfl, Nat.le_of_ble_eq_true rfl, Nat.le_of_ble_eq_true rfl, Nat.le_of_ble_eq_true rfl⟩).trans ?_
  refine (vret_v (spX3_tell s1)).trans ?_
  refine (rn_aload_n (pc := 23) (dd bX6_packed dX6_packed_23) rfl).trans ?_
  refine (rn_iload_n (pc := 24) (dd bX6_packed dX6_packed_24) rfl).trans ?_
  refine (rn_iconst (pc := 25) (dd bX6_packed dX6_packed_25) (by decide)).trans ?_
  refine (rg_virtual (pc := 26) (dd bX6_packed dX6_packed_26) rfl rfl (by decide) (kc := 24) rfl s1.1 (as := [(1, x1), (0, x2), (0, 3)]) rfl ⟨Nat.le_of_ble_eq_true rfl, Nat.le_of_ble_eq_true rfl, Nat.le_of_ble_eq_true rfl, Nat.le_of_ble_eq_true rfl⟩).trans ?_
  refine (vret_v (spX3_tell s1)).trans ?_
  refine (rn_bipush (pc := 29) (dd bX6_packed dX6_packed_29) (by decide)).trans ?_
  refine (rg_ishl (pc := 31) (dd bX6_packed dX6_packed_31)).trans ?_
  refine (rg_ior (pc := 32) (dd bX6_packed dX6_packed_32)).trans ?_
  refine (rn_istore (pc := 33) (dd bX6_packed dX6_packed_33) (Nat.le_of_ble_eq_true rfl) rfl).trans ?_
  refine (rn_iload_n (pc := 35) (dd bX6_packed dX6_packed_35) rfl).trans ?_
  refine (rn_iload (pc := 36) (dd bX6_packed dX6_packed_36) rfl).trans ?_
  refine (rn_bipush (pc := 38) (dd bX6_packed dX6_packed_38) (by decide)).trans ?_
  refine (rg_ishl (pc := 40) (dd bX6_packed dX6_packed_40)).trans ?_
  refine (rg_ior (pc := 41) (dd bX6_packed dX6_packed_41)).trans ?_
  refine (rn_aload_n (pc := 42) (dd bX6_packed dX6_packed_42) rfl).trans ?_
  refine (rn_iload_n (pc := 43) (dd bX6_packed dX6_packed_43) rfl).trans ?_
  refine (rn_iconst (pc := 44) (dd bX6_packed dX6_packed_44) (by decide)).trans ?_
  refine (rg_virtual (pc := 45) (dd bX6_packed dX6_packed_45) rfl rfl (by decide) (kc := 24) rfl s1.1 (as := [(1, x1), (0, x2), (0, 4)]) rfl ⟨Nat.le_of_ble_eq_true rfl, Nat.le_of_ble_eq_true rfl, Nat.le_of_ble_eq_true rfl, Nat.le_of_ble_eq_true rfl⟩).trans ?_
  refine (vret_v (spX3_tell s1)).trans ?_
  refine (rn_bipush (pc := 48) (dd bX6_packed dX6_packed_48) (by decide)).trans ?_
  refine (rg_ishl (pc := 50) (dd bX6_packed dX6_packed_50)).trans ?_
  refine (rg_ior (pc := 51) (dd bX6_packed dX6_packed_51)).trans ?_
  exact rn_ireturn (pc := 52) (dd bX6_packed dX6_packed_52) (Or.inl rfl)
def fX6_packed (h : vH) (x0 : Int) (x1 : Int) (x2 : Int) : Int := bior (bior (bior (fX3_tell h x1 x2 0) (bishl (fX3_tell h x1 x2 1) 7)) (bishl (bior (fX3_tell h x1 x2 2) (bishl (fX3_tell h x1 x2 3) 6)) 14)) (bishl (fX3_tell h x1 x2 4) 23)
theorem spX6_packed {x0 : Int} {x1 : Int} {x2 : Int} {h : vH} (s1 : shLayout h x1) : vcl mX6_packed [(1, x0), (1, x1), (0, x2)] h = some (.inl (some (0, fX6_packed h x0 x1 x2)), h) := by
  refine (show _ = _ from rX6_packed_0 s1).trans ?_
  rfl
theorem bX6_addRow : vmB mX6_addRow = cX6_addRow := rfl
theorem rX6_addRow_0 {x0 : Int} {x1 : Int} {x2 : Int} {x3 : Int} {h : vH} (s1 : shPicture h x0) (s2 : shLayout h x1) (p3 : ¬ (h 803 x0 0 < 0) → h 803 x0 0 < 24 → (-2147483648) ≤ x2 + 1) (p4 : ¬ (h 803 x0 0 < 0) → h 803 x0 0 < 24 → x2 + 1 < 2147483648) (p5 : ¬ (h 803 x0 0 < 0) → h 803 x0 0 < 24 → (-2147483648) ≤ fX3_startOf h x1 (x2 + 1) - fX3_startOf h x1 x2) (p6 : ¬ (h 803 x0 0 < 0) → h 803 x0 0 < 24 → fX3_startOf h x1 (x2 + 1) - fX3_startOf h x1 x2 < 2147483648) : vrun mX6_addRow 0 [(1, x0), (1, x1), (0, x2), (0, x3), (9, 0), (9, 0)] [] h = if h 803 x0 0 < 0 then some (.inl none, h) else if h 803 x0 0 < 24 then vrun mX6_addRow 33 [(1, x0), (1, x1), (0, x2), (0, x3), (0, min (fX3_cellsIn h x1 x2) 131), (0, 0)] [] h else some (.inl none, h) := by
  refine (rn_aload_n (pc := 0) (dd bX6_addRow dX6_addRow_0) rfl).trans ?_
  refine (rg_gf (pc := 1) (dd bX6_addRow dX6_addRow_1) (ci := 7) (j := 3) rfl rfl (key := 803) rfl (kc := 27) rfl s1.1 rfl).trans ?_
  refine (rn_if_lt (t := 16) (pc := 4) (dd bX6_addRow dX6_addRow_4) rfl).trans (itec (fun c1 => ?_) (fun c1 => ?_))
  · exact rn_return (pc := 16) (dd bX6_addRow dX6_addRow_16) rfl
  · refine (rn_aload_n (pc := 7) (dd bX6_addRow dX6_addRow_7) rfl).trans ?_
    refine (rg_gf (pc := 8) (dd bX6_addRow dX6_addRow_8) (ci := 7) (j := 3) rfl rfl (key := 803) rfl (kc := 27) rfl s1.1 rfl).trans ?_
    refine (rn_bipush (pc := 11) (dd bX6_addRow dX6_addRow_11) (by decide)).trans ?_
    refine (rn_icmp_lt (t := 17) (pc := 13) (dd bX6_addRow dX6_addRow_13) rfl).trans (itec (fun c2 => ?_) (fun c2 => ?_))
    · refine (rn_aload_n (pc := 17) (dd bX6_addRow dX6_addRow_17) rfl).trans ?_
      refine (rn_iload_n (pc := 18) (dd bX6_addRow dX6_addRow_18) rfl).trans ?_
      refine (rg_virtual (pc := 19) (dd bX6_addRow dX6_addRow_19) rfl rfl (by decide) (kc := 24) rfl s2.1 (as := [(1, x1), (0, x2)]) rfl ⟨Nat.le_of_ble_eq_true rfl, Nat.le_of_ble_eq_true rfl, Nat.le_of_ble_eq_true rfl, Nat.le_of_ble_eq_true rfl⟩).trans ?_
      refine (vret_v (spX3_cellsIn (p3 c1 c2) (p4 c1 c2) s2 (p5 c1 c2) (p6 c1 c2))).trans ?_
      refine (rn_sipush (pc := 22) (dd bX6_addRow dX6_addRow_22) (by decide)).trans ?_
      refine (rg_min (pc := 25) (dd bX6_addRow dX6_addRow_25) rfl ⟨Nat.le_of_ble_eq_true rfl, Nat.le_of_ble_eq_true rfl, Nat.le_of_ble_eq_true rfl⟩).trans ?_
      refine (rn_istore (pc := 28) (dd bX6_addRow dX6_addRow_28) (Nat.le_of_ble_eq_true rfl) rfl).trans ?_
      refine (rn_iconst (pc := 30) (dd bX6_addRow dX6_addRow_30) (by decide)).trans ?_
      refine (rn_istore (pc := 31) (dd bX6_addRow dX6_addRow_31) (Nat.le_of_ble_eq_true rfl) rfl).trans ?_
      rfl
    · exact rn_return (pc := 16) (dd bX6_addRow dX6_addRow_16) rfl
theorem rX6_addRow_33 {x0 : Int} {x1 : Int} {x2 : Int} {x3 : Int} {x4 : Int} {x5 : Int} {h : vH} (s1 : shPicture h x0) (p2 : x4 ≤ x5 → 0 ≤ h 803 x0 0) (p3 : x4 ≤ x5 → h 803 x0 0 < 24) (p4 : ¬ (x4 ≤ x5) → (-2147483648) ≤ h 803 x0 0 * 131) (p5 : ¬ (x4 ≤ x5) → h 803 x0 0 * 131 < 2147483648) (p6 : ¬ (x4 ≤ x5) → (-2147483648) ≤ h 803 x0 0 * 131 + x5) (p7 : ¬ (x4 ≤ x5) → h 803 x0 0 * 131 + x5 < 2147483648) (s8 : shLayout h x1) (p9 : ¬ (x4 ≤ x5) → (-2147483648) ≤ fX3_startOf h x1 x2 + x5) (p10 : ¬ (x4 ≤ x5) → fX3_startOf h x1 x2 + x5 < 2147483648) (p11 : ¬ (x4 ≤ x5) → ¬ (x5 < 0) → (-2147483648) ≤ x2 + 1) (p12 : ¬ (x4 ≤ x5) → ¬ (x5 < 0) → x2 + 1 < 2147483648) (p13 : ¬ (x4 ≤ x5) → ¬ (x5 < 0) → (-2147483648) ≤ fX3_startOf h x1 (x2 + 1) - fX3_startOf h x1 x2) (p14 : ¬ (x4 ≤ x5) → ¬ (x5 < 0) → fX3_startOf h x1 (x2 + 1) - fX3_startOf h x1 x2 < 2147483648) (p15 : ¬ (x4 ≤ x5) → 0 ≤ h 803 x0 0 * 131 + x5) (p16 : ¬ (x4 ≤ x5) → h 803 x0 0 * 131 + x5 < 3144) (p17 : ¬ (x4 ≤ x5) → (-2147483648) ≤ x5 + 1) (p18 : ¬ (x4 ≤ x5) → x5 + 1 < 2147483648) : vrun mX6_addRow 33 [(1, x0), (1, x1), (0, x2), (0, x3), (0, x4), (0, x5)] [] h = if x4 ≤ x5 then some (.inl none, vup (vup (vup h 2 (x0 + 2) (h 803 x0 0) x4) 2 (x0 + 3) (h 803 x0 0) x3) 803 x0 0 (h 803 x0 0 + 1)) else vrun mX6_addRow 33 [(1, x0), (1, x1), (0, x2), (0, x3), (0, x4), (0, x5 + 1)] [] (vup h 2 (x0 + 1) (h 803 x0 0 * 131 + x5) (fX6_packed h x0 x1 (fX3_onScreen h x1 x2 x5))) := by
  refine (rn_iload (pc := 33) (dd bX6_addRow dX6_addRow_33) rfl).trans ?_
  refine (rn_iload (pc := 35) (dd bX6_addRow dX6_addRow_35) rfl).trans ?_
  refine (rn_icmp_ge (t := 74) (pc := 37) (dd bX6_addRow dX6_addRow_37) rfl).trans (itec (fun c1 => ?_) (fun c1 => ?_))
  · refine (rn_aload_n (pc := 74) (dd bX6_addRow dX6_addRow_74) rfl).trans ?_
    refine (rg_gf (pc := 75) (dd bX6_addRow dX6_addRow_75) (ci := 7) (j := 1) rfl rfl (key := 801) rfl (kc := 27) rfl s1.1 s1.2.2.2.2.1).trans ?_
    refine (rn_aload_n (pc := 78) (dd bX6_addRow dX6_addRow_78) rfl).trans ?_
    refine (rg_gf (pc := 79) (dd bX6_addRow dX6_addRow_79) (ci := 7) (j := 3) rfl rfl (key := 803) rfl (kc := 27) rfl s1.1 rfl).trans ?_
    refine (rn_iload (pc := 82) (dd bX6_addRow dX6_addRow_82) rfl).trans ?_
    refine (rg_iastore (pc := 84) (dd bX6_addRow dX6_addRow_84) s1.2.2.2.2.2.1 s1.2.2.2.2.2.2.1 (p2 c1) (p3 c1)).trans ?_
    refine (rn_aload_n (pc := 85) (dd bX6_addRow dX6_addRow_85) rfl).trans ?_
    refine (rg_gf (pc := 86) (dd bX6_addRow dX6_addRow_86) (ci := 7) (j := 2) rfl rfl (key := 802) rfl (kc := 27) rfl ((vup_k (by decide)).trans s1.1) ((vup_k (by decide)).trans s1.2.2.2.2.2.2.2.1)).trans ?_
    refine (rn_aload_n (pc := 89) (dd bX6_addRow dX6_addRow_89) rfl).trans ?_
    refine (rg_gf (pc := 90) (dd bX6_addRow dX6_addRow_90) (ci := 7) (j := 3) rfl rfl (key := 803) rfl (kc := 27) rfl ((vup_k (by decide)).trans s1.1) ((vup_k (by decide)).trans rfl)).trans ?_
    refine (rn_iload_n (pc := 93) (dd bX6_addRow dX6_addRow_93) rfl).trans ?_
    refine (rg_iastore (pc := 94) (dd bX6_addRow dX6_addRow_94) ((vup_k (by decide)).trans s1.2.2.2.2.2.2.2.2.1) ((vup_k (by decide)).trans s1.2.2.2.2.2.2.2.2.2) (by have z0 := p2 c1; have z1 := p3 c1; omega) (by have z0 := p2 c1; have z1 := p3 c1; omega)).trans ?_
    refine (rn_aload_n (pc := 95) (dd bX6_addRow dX6_addRow_95) rfl).trans ?_
    refine (rn_dup (pc := 96) (dd bX6_addRow dX6_addRow_96) (by decide)).trans ?_
    refine (rg_gf (pc := 97) (dd bX6_addRow dX6_addRow_97) (ci := 7) (j := 3) rfl rfl (key := 803) rfl (kc := 27) rfl ((vup_k (by decide)).trans ((vup_k (by decide)).trans s1.1)) ((vup_k (by decide)).trans ((vup_k (by decide)).trans rfl))).trans ?_
    refine (rn_iconst (pc := 100) (dd bX6_addRow dX6_addRow_100) (by decide)).trans ?_
    refine (rg_iadd (pc := 101) (dd bX6_addRow dX6_addRow_101) (by have z0 := p2 c1; have z1 := p3 c1; omega) (by have z0 := p2 c1; have z1 := p3 c1; omega)).trans ?_
    refine (rg_pf (pc := 102) (dd bX6_addRow dX6_addRow_102) (ci := 7) (j := 3) rfl (key := 803) rfl (kc := 27) rfl ((vup_k (by decide)).trans ((vup_k (by decide)).trans s1.1)) rfl (by intro z; cases z) (by decide)).trans ?_
    exact rn_return (pc := 105) (dd bX6_addRow dX6_addRow_105) rfl
  · refine (rn_aload_n (pc := 40) (dd bX6_addRow dX6_addRow_40) rfl).trans ?_
    refine (rg_gf (pc := 41) (dd bX6_addRow dX6_addRow_41) (ci := 7) (j := 0) rfl rfl (key := 800) rfl (kc := 27) rfl s1.1 s1.2.1).trans ?_
    refine (rn_aload_n (pc := 44) (dd bX6_addRow dX6_addRow_44) rfl).trans ?_
    refine (rg_gf (pc := 45) (dd bX6_addRow dX6_addRow_45) (ci := 7) (j := 3) rfl rfl (key := 803) rfl (kc := 27) rfl s1.1 rfl).trans ?_
    refine (rn_sipush (pc := 48) (dd bX6_addRow dX6_addRow_48) (by decide)).trans ?_
    refine (rg_imul (pc := 51) (dd bX6_addRow dX6_addRow_51) (p4 c1) (p5 c1)).trans ?_
    refine (rn_iload (pc := 52) (dd bX6_addRow dX6_addRow_52) rfl).trans ?_
    refine (rg_iadd (pc := 54) (dd bX6_addRow dX6_addRow_54) (p6 c1) (p7 c1)).trans ?_
    refine (rn_aload_n (pc := 55) (dd bX6_addRow dX6_addRow_55) rfl).trans ?_
    refine (rn_aload_n (pc := 56) (dd bX6_addRow dX6_addRow_56) rfl).trans ?_
    refine (rn_aload_n (pc := 57) (dd bX6_addRow dX6_addRow_57) rfl).trans ?_
    refine (rn_iload_n (pc := 58) (dd bX6_addRow dX6_addRow_58) rfl).trans ?_
    refine (rn_iload (pc := 59) (dd bX6_addRow dX6_addRow_59) rfl).trans ?_
    refine (rg_virtual (pc := 61) (dd bX6_addRow dX6_addRow_61) rfl rfl (by decide) (kc := 24) rfl s8.1 (as := [(1, x1), (0, x2), (0, x5)]) rfl ⟨Nat.le_of_ble_eq_true rfl, Nat.le_of_ble_eq_true rfl, Nat.le_of_ble_eq_true rfl, Nat.le_of_ble_eq_true rfl⟩).trans ?_
    refine (vret_v (spX3_onScreen s8 (p9 c1) (p10 c1) (p11 c1) (p12 c1) (p13 c1) (p14 c1))).trans ?_
    refine (rg_virtual (pc := 64) (dd bX6_addRow dX6_addRow_64) rfl rfl (by decide) (kc := 27) rfl s1.1 (as := [(1, x0), (1, x1), (0, fX3_onScreen h x1 x2 x5)]) rfl ⟨Nat.le_of_ble_eq_true rfl, Nat.le_of_ble_eq_true rfl, Nat.le_of_ble_eq_true rfl, Nat.le_of_ble_eq_true rfl⟩).trans ?_
    refine (vret_v (spX6_packed s8)).trans ?_
    refine (rg_iastore (pc := 67) (dd bX6_addRow dX6_addRow_67) s1.2.2.1 s1.2.2.2.1 (p15 c1) (p16 c1)).trans ?_
    refine (rg_iinc (pc := 68) (dd bX6_addRow dX6_addRow_68) rfl (Nat.le_of_ble_eq_true rfl) (p17 c1) (p18 c1) rfl).trans ?_
    refine (rn_goto (t := 33) (pc := 71) (dd bX6_addRow dX6_addRow_71) rfl).trans ?_
    rfl
theorem bX6_addNothing : vmB mX6_addNothing = cX6_addNothing := rfl
theorem rX6_addNothing_0 {x0 : Int} {h : vH} (s1 : shPicture h x0) : vrun mX6_addNothing 0 [(1, x0)] [] h = if h 803 x0 0 < 0 then some (.inl none, h) else if h 803 x0 0 < 24 then some (.inl none, vup (vup (vup h 2 (x0 + 2) (h 803 x0 0) (-1)) 2 (x0 + 3) (h 803 x0 0) 0) 803 x0 0 (h 803 x0 0 + 1)) else some (.inl none, h) := by
  refine (rn_aload_n (pc := 0) (dd bX6_addNothing dX6_addNothing_0) rfl).trans ?_
  refine (rg_gf (pc := 1) (dd bX6_addNothing dX6_addNothing_1) (ci := 7) (j := 3) rfl rfl (key := 803) rfl (kc := 27) rfl s1.1 rfl).trans ?_
  refine (rn_if_lt (t := 16) (pc := 4) (dd bX6_addNothing dX6_addNothing_4) rfl).trans (itec (fun c1 => ?_) (fun c1 => ?_))
  · exact rn_return (pc := 16) (dd bX6_addNothing dX6_addNothing_16) rfl
  · refine (rn_aload_n (pc := 7) (dd bX6_addNothing dX6_addNothing_7) rfl).trans ?_
    refine (rg_gf (pc := 8) (dd bX6_addNothing dX6_addNothing_8) (ci := 7) (j := 3) rfl rfl (key := 803) rfl (kc := 27) rfl s1.1 rfl).trans ?_
    refine (rn_bipush (pc := 11) (dd bX6_addNothing dX6_addNothing_11) (by decide)).trans ?_
    refine (rn_icmp_lt (t := 17) (pc := 13) (dd bX6_addNothing dX6_addNothing_13) rfl).trans (itec (fun c2 => ?_) (fun c2 => ?_))
    · refine (rn_aload_n (pc := 17) (dd bX6_addNothing dX6_addNothing_17) rfl).trans ?_
      refine (rg_gf (pc := 18) (dd bX6_addNothing dX6_addNothing_18) (ci := 7) (j := 1) rfl rfl (key := 801) rfl (kc := 27) rfl s1.1 s1.2.2.2.2.1).trans ?_
      refine (rn_aload_n (pc := 21) (dd bX6_addNothing dX6_addNothing_21) rfl).trans ?_
      refine (rg_gf (pc := 22) (dd bX6_addNothing dX6_addNothing_22) (ci := 7) (j := 3) rfl rfl (key := 803) rfl (kc := 27) rfl s1.1 rfl).trans ?_
      refine (rn_iconst (pc := 25) (dd bX6_addNothing dX6_addNothing_25) (by decide)).trans ?_
      refine (rg_iastore (pc := 26) (dd bX6_addNothing dX6_addNothing_26) s1.2.2.2.2.2.1 s1.2.2.2.2.2.2.1 (Int.not_lt.mp c1) c2).trans ?_
      refine (rn_aload_n (pc := 27) (dd bX6_addNothing dX6_addNothing_27) rfl).trans ?_
      refine (rg_gf (pc := 28) (dd bX6_addNothing dX6_addNothing_28) (ci := 7) (j := 2) rfl rfl (key := 802) rfl (kc := 27) rfl ((vup_k (by decide)).trans s1.1) ((vup_k (by decide)).trans s1.2.2.2.2.2.2.2.1)).trans ?_
      refine (rn_aload_n (pc := 31) (dd bX6_addNothing dX6_addNothing_31) rfl).trans ?_
      refine (rg_gf (pc := 32) (dd bX6_addNothing dX6_addNothing_32) (ci := 7) (j := 3) rfl rfl (key := 803) rfl (kc := 27) rfl ((vup_k (by decide)).trans s1.1) ((vup_k (by decide)).trans rfl)).trans ?_
      refine (rn_iconst (pc := 35) (dd bX6_addNothing dX6_addNothing_35) (by decide)).trans ?_
      refine (rg_iastore (pc := 36) (dd bX6_addNothing dX6_addNothing_36) ((vup_k (by decide)).trans s1.2.2.2.2.2.2.2.2.1) ((vup_k (by decide)).trans s1.2.2.2.2.2.2.2.2.2) (Int.not_lt.mp c1) c2).trans ?_
      refine (rn_aload_n (pc := 37) (dd bX6_addNothing dX6_addNothing_37) rfl).trans ?_
      refine (rn_dup (pc := 38) (dd bX6_addNothing dX6_addNothing_38) (by decide)).trans ?_
      refine (rg_gf (pc := 39) (dd bX6_addNothing dX6_addNothing_39) (ci := 7) (j := 3) rfl rfl (key := 803) rfl (kc := 27) rfl ((vup_k (by decide)).trans ((vup_k (by decide)).trans s1.1)) ((vup_k (by decide)).trans ((vup_k (by decide)).trans rfl))).trans ?_
      refine (rn_iconst (pc := 42) (dd bX6_addNothing dX6_addNothing_42) (by decide)).trans ?_
      refine (rg_iadd (pc := 43) (dd bX6_addNothing dX6_addNothing_43) (by omega) (by omega)).trans ?_
      refine (rg_pf (pc := 44) (dd bX6_addNothing dX6_addNothing_44) (ci := 7) (j := 3) rfl (key := 803) rfl (kc := 27) rfl ((vup_k (by decide)).trans ((vup_k (by decide)).trans s1.1)) rfl (by intro z; cases z) (by decide)).trans ?_
      exact rn_return (pc := 47) (dd bX6_addNothing dX6_addNothing_47) rfl
    · exact rn_return (pc := 16) (dd bX6_addNothing dX6_addNothing_16) rfl
theorem bX6_isSame : vmB mX6_isSame = cX6_isSame := rfl
theorem rX6_isSame_0 {x0 : Int} {x1 : Int} {x2 : Int} {x3 : Int} {h : vH} (s1 : shPicture h x2) (s2 : shPicture h x0) : vrun mX6_isSame 0 [(1, x0), (0, x1), (1, x2), (0, x3), (9, 0)] [] h = if x1 < 0 then some (.inl (some (0, 0)), h) else if 24 ≤ x1 then some (.inl (some (0, 0)), h) else if x3 < 0 then some (.inl (some (0, 0)), h) else if h 803 x2 0 ≤ x3 then some (.inl (some (0, 0)), h) else if x3 < 24 then if h 2 (x0 + 2) x1 = h 2 (x2 + 2) x3 then if h 2 (x0 + 3) x1 = h 2 (x2 + 3) x3 then vrun mX6_isSame 65 [(1, x0), (0, x1), (1, x2), (0, x3), (0, 0)] [] h else some (.inl (some (0, 0)), h) else some (.inl (some (0, 0)), h) else some (.inl (some (0, 0)), h) := by
  refine (rn_iload_n (pc := 0) (dd bX6_isSame dX6_isSame_0) rfl).trans ?_
  refine (rn_if_lt (t := 28) (pc := 1) (dd bX6_isSame dX6_isSame_1) rfl).trans (itec (fun c1 => ?_) (fun c1 => ?_))
  · refine (rn_iconst (pc := 28) (dd bX6_isSame dX6_isSame_28) (by decide)).trans ?_
    exact rn_ireturn (pc := 29) (dd bX6_isSame dX6_isSame_29) (Or.inr ⟨rfl, (by decide)⟩)
  · refine (rn_iload_n (pc := 4) (dd bX6_isSame dX6_isSame_4) rfl).trans ?_
    refine (rn_bipush (pc := 5) (dd bX6_isSame dX6_isSame_5) (by decide)).trans ?_
    refine (rn_icmp_ge (t := 28) (pc := 7) (dd bX6_isSame dX6_isSame_7) rfl).trans (itec (fun c2 => ?_) (fun c2 => ?_))
    · refine (rn_iconst (pc := 28) (dd bX6_isSame dX6_isSame_28) (by decide)).trans ?_
      exact rn_ireturn (pc := 29) (dd bX6_isSame dX6_isSame_29) (Or.inr ⟨rfl, (by decide)⟩)
    · refine (rn_iload_n (pc := 10) (dd bX6_isSame dX6_isSame_10) rfl).trans ?_
      refine (rn_if_lt (t := 28) (pc := 11) (dd bX6_isSame dX6_isSame_11) rfl).trans (itec (fun c3 => ?_) (fun c3 => ?_))
      · refine (rn_iconst (pc := 28) (dd bX6_isSame dX6_isSame_28) (by decide)).trans ?_
        exact rn_ireturn (pc := 29) (dd bX6_isSame dX6_isSame_29) (Or.inr ⟨rfl, (by decide)⟩)
      · refine (rn_iload_n (pc := 14) (dd bX6_isSame dX6_isSame_14) rfl).trans ?_
        refine (rn_aload_n (pc := 15) (dd bX6_isSame dX6_isSame_15) rfl).trans ?_
        refine (rg_gf (pc := 16) (dd bX6_isSame dX6_isSame_16) (ci := 7) (j := 3) rfl rfl (key := 803) rfl (kc := 27) rfl s1.1 rfl).trans ?_
        refine (rn_icmp_ge (t := 28) (pc := 19) (dd bX6_isSame dX6_isSame_19) rfl).trans (itec (fun c4 => ?_) (fun c4 => ?_))
        · refine (rn_iconst (pc := 28) (dd bX6_isSame dX6_isSame_28) (by decide)).trans ?_
          exact rn_ireturn (pc := 29) (dd bX6_isSame dX6_isSame_29) (Or.inr ⟨rfl, (by decide)⟩)
        · refine (rn_iload_n (pc := 22) (dd bX6_isSame dX6_isSame_22) rfl).trans ?_
          refine (rn_bipush (pc := 23) (dd bX6_isSame dX6_isSame_23) (by decide)).trans ?_
          refine (rn_icmp_lt (t := 30) (pc := 25) (dd bX6_isSame dX6_isSame_25) rfl).trans (itec (fun c5 => ?_) (fun c5 => ?_))
          · refine (rn_aload_n (pc := 30) (dd bX6_isSame dX6_isSame_30) rfl).trans ?_
            refine (rg_gf (pc := 31) (dd bX6_isSame dX6_isSame_31) (ci := 7) (j := 1) rfl rfl (key := 801) rfl (kc := 27) rfl s2.1 s2.2.2.2.2.1).trans ?_
            refine (rn_iload_n (pc := 34) (dd bX6_isSame dX6_isSame_34) rfl).trans ?_
            refine (rg_iaload (pc := 35) (dd bX6_isSame dX6_isSame_35) s2.2.2.2.2.2.1 s2.2.2.2.2.2.2.1 (Int.not_lt.mp c1) (Int.not_le.mp c2) rfl).trans ?_
            refine (rn_aload_n (pc := 36) (dd bX6_isSame dX6_isSame_36) rfl).trans ?_
            refine (rg_gf (pc := 37) (dd bX6_isSame dX6_isSame_37) (ci := 7) (j := 1) rfl rfl (key := 801) rfl (kc := 27) rfl s1.1 s1.2.2.2.2.1).trans ?_
            refine (rn_iload_n (pc := 40) (dd bX6_isSame dX6_isSame_40) rfl).trans ?_
            refine (rg_iaload (pc := 41) (dd bX6_isSame dX6_isSame_41) s1.2.2.2.2.2.1 s1.2.2.2.2.2.2.1 (Int.not_lt.mp c3) c5 rfl).trans ?_
            refine (rg_icmp_ne (t := 60) (pc := 42) (dd bX6_isSame dX6_isSame_42) rfl).trans (itec (fun c6 => ?_) (fun c6 => ?_))
            · refine (rn_aload_n (pc := 45) (dd bX6_isSame dX6_isSame_45) rfl).trans ?_
              refine (rg_gf (pc := 46) (dd bX6_isSame dX6_isSame_46) (ci := 7) (j := 2) rfl rfl (key := 802) rfl (kc := 27) rfl s2.1 s2.2.2.2.2.2.2.2.1).trans ?_
              refine (rn_iload_n (pc := 49) (dd bX6_isSame dX6_isSame_49) rfl).trans ?_
              refine (rg_iaload (pc := 50) (dd bX6_isSame dX6_isSame_50) s2.2.2.2.2.2.2.2.2.1 s2.2.2.2.2.2.2.2.2.2 (Int.not_lt.mp c1) (Int.not_le.mp c2) rfl).trans ?_
              refine (rn_aload_n (pc := 51) (dd bX6_isSame dX6_isSame_51) rfl).trans ?_
              refine (rg_gf (pc := 52) (dd bX6_isSame dX6_isSame_52) (ci := 7) (j := 2) rfl rfl (key := 802) rfl (kc := 27) rfl s1.1 s1.2.2.2.2.2.2.2.1).trans ?_
              refine (rn_iload_n (pc := 55) (dd bX6_isSame dX6_isSame_55) rfl).trans ?_
              refine (rg_iaload (pc := 56) (dd bX6_isSame dX6_isSame_56) s1.2.2.2.2.2.2.2.2.1 s1.2.2.2.2.2.2.2.2.2 (Int.not_lt.mp c3) c5 rfl).trans ?_
              refine (rn_icmp_eq (t := 62) (pc := 57) (dd bX6_isSame dX6_isSame_57) rfl).trans (itec (fun c7 => ?_) (fun c7 => ?_))
              · refine (rn_iconst (pc := 62) (dd bX6_isSame dX6_isSame_62) (by decide)).trans ?_
                refine (rn_istore (pc := 63) (dd bX6_isSame dX6_isSame_63) (Nat.le_of_ble_eq_true rfl) rfl).trans ?_
                rfl
              · refine (rn_iconst (pc := 60) (dd bX6_isSame dX6_isSame_60) (by decide)).trans ?_
                exact rn_ireturn (pc := 61) (dd bX6_isSame dX6_isSame_61) (Or.inr ⟨rfl, (by decide)⟩)
            · refine (rn_iconst (pc := 60) (dd bX6_isSame dX6_isSame_60) (by decide)).trans ?_
              exact rn_ireturn (pc := 61) (dd bX6_isSame dX6_isSame_61) (Or.inr ⟨rfl, (by decide)⟩)
          · refine (rn_iconst (pc := 28) (dd bX6_isSame dX6_isSame_28) (by decide)).trans ?_
            exact rn_ireturn (pc := 29) (dd bX6_isSame dX6_isSame_29) (Or.inr ⟨rfl, (by decide)⟩)
theorem rX6_isSame_65 {x0 : Int} {x1 : Int} {x2 : Int} {x3 : Int} {x4 : Int} {h : vH} (s1 : shPicture h x0) (p2 : 0 ≤ x1) (p3 : x1 < 24) (p4 : ¬ (h 2 (x0 + 2) x1 ≤ x4) → ¬ (131 ≤ x4) → (-2147483648) ≤ x1 * 131) (p5 : ¬ (h 2 (x0 + 2) x1 ≤ x4) → ¬ (131 ≤ x4) → x1 * 131 < 2147483648) (p6 : ¬ (h 2 (x0 + 2) x1 ≤ x4) → ¬ (131 ≤ x4) → (-2147483648) ≤ x1 * 131 + x4) (p7 : ¬ (h 2 (x0 + 2) x1 ≤ x4) → ¬ (131 ≤ x4) → x1 * 131 + x4 < 2147483648) (p8 : ¬ (h 2 (x0 + 2) x1 ≤ x4) → ¬ (131 ≤ x4) → 0 ≤ x1 * 131 + x4) (p9 : ¬ (h 2 (x0 + 2) x1 ≤ x4) → ¬ (131 ≤ x4) → x1 * 131 + x4 < 3144) (s10 : shPicture h x2) (p11 : ¬ (h 2 (x0 + 2) x1 ≤ x4) → ¬ (131 ≤ x4) → (-2147483648) ≤ x3 * 131) (p12 : ¬ (h 2 (x0 + 2) x1 ≤ x4) → ¬ (131 ≤ x4) → x3 * 131 < 2147483648) (p13 : ¬ (h 2 (x0 + 2) x1 ≤ x4) → ¬ (131 ≤ x4) → (-2147483648) ≤ x3 * 131 + x4) (p14 : ¬ (h 2 (x0 + 2) x1 ≤ x4) → ¬ (131 ≤ x4) → x3 * 131 + x4 < 2147483648) (p15 : ¬ (h 2 (x0 + 2) x1 ≤ x4) → ¬ (131 ≤ x4) → 0 ≤ x3 * 131 + x4) (p16 : ¬ (h 2 (x0 + 2) x1 ≤ x4) → ¬ (131 ≤ x4) → x3 * 131 + x4 < 3144) (p17 : ¬ (h 2 (x0 + 2) x1 ≤ x4) → ¬ (131 ≤ x4) → h 2 (x0 + 1) (x1 * 131 + x4) = h 2 (x2 + 1) (x3 * 131 + x4) → (-2147483648) ≤ x4 + 1) : vrun mX6_isSame 65 [(1, x0), (0, x1), (1, x2), (0, x3), (0, x4)] [] h = if h 2 (x0 + 2) x1 ≤ x4 then some (.inl (some (0, 1)), h) else if 131 ≤ x4 then some (.inl (some (0, 1)), h) else if h 2 (x0 + 1) (x1 * 131 + x4) = h 2 (x2 + 1) (x3 * 131 + x4) then vrun mX6_isSame 65 [(1, x0), (0, x1), (1, x2), (0, x3), (0, x4 + 1)] [] h else some (.inl (some (0, 0)), h) := by
  refine (rn_iload (pc := 65) (dd bX6_isSame dX6_isSame_65) rfl).trans ?_
  refine (rn_aload_n (pc := 67) (dd bX6_isSame dX6_isSame_67) rfl).trans ?_
  refine (rg_gf (pc := 68) (dd bX6_isSame dX6_isSame_68) (ci := 7) (j := 1) rfl rfl (key := 801) rfl (kc := 27) rfl s1.1 s1.2.2.2.2.1).trans ?_
  refine (rn_iload_n (pc := 71) (dd bX6_isSame dX6_isSame_71) rfl).trans ?_
  refine (rg_iaload (pc := 72) (dd bX6_isSame dX6_isSame_72) s1.2.2.2.2.2.1 s1.2.2.2.2.2.2.1 p2 p3 rfl).trans ?_
  refine (rn_icmp_ge (t := 121) (pc := 73) (dd bX6_isSame dX6_isSame_73) rfl).trans (itec (fun c1 => ?_) (fun c1 => ?_))
  · refine (rn_iconst (pc := 121) (dd bX6_isSame dX6_isSame_121) (by decide)).trans ?_
    exact rn_ireturn (pc := 122) (dd bX6_isSame dX6_isSame_122) (Or.inr ⟨rfl, (by decide)⟩)
  · refine (rn_iload (pc := 76) (dd bX6_isSame dX6_isSame_76) rfl).trans ?_
    refine (rn_sipush (pc := 78) (dd bX6_isSame dX6_isSame_78) (by decide)).trans ?_
    refine (rn_icmp_ge (t := 121) (pc := 81) (dd bX6_isSame dX6_isSame_81) rfl).trans (itec (fun c2 => ?_) (fun c2 => ?_))
    · refine (rn_iconst (pc := 121) (dd bX6_isSame dX6_isSame_121) (by decide)).trans ?_
      exact rn_ireturn (pc := 122) (dd bX6_isSame dX6_isSame_122) (Or.inr ⟨rfl, (by decide)⟩)
    · refine (rn_aload_n (pc := 84) (dd bX6_isSame dX6_isSame_84) rfl).trans ?_
      refine (rg_gf (pc := 85) (dd bX6_isSame dX6_isSame_85) (ci := 7) (j := 0) rfl rfl (key := 800) rfl (kc := 27) rfl s1.1 s1.2.1).trans ?_
      refine (rn_iload_n (pc := 88) (dd bX6_isSame dX6_isSame_88) rfl).trans ?_
      refine (rn_sipush (pc := 89) (dd bX6_isSame dX6_isSame_89) (by decide)).trans ?_
      refine (rg_imul (pc := 92) (dd bX6_isSame dX6_isSame_92) (p4 c1 c2) (p5 c1 c2)).trans ?_
      refine (rn_iload (pc := 93) (dd bX6_isSame dX6_isSame_93) rfl).trans ?_
      refine (rg_iadd (pc := 95) (dd bX6_isSame dX6_isSame_95) (p6 c1 c2) (p7 c1 c2)).trans ?_
      refine (rg_iaload (pc := 96) (dd bX6_isSame dX6_isSame_96) s1.2.2.1 s1.2.2.2.1 (p8 c1 c2) (p9 c1 c2) rfl).trans ?_
      refine (rn_aload_n (pc := 97) (dd bX6_isSame dX6_isSame_97) rfl).trans ?_
      refine (rg_gf (pc := 98) (dd bX6_isSame dX6_isSame_98) (ci := 7) (j := 0) rfl rfl (key := 800) rfl (kc := 27) rfl s10.1 s10.2.1).trans ?_
      refine (rn_iload_n (pc := 101) (dd bX6_isSame dX6_isSame_101) rfl).trans ?_
      refine (rn_sipush (pc := 102) (dd bX6_isSame dX6_isSame_102) (by decide)).trans ?_
      refine (rg_imul (pc := 105) (dd bX6_isSame dX6_isSame_105) (p11 c1 c2) (p12 c1 c2)).trans ?_
      refine (rn_iload (pc := 106) (dd bX6_isSame dX6_isSame_106) rfl).trans ?_
      refine (rg_iadd (pc := 108) (dd bX6_isSame dX6_isSame_108) (p13 c1 c2) (p14 c1 c2)).trans ?_
      refine (rg_iaload (pc := 109) (dd bX6_isSame dX6_isSame_109) s10.2.2.1 s10.2.2.2.1 (p15 c1 c2) (p16 c1 c2) rfl).trans ?_
      refine (rn_icmp_eq (t := 115) (pc := 110) (dd bX6_isSame dX6_isSame_110) rfl).trans (itec (fun c3 => ?_) (fun c3 => ?_))
      · refine (rg_iinc (pc := 115) (dd bX6_isSame dX6_isSame_115) rfl (Nat.le_of_ble_eq_true rfl) (p17 c1 c2 c3) (by have z0 := p17 c1 c2 c3; omega) rfl).trans ?_
        refine (rn_goto (t := 65) (pc := 118) (dd bX6_isSame dX6_isSame_118) rfl).trans ?_
        rfl
      · refine (rn_iconst (pc := 113) (dd bX6_isSame dX6_isSame_113) (by decide)).trans ?_
        exact rn_ireturn (pc := 114) (dd bX6_isSame dX6_isSame_114) (Or.inr ⟨rfl, (by decide)⟩)
theorem bX6_differentRows : vmB mX6_differentRows = cX6_differentRows := rfl
theorem rX6_differentRows_0 {x0 : Int} {x1 : Int} {x2 : Int} {h : vH} : vrun mX6_differentRows 0 [(1, x0), (1, x1), (0, x2), (9, 0), (9, 0)] [] h = vrun mX6_differentRows 5 [(1, x0), (1, x1), (0, x2), (0, 0), (0, 0)] [] h := by
  refine (rn_iconst (pc := 0) (dd bX6_differentRows dX6_differentRows_0) (by decide)).trans ?_
  refine (rn_istore_n (pc := 1) (dd bX6_differentRows dX6_differentRows_1) (Nat.le_of_ble_eq_true rfl) rfl).trans ?_
  refine (rn_iconst (pc := 2) (dd bX6_differentRows dX6_differentRows_2) (by decide)).trans ?_
  refine (rn_istore (pc := 3) (dd bX6_differentRows dX6_differentRows_3) (Nat.le_of_ble_eq_true rfl) rfl).trans ?_
  rfl
theorem rX6_differentRows_5 {x0 : Int} {x1 : Int} {x2 : Int} {x3 : Int} {x4 : Int} {h : vH} (s1 : shPicture h x0) (p2 : ¬ (h 803 x0 0 ≤ x4) → (-2147483648) ≤ x4 + x2) (p3 : ¬ (h 803 x0 0 ≤ x4) → x4 + x2 < 2147483648) : vrun mX6_differentRows 5 [(1, x0), (1, x1), (0, x2), (0, x3), (0, x4)] [] h = if h 803 x0 0 ≤ x4 then some (.inl (some (0, x3)), h) else vret vrun mX6_differentRows 22 [(1, x0), (1, x1), (0, x2), (0, x3), (0, x4)] [] (vcl mX6_isSame [(1, x0), (0, x4), (1, x1), (0, x4 + x2)] h) := by
  refine (rn_iload (pc := 5) (dd bX6_differentRows dX6_differentRows_5) rfl).trans ?_
  refine (rn_aload_n (pc := 7) (dd bX6_differentRows dX6_differentRows_7) rfl).trans ?_
  refine (rg_gf (pc := 8) (dd bX6_differentRows dX6_differentRows_8) (ci := 7) (j := 3) rfl rfl (key := 803) rfl (kc := 27) rfl s1.1 rfl).trans ?_
  refine (rn_icmp_ge (t := 37) (pc := 11) (dd bX6_differentRows dX6_differentRows_11) rfl).trans (itec (fun c1 => ?_) (fun c1 => ?_))
  · refine (rn_iload_n (pc := 37) (dd bX6_differentRows dX6_differentRows_37) rfl).trans ?_
    exact rn_ireturn (pc := 38) (dd bX6_differentRows dX6_differentRows_38) (Or.inl rfl)
  · refine (rn_aload_n (pc := 14) (dd bX6_differentRows dX6_differentRows_14) rfl).trans ?_
    refine (rn_iload (pc := 15) (dd bX6_differentRows dX6_differentRows_15) rfl).trans ?_
    refine (rn_aload_n (pc := 17) (dd bX6_differentRows dX6_differentRows_17) rfl).trans ?_
    refine (rn_iload (pc := 18) (dd bX6_differentRows dX6_differentRows_18) rfl).trans ?_
    refine (rn_iload_n (pc := 20) (dd bX6_differentRows dX6_differentRows_20) rfl).trans ?_
    refine (rg_iadd (pc := 21) (dd bX6_differentRows dX6_differentRows_21) (p2 c1) (p3 c1)).trans ?_
    exact rg_virtual (pc := 22) (dd bX6_differentRows dX6_differentRows_22) rfl rfl (by decide) (kc := 27) rfl s1.1 (as := [(1, x0), (0, x4), (1, x1), (0, x4 + x2)]) rfl ⟨Nat.le_of_ble_eq_true rfl, Nat.le_of_ble_eq_true rfl, Nat.le_of_ble_eq_true rfl, Nat.le_of_ble_eq_true rfl⟩
theorem rX6_differentRows_25 {x0 : Int} {x1 : Int} {x2 : Int} {x3 : Int} {x4 : Int} {y0 : Int} {h : vH} (p1 : y0 = 0 → (-2147483648) ≤ x3 + 1) (p2 : y0 = 0 → x3 + 1 < 2147483648) (p3 : (-2147483648) ≤ x4 + 1) (p4 : x4 + 1 < 2147483648) : vrun mX6_differentRows 25 [(1, x0), (1, x1), (0, x2), (0, x3), (0, x4)] [(0, y0)] h = vrun mX6_differentRows 5 [(1, x0), (1, x1), (0, x2), (0, (if y0 = 0 then x3 + 1 else x3)), (0, x4 + 1)] [] h := by
  have e1 : vrun mX6_differentRows 25 [(1, x0), (1, x1), (0, x2), (0, x3), (0, x4)] [(0, y0)] h = vrun mX6_differentRows 31 [(1, x0), (1, x1), (0, x2), (0, (if y0 = 0 then x3 + 1 else x3)), (0, x4)] [] h := by
    refine (rg_if_ne (t := 31) (pc := 25) (dd bX6_differentRows dX6_differentRows_25) rfl).trans ?_
    by_cases c1 : y0 = 0
    · refine (if_pos c1).trans ?_
      refine (rg_iinc (pc := 28) (dd bX6_differentRows dX6_differentRows_28) rfl (Nat.le_of_ble_eq_true rfl) (p1 c1) (p2 c1) rfl).trans ?_
      refine Eq.trans (b := vrun mX6_differentRows 31 [(1, x0), (1, x1), (0, x2), (0, x3 + 1), (0, x4)] [] h) rfl ?_
      simp only [if_pos c1]
    · refine (if_neg c1).trans ?_
      refine Eq.trans (b := vrun mX6_differentRows 31 [(1, x0), (1, x1), (0, x2), (0, x3), (0, x4)] [] h) rfl ?_
      simp only [if_neg c1]
  refine e1.trans ?_
  refine (rg_iinc (pc := 31) (dd bX6_differentRows dX6_differentRows_31) rfl (Nat.le_of_ble_eq_true rfl) p3 p4 rfl).trans ?_
  refine (rn_goto (t := 5) (pc := 34) (dd bX6_differentRows dX6_differentRows_34) rfl).trans ?_
  rfl

