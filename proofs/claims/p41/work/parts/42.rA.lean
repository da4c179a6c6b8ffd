theorem bJ3_checkIndex_8e157 : vmB mJ3_checkIndex_8e157 = cJ3_checkIndex_8e157 := rfl
theorem rJ3_checkIndex_8e157_0 {x0 : Int} {x1 : Int} {x2 : Int} {h : vH} (p1 : ¬ (x0 < 0)) (p2 : x0 < x1) : vrun mJ3_checkIndex_8e157 0 [(0, x0), (0, x1), (1, x2)] [] h = some (.inl (some (0, x0)), h) := by
  refine (rn_iload_n (pc := 0) (dd bJ3_checkIndex_8e157 dJ3_checkIndex_8e157_0) rfl).trans ?_
  refine (rn_if_lt (t := 9) (pc := 1) (dd bJ3_checkIndex_8e157 dJ3_checkIndex_8e157_1) rfl).trans ((if_neg p1).trans ?_)
  refine (rn_iload_n (pc := 4) (dd bJ3_checkIndex_8e157 dJ3_checkIndex_8e157_4) rfl).trans ?_
  refine (rn_iload_n (pc := 5) (dd bJ3_checkIndex_8e157 dJ3_checkIndex_8e157_5) rfl).trans ?_
  refine (rn_icmp_lt (t := 16) (pc := 6) (dd bJ3_checkIndex_8e157 dJ3_checkIndex_8e157_6) rfl).trans ((if_pos p2).trans ?_)
  refine (rn_iload_n (pc := 16) (dd bJ3_checkIndex_8e157 dJ3_checkIndex_8e157_16) rfl).trans ?_
  exact rn_ireturn (pc := 17) (dd bJ3_checkIndex_8e157 dJ3_checkIndex_8e157_17) (Or.inl rfl)
theorem spJ3_checkIndex_8e157 {x0 : Int} {x1 : Int} {x2 : Int} {h : vH} (p1 : ¬ (x0 < 0)) (p2 : x0 < x1) : vcl mJ3_checkIndex_8e157 [(0, x0), (0, x1), (1, x2)] h = some (.inl (some (0, x0)), h) := by
  refine (show _ = _ from rJ3_checkIndex_8e157_0 p1 p2).trans ?_
  rfl
theorem bJ15_checkIndex_7cf53 : vmB mJ15_checkIndex_7cf53 = cJ15_checkIndex_7cf53 := rfl
theorem rJ15_checkIndex_7cf53_0 {x0 : Int} {x1 : Int} {h : vH} (p1 : ¬ (x0 < 0)) (p2 : x0 < x1) : vrun mJ15_checkIndex_7cf53 0 [(0, x0), (0, x1)] [] h = some (.inl (some (0, x0)), h) := by
  refine (rn_iload_n (pc := 0) (dd bJ15_checkIndex_7cf53 dJ15_checkIndex_7cf53_0) rfl).trans ?_
  refine (rn_iload_n (pc := 1) (dd bJ15_checkIndex_7cf53 dJ15_checkIndex_7cf53_1) rfl).trans ?_
  refine (rn_aconst_null (pc := 2) (dd bJ15_checkIndex_7cf53 dJ15_checkIndex_7cf53_2)).trans ?_
  refine (rg_static (pc := 3) (dd bJ15_checkIndex_7cf53 dJ15_checkIndex_7cf53_3) rfl (by decide) (Nat.le_of_ble_eq_true rfl) (as := [(0, x0), (0, x1), (1, 0)]) rfl rfl ⟨Nat.le_of_ble_eq_true rfl, Nat.le_of_ble_eq_true rfl, Nat.le_of_ble_eq_true rfl, Nat.le_of_ble_eq_true rfl⟩).trans ?_
  refine (vret_v (spJ3_checkIndex_8e157 p1 p2)).trans ?_
  exact rn_ireturn (pc := 6) (dd bJ15_checkIndex_7cf53 dJ15_checkIndex_7cf53_6) (Or.inl rfl)
theorem spJ15_checkIndex_7cf53 {x0 : Int} {x1 : Int} {h : vH} (p1 : ¬ (x0 < 0)) (p2 : x0 < x1) : vcl mJ15_checkIndex_7cf53 [(0, x0), (0, x1)] h = some (.inl (some (0, x0)), h) := by
  refine (show _ = _ from rJ15_checkIndex_7cf53_0 p1 p2).trans ?_
  rfl
theorem bJx4a65c_init_da8c8 : vmB mJx4a65c_init_da8c8 = cJx4a65c_init_da8c8 := rfl
theorem bJx4a65c_size_8abf5 : vmB mJx4a65c_size_8abf5 = cJx4a65c_size_8abf5 := rfl
theorem rJx4a65c_size_8abf5_0 {x0 : Int} {h : vH} (s1 : shList h x0) : vrun mJx4a65c_size_8abf5 0 [(1, x0)] [] h = some (.inl (some (0, h 102 x0 0)), h) := by
  refine (rn_aload_n (pc := 0) (dd bJx4a65c_size_8abf5 dJx4a65c_size_8abf5_0) rfl).trans ?_
  refine (rg_gf (pc := 1) (dd bJx4a65c_size_8abf5 dJx4a65c_size_8abf5_1) (ci := 0) (j := 2) rfl rfl (key := 102) rfl (kc := 20) rfl s1 rfl).trans ?_
  exact rn_ireturn (pc := 4) (dd bJx4a65c_size_8abf5 dJx4a65c_size_8abf5_4) (Or.inl rfl)
theorem spJx4a65c_size_8abf5 {x0 : Int} {h : vH} (s1 : shList h x0) : vcl mJx4a65c_size_8abf5 [(1, x0)] h = some (.inl (some (0, h 102 x0 0)), h) := by
  refine (show _ = _ from rJx4a65c_size_8abf5_0 s1).trans ?_
  rfl
theorem bJx4a65c_elementData_915e3 : vmB mJx4a65c_elementData_915e3 = cJx4a65c_elementData_915e3 := rfl
theorem rJx4a65c_elementData_915e3_0 {x0 : Int} {x1 : Int} {h : vH} (s1 : shList h x0) (p2 : h 0 (h 101 x0 0) 0 = 6) (p3 : 0 ≤ x1) (p4 : x1 < h 1 (h 101 x0 0) 0) : vrun mJx4a65c_elementData_915e3 0 [(1, x0), (0, x1)] [] h = some (.inl (some (1, h 2 (h 101 x0 0) x1)), h) := by
  refine (rn_aload_n (pc := 0) (dd bJx4a65c_elementData_915e3 dJx4a65c_elementData_915e3_0) rfl).trans ?_
  refine (rg_gf (pc := 1) (dd bJx4a65c_elementData_915e3 dJx4a65c_elementData_915e3_1) (ci := 0) (j := 1) rfl rfl (key := 101) rfl (kc := 20) rfl s1 rfl).trans ?_
  refine (rn_iload_n (pc := 4) (dd bJx4a65c_elementData_915e3 dJx4a65c_elementData_915e3_4) rfl).trans ?_
  refine (rg_aaload (pc := 5) (dd bJx4a65c_elementData_915e3 dJx4a65c_elementData_915e3_5) p2 (by decide) rfl p3 p4 rfl).trans ?_
  exact rn_areturn (pc := 6) (dd bJx4a65c_elementData_915e3 dJx4a65c_elementData_915e3_6) rfl
theorem spJx4a65c_elementData_915e3 {x0 : Int} {x1 : Int} {h : vH} (s1 : shList h x0) (p2 : h 0 (h 101 x0 0) 0 = 6) (p3 : 0 ≤ x1) (p4 : x1 < h 1 (h 101 x0 0) 0) : vcl mJx4a65c_elementData_915e3 [(1, x0), (0, x1)] h = some (.inl (some (1, h 2 (h 101 x0 0) x1)), h) := by
  refine (show _ = _ from rJx4a65c_elementData_915e3_0 s1 p2 p3 p4).trans ?_
  rfl
theorem bJx4a65c_get_915e3 : vmB mJx4a65c_get_915e3 = cJx4a65c_get_915e3 := rfl
theorem rJx4a65c_get_915e3_0 {x0 : Int} {x1 : Int} {h : vH} (s1 : shList h x0) (p2 : ¬ (x1 < 0)) (p3 : x1 < h 102 x0 0) (p4 : h 0 (h 101 x0 0) 0 = 6) (p5 : 0 ≤ x1) (p6 : x1 < h 1 (h 101 x0 0) 0) : vrun mJx4a65c_get_915e3 0 [(1, x0), (0, x1)] [] h = some (.inl (some (1, h 2 (h 101 x0 0) x1)), h) := by
  refine (rn_iload_n (pc := 0) (dd bJx4a65c_get_915e3 dJx4a65c_get_915e3_0) rfl).trans ?_
  refine (rn_aload_n (pc := 1) (dd bJx4a65c_get_915e3 dJx4a65c_get_915e3_1) rfl).trans ?_
  refine (rg_gf (pc := 2) (dd bJx4a65c_get_915e3 dJx4a65c_get_915e3_2) (ci := 0) (j := 2) rfl rfl (key := 102) rfl (kc := 20) rfl s1 rfl).trans ?_
  refine (rg_static (pc := 5) (dd bJx4a65c_get_915e3 dJx4a65c_get_915e3_5) rfl (by decide) (Nat.le_of_ble_eq_true rfl) (as := [(0, x1), (0, h 102 x0 0)]) rfl rfl ⟨Nat.le_of_ble_eq_true rfl, Nat.le_of_ble_eq_true rfl, Nat.le_of_ble_eq_true rfl, Nat.le_of_ble_eq_true rfl⟩).trans ?_
  refine (vret_v (spJ15_checkIndex_7cf53 p2 p3)).trans ?_
  refine (rn_pop (pc := 8) (dd bJx4a65c_get_915e3 dJx4a65c_get_915e3_8) (by decide)).trans ?_
  refine (rn_aload_n (pc := 9) (dd bJx4a65c_get_915e3 dJx4a65c_get_915e3_9) rfl).trans ?_
  refine (rn_iload_n (pc := 10) (dd bJx4a65c_get_915e3 dJx4a65c_get_915e3_10) rfl).trans ?_
  refine (rg_virtual (pc := 11) (dd bJx4a65c_get_915e3 dJx4a65c_get_915e3_11) rfl rfl (by decide) (kc := 20) rfl s1 (as := [(1, x0), (0, x1)]) rfl ⟨Nat.le_of_ble_eq_true rfl, Nat.le_of_ble_eq_true rfl, Nat.le_of_ble_eq_true rfl, Nat.le_of_ble_eq_true rfl⟩).trans ?_
  refine (vret_v (spJx4a65c_elementData_915e3 s1 p4 p5 p6)).trans ?_
  exact rn_areturn (pc := 14) (dd bJx4a65c_get_915e3 dJx4a65c_get_915e3_14) rfl
theorem spJx4a65c_get_915e3 {x0 : Int} {x1 : Int} {h : vH} (s1 : shList h x0) (p2 : ¬ (x1 < 0)) (p3 : x1 < h 102 x0 0) (p4 : h 0 (h 101 x0 0) 0 = 6) (p5 : 0 ≤ x1) (p6 : x1 < h 1 (h 101 x0 0) 0) : vcl mJx4a65c_get_915e3 [(1, x0), (0, x1)] h = some (.inl (some (1, h 2 (h 101 x0 0) x1)), h) := by
  refine (show _ = _ from rJx4a65c_get_915e3_0 s1 p2 p3 p4 p5 p6).trans ?_
  rfl
theorem bJx4a65c_remove_915e3 : vmB mJx4a65c_remove_915e3 = cJx4a65c_remove_915e3 := rfl
theorem rJx4a65c_remove_915e3_0 {x0 : Int} {x1 : Int} {h : vH} (s1 : shList h x0) (p2 : ¬ (x1 < 0)) (p3 : x1 < h 102 x0 0) (p4 : h 0 (h 101 x0 0) 0 = 6) (p5 : 0 ≤ x1) (p6 : x1 < h 1 (h 101 x0 0) 0) : vrun mJx4a65c_remove_915e3 0 [(1, x0), (0, x1), (9, 0), (9, 0)] [] h = vret vrun mJx4a65c_remove_915e3 21 [(1, x0), (0, x1), (1, h 101 x0 0), (1, h 2 (h 101 x0 0) x1)] [] (vcl mJx4a65c_fastRemove_b59b0 [(1, x0), (1, h 101 x0 0), (0, x1)] h) := by
  refine (rn_iload_n (pc := 0) (dd bJx4a65c_remove_915e3 dJx4a65c_remove_915e3_0) rfl).trans ?_
  refine (rn_aload_n (pc := 1) (dd bJx4a65c_remove_915e3 dJx4a65c_remove_915e3_1) rfl).trans ?_
  refine (rg_gf (pc := 2) (dd bJx4a65c_remove_915e3 dJx4a65c_remove_915e3_2) (ci := 0) (j := 2) rfl rfl (key := 102) rfl (kc := 20) rfl s1 rfl).trans ?_
  refine (rg_static (pc := 5) (dd bJx4a65c_remove_915e3 dJx4a65c_remove_915e3_5) rfl (by decide) (Nat.le_of_ble_eq_true rfl) (as := [(0, x1), (0, h 102 x0 0)]) rfl rfl ⟨Nat.le_of_ble_eq_true rfl, Nat.le_of_ble_eq_true rfl, Nat.le_of_ble_eq_true rfl, Nat.le_of_ble_eq_true rfl⟩).trans ?_
  refine (vret_v (spJ15_checkIndex_7cf53 p2 p3)).trans ?_
  refine (rn_pop (pc := 8) (dd bJx4a65c_remove_915e3 dJx4a65c_remove_915e3_8) (by decide)).trans ?_
  refine (rn_aload_n (pc := 9) (dd bJx4a65c_remove_915e3 dJx4a65c_remove_915e3_9) rfl).trans ?_
  refine (rg_gf (pc := 10) (dd bJx4a65c_remove_915e3 dJx4a65c_remove_915e3_10) (ci := 0) (j := 1) rfl rfl (key := 101) rfl (kc := 20) rfl s1 rfl).trans ?_
  refine (rn_astore_n (pc := 13) (dd bJx4a65c_remove_915e3 dJx4a65c_remove_915e3_13) (Nat.le_of_ble_eq_true rfl) rfl).trans ?_
  refine (rn_aload_n (pc := 14) (dd bJx4a65c_remove_915e3 dJx4a65c_remove_915e3_14) rfl).trans ?_
  refine (rn_iload_n (pc := 15) (dd bJx4a65c_remove_915e3 dJx4a65c_remove_915e3_15) rfl).trans ?_
  refine (rg_aaload (pc := 16) (dd bJx4a65c_remove_915e3 dJx4a65c_remove_915e3_16) p4 (by decide) rfl p5 p6 rfl).trans ?_
  refine (rn_astore_n (pc := 17) (dd bJx4a65c_remove_915e3 dJx4a65c_remove_915e3_17) (Nat.le_of_ble_eq_true rfl) rfl).trans ?_
  refine (rn_aload_n (pc := 18) (dd bJx4a65c_remove_915e3 dJx4a65c_remove_915e3_18) rfl).trans ?_
  refine (rn_aload_n (pc := 19) (dd bJx4a65c_remove_915e3 dJx4a65c_remove_915e3_19) rfl).trans ?_
  refine (rn_iload_n (pc := 20) (dd bJx4a65c_remove_915e3 dJx4a65c_remove_915e3_20) rfl).trans ?_
  exact rg_virtual (pc := 21) (dd bJx4a65c_remove_915e3 dJx4a65c_remove_915e3_21) rfl rfl (by decide) (kc := 20) rfl s1 (as := [(1, x0), (1, h 101 x0 0), (0, x1)]) rfl ⟨Nat.le_of_ble_eq_true rfl, Nat.le_of_ble_eq_true rfl, Nat.le_of_ble_eq_true rfl, Nat.le_of_ble_eq_true rfl⟩
theorem rJx4a65c_remove_915e3_24 {x0 : Int} {x1 : Int} {x2 : Int} {x3 : Int} {h : vH} : vrun mJx4a65c_remove_915e3 24 [(1, x0), (0, x1), (1, x2), (1, x3)] [] h = some (.inl (some (1, x3)), h) := by
  refine (rn_aload_n (pc := 24) (dd bJx4a65c_remove_915e3 dJx4a65c_remove_915e3_24) rfl).trans ?_
  exact rn_areturn (pc := 25) (dd bJx4a65c_remove_915e3 dJx4a65c_remove_915e3_25) rfl
theorem bJx4a65c_grow_d5877 : vmB mJx4a65c_grow_d5877 = cJx4a65c_grow_d5877 := rfl
theorem rJx4a65c_grow_d5877_0 {x0 : Int} {h : vH} (s1 : shList h x0) (p2 : (-2147483648) ≤ h 102 x0 0 + 1) (p3 : h 102 x0 0 + 1 < 2147483648) : vrun mJx4a65c_grow_d5877 0 [(1, x0)] [] h = vret vrun mJx4a65c_grow_d5877 7 [(1, x0)] [] (vcl mJx4a65c_grow_92f84 [(1, x0), (0, h 102 x0 0 + 1)] h) := by
  refine (rn_aload_n (pc := 0) (dd bJx4a65c_grow_d5877 dJx4a65c_grow_d5877_0) rfl).trans ?_
  refine (rn_aload_n (pc := 1) (dd bJx4a65c_grow_d5877 dJx4a65c_grow_d5877_1) rfl).trans ?_
  refine (rg_gf (pc := 2) (dd bJx4a65c_grow_d5877 dJx4a65c_grow_d5877_2) (ci := 0) (j := 2) rfl rfl (key := 102) rfl (kc := 20) rfl s1 rfl).trans ?_
  refine (rn_iconst (pc := 5) (dd bJx4a65c_grow_d5877 dJx4a65c_grow_d5877_5) (by decide)).trans ?_
  refine (rg_iadd (pc := 6) (dd bJx4a65c_grow_d5877 dJx4a65c_grow_d5877_6) p2 p3).trans ?_
  exact rg_virtual (pc := 7) (dd bJx4a65c_grow_d5877 dJx4a65c_grow_d5877_7) rfl rfl (by decide) (kc := 20) rfl s1 (as := [(1, x0), (0, h 102 x0 0 + 1)]) rfl ⟨Nat.le_of_ble_eq_true rfl, Nat.le_of_ble_eq_true rfl, Nat.le_of_ble_eq_true rfl, Nat.le_of_ble_eq_true rfl⟩
theorem rJx4a65c_grow_d5877_10 {x0 : Int} {y0 : Int} {h : vH} : vrun mJx4a65c_grow_d5877 10 [(1, x0)] [(1, y0)] h = some (.inl (some (1, y0)), h) := by
  exact rn_areturn (pc := 10) (dd bJx4a65c_grow_d5877 dJx4a65c_grow_d5877_10) rfl
theorem bJx4a65c_add_72be8 : vmB mJx4a65c_add_72be8 = cJx4a65c_add_72be8 := rfl
theorem rJx4a65c_add_72be8_0 {x0 : Int} {x1 : Int} {x2 : Int} {x3 : Int} {h : vH} (p1 : h 0 x2 0 = 6) (s2 : shList h x0) (p3 : ¬ (x3 = h 1 x2 0) → h 0 x1 0 = 22 ∨ h 0 x1 0 = 29 ∨ h 0 x1 0 = 32) (p4 : ¬ (x3 = h 1 x2 0) → 0 ≤ x3) (p5 : ¬ (x3 = h 1 x2 0) → x3 < h 1 x2 0) (p6 : ¬ (x3 = h 1 x2 0) → x3 + 1 < 2147483648) : vrun mJx4a65c_add_72be8 0 [(1, x0), (1, x1), (1, x2), (0, x3)] [] h = if x3 = h 1 x2 0 then vret vrun mJx4a65c_add_72be8 7 [(1, x0), (1, x1), (1, x2), (0, x3)] [] (vcl mJx4a65c_grow_d5877 [(1, x0)] h) else some (.inl none, vup (vup h 2 x2 x3 x1) 102 x0 0 (x3 + 1)) := by
  refine (rn_iload_n (pc := 0) (dd bJx4a65c_add_72be8 dJx4a65c_add_72be8_0) rfl).trans ?_
  refine (rn_aload_n (pc := 1) (dd bJx4a65c_add_72be8 dJx4a65c_add_72be8_1) rfl).trans ?_
  refine (rg_alen (pc := 2) (dd bJx4a65c_add_72be8 dJx4a65c_add_72be8_2) (k := 6) p1 (by decide) rfl).trans ?_
  refine (rg_icmp_ne (t := 11) (pc := 3) (dd bJx4a65c_add_72be8 dJx4a65c_add_72be8_3) rfl).trans (itec (fun c1 => ?_) (fun c1 => ?_))
  · refine (rn_aload_n (pc := 6) (dd bJx4a65c_add_72be8 dJx4a65c_add_72be8_6) rfl).trans ?_
    exact rg_virtual (pc := 7) (dd bJx4a65c_add_72be8 dJx4a65c_add_72be8_7) rfl rfl (by decide) (kc := 20) rfl s2 (as := [(1, x0)]) rfl ⟨Nat.le_of_ble_eq_true rfl, Nat.le_of_ble_eq_true rfl, Nat.le_of_ble_eq_true rfl, Nat.le_of_ble_eq_true rfl⟩
  · refine (rn_aload_n (pc := 11) (dd bJx4a65c_add_72be8 dJx4a65c_add_72be8_11) rfl).trans ?_
    refine (rn_iload_n (pc := 12) (dd bJx4a65c_add_72be8 dJx4a65c_add_72be8_12) rfl).trans ?_
    refine (rn_aload_n (pc := 13) (dd bJx4a65c_add_72be8 dJx4a65c_add_72be8_13) rfl).trans ?_
    refine (rg_aastore (pc := 14) (dd bJx4a65c_add_72be8 dJx4a65c_add_72be8_14) (kc := 6) p1 rfl (p4 c1) (p5 c1) (Or.inr (Or.inr ⟨rfl, Or.inr (p3 c1)⟩))).trans ?_
    refine (rn_aload_n (pc := 15) (dd bJx4a65c_add_72be8 dJx4a65c_add_72be8_15) rfl).trans ?_
    refine (rn_iload_n (pc := 16) (dd bJx4a65c_add_72be8 dJx4a65c_add_72be8_16) rfl).trans ?_
    refine (rn_iconst (pc := 17) (dd bJx4a65c_add_72be8 dJx4a65c_add_72be8_17) (by decide)).trans ?_
    refine (rg_iadd (pc := 18) (dd bJx4a65c_add_72be8 dJx4a65c_add_72be8_18) (by have z0 := p4 c1; omega) (p6 c1)).trans ?_
    refine (rg_pf (pc := 19) (dd bJx4a65c_add_72be8 dJx4a65c_add_72be8_19) (ci := 0) (j := 2) rfl (key := 102) rfl (kc := 20) rfl ((vup_k (by decide)).trans s2) rfl (by intro z; cases z) (by decide)).trans ?_
    exact rn_return (pc := 22) (dd bJx4a65c_add_72be8 dJx4a65c_add_72be8_22) rfl
theorem rJx4a65c_add_72be8_10 {x0 : Int} {x1 : Int} {x2 : Int} {x3 : Int} {y0 : Int} {h : vH} (p1 : h 0 y0 0 = 6) (p2 : h 0 x1 0 = 22 ∨ h 0 x1 0 = 29 ∨ h 0 x1 0 = 32) (p3 : 0 ≤ x3) (p4 : x3 < h 1 y0 0) (p5 : x3 + 1 < 2147483648) (s6 : shList h x0) : vrun mJx4a65c_add_72be8 10 [(1, x0), (1, x1), (1, x2), (0, x3)] [(1, y0)] h = some (.inl none, vup (vup h 2 y0 x3 x1) 102 x0 0 (x3 + 1)) := by
  refine (rn_astore_n (pc := 10) (dd bJx4a65c_add_72be8 dJx4a65c_add_72be8_10) (Nat.le_of_ble_eq_true rfl) rfl).trans ?_
  refine (rn_aload_n (pc := 11) (dd bJx4a65c_add_72be8 dJx4a65c_add_72be8_11) rfl).trans ?_
  refine (rn_iload_n (pc := 12) (dd bJx4a65c_add_72be8 dJx4a65c_add_72be8_12) rfl).trans ?_
  refine (rn_aload_n (pc := 13) (dd bJx4a65c_add_72be8 dJx4a65c_add_72be8_13) rfl).trans ?_
  refine (rg_aastore (pc := 14) (dd bJx4a65c_add_72be8 dJx4a65c_add_72be8_14) (kc := 6) p1 rfl p3 p4 (Or.inr (Or.inr ⟨rfl, Or.inr p2⟩))).trans ?_
  refine (rn_aload_n (pc := 15) (dd bJx4a65c_add_72be8 dJx4a65c_add_72be8_15) rfl).trans ?_
  refine (rn_iload_n (pc := 16) (dd bJx4a65c_add_72be8 dJx4a65c_add_72be8_16) rfl).trans ?_
  refine (rn_iconst (pc := 17) (dd bJx4a65c_add_72be8 dJx4a65c_add_72be8_17) (by decide)).trans ?_
  refine (rg_iadd (pc := 18) (dd bJx4a65c_add_72be8 dJx4a65c_add_72be8_18) (by omega) p5).trans ?_
  refine (rg_pf (pc := 19) (dd bJx4a65c_add_72be8 dJx4a65c_add_72be8_19) (ci := 0) (j := 2) rfl (key := 102) rfl (kc := 20) rfl ((vup_k (by decide)).trans s6) rfl (by intro z; cases z) (by decide)).trans ?_
  exact rn_return (pc := 22) (dd bJx4a65c_add_72be8 dJx4a65c_add_72be8_22) rfl
theorem bJx4a65c_add_9ea2d : vmB mJx4a65c_add_9ea2d = cJx4a65c_add_9ea2d := rfl
theorem rJx4a65c_add_9ea2d_0 {x0 : Int} {x1 : Int} {h : vH} (s1 : shList h x0) : vrun mJx4a65c_add_9ea2d 0 [(1, x0), (1, x1)] [] h = vret vrun mJx4a65c_add_9ea2d 20 [(1, x0), (1, x1)] [] (vcl mJx4a65c_add_72be8 [(1, x0), (1, x1), (1, h 101 x0 0), (0, h 102 x0 0)] (vup h 100 x0 0 (w32 (h 100 x0 0 + 1)))) := by
  refine (rn_aload_n (pc := 0) (dd bJx4a65c_add_9ea2d dJx4a65c_add_9ea2d_0) rfl).trans ?_
  refine (rn_dup (pc := 1) (dd bJx4a65c_add_9ea2d dJx4a65c_add_9ea2d_1) (by decide)).trans ?_
  refine (rg_gf (pc := 2) (dd bJx4a65c_add_9ea2d dJx4a65c_add_9ea2d_2) (ci := 0) (j := 0) rfl rfl (key := 100) rfl (kc := 20) rfl s1 rfl).trans ?_
  refine (rn_iconst (pc := 5) (dd bJx4a65c_add_9ea2d dJx4a65c_add_9ea2d_5) (by decide)).trans ?_
  refine (rn_iadd (pc := 6) (dd bJx4a65c_add_9ea2d dJx4a65c_add_9ea2d_6)).trans ?_
  refine (rg_pf (pc := 7) (dd bJx4a65c_add_9ea2d dJx4a65c_add_9ea2d_7) (ci := 0) (j := 0) rfl (key := 100) rfl (kc := 20) rfl s1 rfl (by intro z; cases z) (by decide)).trans ?_
  refine (rn_aload_n (pc := 10) (dd bJx4a65c_add_9ea2d dJx4a65c_add_9ea2d_10) rfl).trans ?_
  refine (rn_aload_n (pc := 11) (dd bJx4a65c_add_9ea2d dJx4a65c_add_9ea2d_11) rfl).trans ?_
  refine (rn_aload_n (pc := 12) (dd bJx4a65c_add_9ea2d dJx4a65c_add_9ea2d_12) rfl).trans ?_
  refine (rg_gf (pc := 13) (dd bJx4a65c_add_9ea2d dJx4a65c_add_9ea2d_13) (ci := 0) (j := 1) rfl rfl (key := 101) rfl (kc := 20) rfl ((vup_k (by decide)).trans s1) ((vup_k (by decide)).trans rfl)).trans ?_
  refine (rn_aload_n (pc := 16) (dd bJx4a65c_add_9ea2d dJx4a65c_add_9ea2d_16) rfl).trans ?_
  refine (rg_gf (pc := 17) (dd bJx4a65c_add_9ea2d dJx4a65c_add_9ea2d_17) (ci := 0) (j := 2) rfl rfl (key := 102) rfl (kc := 20) rfl ((vup_k (by decide)).trans s1) ((vup_k (by decide)).trans rfl)).trans ?_
  exact rg_virtual (pc := 20) (dd bJx4a65c_add_9ea2d dJx4a65c_add_9ea2d_20) rfl rfl (by decide) (kc := 20) rfl ((vup_k (by decide)).trans s1) (as := [(1, x0), (1, x1), (1, h 101 x0 0), (0, h 102 x0 0)]) rfl ⟨Nat.le_of_ble_eq_true rfl, Nat.le_of_ble_eq_true rfl, Nat.le_of_ble_eq_true rfl, Nat.le_of_ble_eq_true rfl⟩
theorem rJx4a65c_add_9ea2d_23 {x0 : Int} {x1 : Int} {h : vH} : vrun mJx4a65c_add_9ea2d 23 [(1, x0), (1, x1)] [] h = some (.inl (some (0, 1)), h) := by
  refine (rn_iconst (pc := 23) (dd bJx4a65c_add_9ea2d dJx4a65c_add_9ea2d_23) (by decide)).trans ?_
  exact rn_ireturn (pc := 24) (dd bJx4a65c_add_9ea2d dJx4a65c_add_9ea2d_24) (Or.inr ⟨rfl, (by decide)⟩)

