theorem bJxa1e45_init_da8c8 : vmB mJxa1e45_init_da8c8 = cJxa1e45_init_da8c8 := rfl
theorem spCol {h : vH} {r : Int} (h0 : 0 < r) : vcl mJxa1e45_init_da8c8 [(1, r)] h = some (.inl none, h) := by
  refine vcl_as (L := [(1, r)]) rfl ?_
  refine (rn_aload_n (pc := 0) (dd bJxa1e45_init_da8c8 dJxa1e45_init_da8c8_0) rfl).trans ?_
  refine (rn_object (pc := 1) (dd bJxa1e45_init_da8c8 dJxa1e45_init_da8c8_1) rfl rfl (by omega) ⟨Nat.le_of_ble_eq_true rfl, Nat.le_of_ble_eq_true rfl, Nat.le_of_ble_eq_true rfl⟩).trans ?_
  exact rn_return (pc := 4) (dd bJxa1e45_init_da8c8 dJxa1e45_init_da8c8_4) rfl

theorem bJxc12de_init_da8c8 : vmB mJxc12de_init_da8c8 = cJxc12de_init_da8c8 := rfl
theorem spAbs {h : vH} {r s : Int} (hr : h 3 0 0 = r) (h0 : 0 < r) : vcl mJxc12de_init_da8c8 [(1, r)] (hp h [cO 20 []] s) = some (.inl none, hp h [cO 20 [(100, 0)]] s) := by
  refine vcl_as (L := [(1, r)]) rfl ?_
  refine (rn_aload_n (pc := 0) (dd bJxc12de_init_da8c8 dJxc12de_init_da8c8_0) rfl).trans ?_
  refine (rk_sup h0 (pc := 1) (dd bJxc12de_init_da8c8 dJxc12de_init_da8c8_1) rfl (by decide) rfl (as := [(1, r)]) rfl ⟨Nat.le_of_ble_eq_true rfl, Nat.le_of_ble_eq_true rfl, Nat.le_of_ble_eq_true rfl, Nat.le_of_ble_eq_true rfl⟩ (spCol h0)).trans ?_
  refine (rn_aload_n (pc := 4) (dd bJxc12de_init_da8c8 dJxc12de_init_da8c8_4) rfl).trans ?_
  refine (rn_iconst (pc := 5) (dd bJxc12de_init_da8c8 dJxc12de_init_da8c8_5) (by decide)).trans ?_
  refine (rk_pf hr h0 (pc := 6) (dd bJxc12de_init_da8c8 dJxc12de_init_da8c8_6) (ci := 0) (j := 0) rfl (key := 100) rfl (kc := 20) rfl (jj := 0) (by omega) rfl rfl (by intro z; cases z) (by decide) (by decide) (cs2 := [cO 20 [(100, 0)]]) rfl).trans ?_
  exact rn_return (pc := 9) (dd bJxc12de_init_da8c8 dJxc12de_init_da8c8_9) rfl

def ListL (r : Int) : List cC := [cO 20 [(101, 1), (100, 0)]]
theorem spList {h : vH} {r : Int} (hr : h 3 0 0 = r) (h0 : 0 < r) : vcl mJx4a65c_init_da8c8 [(1, r)] (hp h [cO 20 []] 3) = some (.inl none, hp h (ListL r) 3) := by
  refine vcl_as (L := [(1, r)]) rfl ?_
  refine (rn_aload_n (pc := 0) (dd bJx4a65c_init_da8c8 dJx4a65c_init_da8c8_0) rfl).trans ?_
  refine (rk_sup h0 (pc := 1) (dd bJx4a65c_init_da8c8 dJx4a65c_init_da8c8_1) rfl (by decide) rfl (as := [(1, r)]) rfl ⟨Nat.le_of_ble_eq_true rfl, Nat.le_of_ble_eq_true rfl, Nat.le_of_ble_eq_true rfl, Nat.le_of_ble_eq_true rfl⟩ (spAbs hr h0)).trans ?_
  refine (rn_aload_n (pc := 4) (dd bJx4a65c_init_da8c8 dJx4a65c_init_da8c8_4) rfl).trans ?_
  refine (rn_getstatic (pc := 5) (dd bJx4a65c_init_da8c8 dJx4a65c_init_da8c8_5) rfl).trans ?_
  refine (rk_pf hr h0 (pc := 8) (dd bJx4a65c_init_da8c8 dJx4a65c_init_da8c8_8) (ci := 0) (j := 1) rfl (key := 101) rfl (kc := 20) rfl (jj := 0) (by omega) rfl rfl (by intro z; cases z) (by decide) (by decide) (cs2 := [cO 20 [(101, 1), (100, 0)]]) rfl).trans ?_
  exact rn_return (pc := 11) (dd bJx4a65c_init_da8c8 dJx4a65c_init_da8c8_11) rfl

theorem bX4_init : vmB mX4_init = cX4_init := rfl
def LineL (r : Int) : List cC := [cO 25 [(600, r + 1)], xA 1 80 []]
theorem spLine {h : vH} {r : Int} (hr : h 3 0 0 = r) (h0 : 0 < r) : vcl mX4_init [(1, r)] (hp h [cO 25 []] 3) = some (.inl none, hp h (LineL r) 83) := by
  refine vcl_as (L := [(1, r)]) rfl ?_
  refine (rn_aload_n (pc := 0) (dd bX4_init dX4_init_0) rfl).trans ?_
  refine (rn_object (pc := 1) (dd bX4_init dX4_init_1) rfl rfl (by omega) ⟨Nat.le_of_ble_eq_true rfl, Nat.le_of_ble_eq_true rfl, Nat.le_of_ble_eq_true rfl⟩).trans ?_
  refine (rn_aload_n (pc := 4) (dd bX4_init dX4_init_4) rfl).trans ?_
  refine (rn_bipush (pc := 5) (dd bX4_init dX4_init_5) (by decide)).trans ?_
  refine (rk_int hr h0 (pc := 7) (dd bX4_init dX4_init_7) (by decide) (q := r + 1) rfl (cs2 := [cO 25 [], xA 1 80 []]) rfl (s2 := 83) rfl).trans ?_
  refine (rk_pf hr h0 (pc := 9) (dd bX4_init dX4_init_9) (ci := 5) (j := 0) rfl (key := 600) rfl (kc := 25) rfl (jj := 0) (by omega) rfl rfl (by intro z; cases z) (by decide) (by decide) (cs2 := [cO 25 [(600, r + 1)], xA 1 80 []]) rfl).trans ?_
  exact rn_return (pc := 12) (dd bX4_init dX4_init_12) rfl

def PlaceL (r : Int) : List cC := [cO 28 [(902, 0), (901, 0), (900, 0)]]
theorem spPlace {h : vH} {r : Int} (hr : h 3 0 0 = r) (h0 : 0 < r) : vcl mX7_init [(1, r), (0, 0), (0, 0), (0, 0)] (hp h [cO 28 []] 3) = some (.inl none, hp h (PlaceL r) 3) := by
  refine vcl_as (L := [(1, r), (0, 0), (0, 0), (0, 0)]) rfl ?_
  refine (rn_aload_n (pc := 0) (dd bX7_init dX7_init_0) rfl).trans ?_
  refine (rn_object (pc := 1) (dd bX7_init dX7_init_1) rfl rfl (by omega) ⟨Nat.le_of_ble_eq_true rfl, Nat.le_of_ble_eq_true rfl, Nat.le_of_ble_eq_true rfl⟩).trans ?_
  refine (rn_aload_n (pc := 4) (dd bX7_init dX7_init_4) rfl).trans ?_
  refine (rn_iload_n (pc := 5) (dd bX7_init dX7_init_5) rfl).trans ?_
  refine (rk_pf hr h0 (pc := 6) (dd bX7_init dX7_init_6) (ci := 8) (j := 0) rfl (key := 900) rfl (kc := 28) rfl (jj := 0) (by omega) rfl rfl (fun _ => by decide) (by decide) (by decide) (cs2 := [cO 28 [(900, 0)]]) rfl).trans ?_
  refine (rn_aload_n (pc := 9) (dd bX7_init dX7_init_9) rfl).trans ?_
  refine (rn_iload_n (pc := 10) (dd bX7_init dX7_init_10) rfl).trans ?_
  refine (rk_pf hr h0 (pc := 11) (dd bX7_init dX7_init_11) (ci := 8) (j := 1) rfl (key := 901) rfl (kc := 28) rfl (jj := 0) (by omega) rfl rfl (by intro z; cases z) (by decide) (by decide) (cs2 := [cO 28 [(901, 0), (900, 0)]]) rfl).trans ?_
  refine (rn_aload_n (pc := 14) (dd bX7_init dX7_init_14) rfl).trans ?_
  refine (rn_iload_n (pc := 15) (dd bX7_init dX7_init_15) rfl).trans ?_
  refine (rk_pf hr h0 (pc := 16) (dd bX7_init dX7_init_16) (ci := 8) (j := 2) rfl (key := 902) rfl (kc := 28) rfl (jj := 0) (by omega) rfl rfl (by intro z; cases z) (by decide) (by decide) (cs2 := [cO 28 [(902, 0), (901, 0), (900, 0)]]) rfl).trans ?_
  exact rn_return (pc := 19) (dd bX7_init dX7_init_19) rfl

theorem bX2_init : vmB mX2_init = cX2_init := rfl
def LayersL (r : Int) : List cC := [cO 23 [(402, r + 3), (401, r + 2), (400, r + 1)], cO 20 [(101, 1), (100, 0)], cO 20 [(101, 1), (100, 0)], cO 20 [(101, 1), (100, 0)]]
theorem spLayers {h : vH} {r : Int} (hr : h 3 0 0 = r) (h0 : 0 < r) : vcl mX2_init [(1, r)] (hp h [cO 23 []] 3) = some (.inl none, hp h (LayersL r) 12) := by
  refine vcl_as (L := [(1, r)]) rfl ?_
  refine (rn_aload_n (pc := 0) (dd bX2_init dX2_init_0) rfl).trans ?_
  refine (rn_object (pc := 1) (dd bX2_init dX2_init_1) rfl rfl (by omega) ⟨Nat.le_of_ble_eq_true rfl, Nat.le_of_ble_eq_true rfl, Nat.le_of_ble_eq_true rfl⟩).trans ?_
  refine (rn_aload_n (pc := 4) (dd bX2_init dX2_init_4) rfl).trans ?_
  refine (rk_new hr h0 (pc := 5) (dd bX2_init dX2_init_5) rfl rfl (kc := 20) rfl (nn := 3) rfl (q := r + 1) rfl (cs2 := [cO 23 [], cO 20 []]) rfl (s2 := 6) rfl).trans ?_
  refine (rn_dup (pc := 8) (dd bX2_init dX2_init_8) (by decide)).trans ?_
  refine (rk_ini (cs := [cO 23 []]) (s := 3) (cx := cO 20 []) (nn := 3) (ds := ListL (r + 1)) (t := 3) hr h0 (pc := 9) (dd bX2_init dX2_init_9) rfl (by decide) (q := r + 1) rfl rfl (as := [(1, r + 1)]) rfl ⟨Nat.le_of_ble_eq_true rfl, Nat.le_of_ble_eq_true rfl, Nat.le_of_ble_eq_true rfl, Nat.le_of_ble_eq_true rfl⟩ (fun h2 a b => spList a b) rfl rfl (cs2 := [cO 23 [], cO 20 [(101, 1), (100, 0)]]) (by simp only [ListL, List.cons_append, List.nil_append, Int.add_assoc, Int.reduceAdd]) (s2 := 6) rfl).trans ?_
  refine (rk_pf hr h0 (pc := 12) (dd bX2_init dX2_init_12) (ci := 3) (j := 0) rfl (key := 400) rfl (kc := 23) rfl (jj := 0) (by omega) rfl rfl (by intro z; cases z) (by decide) (by decide) (cs2 := [cO 23 [(400, r + 1)], cO 20 [(101, 1), (100, 0)]]) rfl).trans ?_
  refine (rn_aload_n (pc := 15) (dd bX2_init dX2_init_15) rfl).trans ?_
  refine (rk_new hr h0 (pc := 16) (dd bX2_init dX2_init_16) rfl rfl (kc := 20) rfl (nn := 3) rfl (q := r + 2) rfl (cs2 := [cO 23 [(400, r + 1)], cO 20 [(101, 1), (100, 0)], cO 20 []]) rfl (s2 := 9) rfl).trans ?_
  refine (rn_dup (pc := 19) (dd bX2_init dX2_init_19) (by decide)).trans ?_
  refine (rk_ini (cs := [cO 23 [(400, r + 1)], cO 20 [(101, 1), (100, 0)]]) (s := 6) (cx := cO 20 []) (nn := 3) (ds := ListL (r + 2)) (t := 3) hr h0 (pc := 20) (dd bX2_init dX2_init_20) rfl (by decide) (q := r + 2) rfl rfl (as := [(1, r + 2)]) rfl ⟨Nat.le_of_ble_eq_true rfl, Nat.le_of_ble_eq_true rfl, Nat.le_of_ble_eq_true rfl, Nat.le_of_ble_eq_true rfl⟩ (fun h2 a b => spList a b) rfl rfl (cs2 := [cO 23 [(400, r + 1)], cO 20 [(101, 1), (100, 0)], cO 20 [(101, 1), (100, 0)]]) (by simp only [ListL, List.cons_append, List.nil_append, Int.add_assoc, Int.reduceAdd]) (s2 := 9) rfl).trans ?_
  refine (rk_pf hr h0 (pc := 23) (dd bX2_init dX2_init_23) (ci := 3) (j := 1) rfl (key := 401) rfl (kc := 23) rfl (jj := 0) (by omega) rfl rfl (by intro z; cases z) (by decide) (by decide) (cs2 := [cO 23 [(401, r + 2), (400, r + 1)], cO 20 [(101, 1), (100, 0)], cO 20 [(101, 1), (100, 0)]]) rfl).trans ?_
  refine (rn_aload_n (pc := 26) (dd bX2_init dX2_init_26) rfl).trans ?_
  refine (rk_new hr h0 (pc := 27) (dd bX2_init dX2_init_27) rfl rfl (kc := 20) rfl (nn := 3) rfl (q := r + 3) rfl (cs2 := [cO 23 [(401, r + 2), (400, r + 1)], cO 20 [(101, 1), (100, 0)], cO 20 [(101, 1), (100, 0)], cO 20 []]) rfl (s2 := 12) rfl).trans ?_
  refine (rn_dup (pc := 30) (dd bX2_init dX2_init_30) (by decide)).trans ?_
  refine (rk_ini (cs := [cO 23 [(401, r + 2), (400, r + 1)], cO 20 [(101, 1), (100, 0)], cO 20 [(101, 1), (100, 0)]]) (s := 9) (cx := cO 20 []) (nn := 3) (ds := ListL (r + 3)) (t := 3) hr h0 (pc := 31) (dd bX2_init dX2_init_31) rfl (by decide) (q := r + 3) rfl rfl (as := [(1, r + 3)]) rfl ⟨Nat.le_of_ble_eq_true rfl, Nat.le_of_ble_eq_true rfl, Nat.le_of_ble_eq_true rfl, Nat.le_of_ble_eq_true rfl⟩ (fun h2 a b => spList a b) rfl rfl (cs2 := [cO 23 [(401, r + 2), (400, r + 1)], cO 20 [(101, 1), (100, 0)], cO 20 [(101, 1), (100, 0)], cO 20 [(101, 1), (100, 0)]]) (by simp only [ListL, List.cons_append, List.nil_append, Int.add_assoc, Int.reduceAdd]) (s2 := 12) rfl).trans ?_
  refine (rk_pf hr h0 (pc := 34) (dd bX2_init dX2_init_34) (ci := 3) (j := 2) rfl (key := 402) rfl (kc := 23) rfl (jj := 0) (by omega) rfl rfl (by intro z; cases z) (by decide) (by decide) (cs2 := [cO 23 [(402, r + 3), (401, r + 2), (400, r + 1)], cO 20 [(101, 1), (100, 0)], cO 20 [(101, 1), (100, 0)], cO 20 [(101, 1), (100, 0)]]) rfl).trans ?_
  exact rn_return (pc := 37) (dd bX2_init dX2_init_37) rfl

theorem bX3_init : vmB mX3_init = cX3_init := rfl
def LayoutL (r : Int) : List cC := [cO 24 [(508, r + 9), (507, r + 8), (506, r + 7), (505, r + 6), (504, r + 5), (503, r + 4), (502, r + 3), (501, r + 2), (500, r + 1)], xA 1 131 [], xA 1 131 [], xA 1 131 [], xA 1 131 [], xA 1 131 [], xA 1 131 [], xA 1 131 [], xA 1 131 [], xA 1 131 []]
theorem spLayout {h : vH} {r : Int} (hr : h 3 0 0 = r) (h0 : 0 < r) : vcl mX3_init [(1, r)] (hp h [cO 24 []] 14) = some (.inl none, hp h (LayoutL r) 1193) := by
  refine vcl_as (L := [(1, r)]) rfl ?_
  refine (rn_aload_n (pc := 0) (dd bX3_init dX3_init_0) rfl).trans ?_
  refine (rn_object (pc := 1) (dd bX3_init dX3_init_1) rfl rfl (by omega) ⟨Nat.le_of_ble_eq_true rfl, Nat.le_of_ble_eq_true rfl, Nat.le_of_ble_eq_true rfl⟩).trans ?_
  refine (rn_aload_n (pc := 4) (dd bX3_init dX3_init_4) rfl).trans ?_
  refine (rn_sipush (pc := 5) (dd bX3_init dX3_init_5) (by decide)).trans ?_
  refine (rk_int hr h0 (pc := 8) (dd bX3_init dX3_init_8) (by decide) (q := r + 1) rfl (cs2 := [cO 24 [], xA 1 131 []]) rfl (s2 := 145) rfl).trans ?_
  refine (rk_pf hr h0 (pc := 10) (dd bX3_init dX3_init_10) (ci := 4) (j := 0) rfl (key := 500) rfl (kc := 24) rfl (jj := 0) (by omega) rfl rfl (by intro z; cases z) (by decide) (by decide) (cs2 := [cO 24 [(500, r + 1)], xA 1 131 []]) rfl).trans ?_
  refine (rn_aload_n (pc := 13) (dd bX3_init dX3_init_13) rfl).trans ?_
  refine (rn_sipush (pc := 14) (dd bX3_init dX3_init_14) (by decide)).trans ?_
  refine (rk_int hr h0 (pc := 17) (dd bX3_init dX3_init_17) (by decide) (q := r + 2) rfl (cs2 := [cO 24 [(500, r + 1)], xA 1 131 [], xA 1 131 []]) rfl (s2 := 276) rfl).trans ?_
  refine (rk_pf hr h0 (pc := 19) (dd bX3_init dX3_init_19) (ci := 4) (j := 1) rfl (key := 501) rfl (kc := 24) rfl (jj := 0) (by omega) rfl rfl (by intro z; cases z) (by decide) (by decide) (cs2 := [cO 24 [(501, r + 2), (500, r + 1)], xA 1 131 [], xA 1 131 []]) rfl).trans ?_
  refine (rn_aload_n (pc := 22) (dd bX3_init dX3_init_22) rfl).trans ?_
  refine (rn_sipush (pc := 23) (dd bX3_init dX3_init_23) (by decide)).trans ?_
  refine (rk_int hr h0 (pc := 26) (dd bX3_init dX3_init_26) (by decide) (q := r + 3) rfl (cs2 := [cO 24 [(501, r + 2), (500, r + 1)], xA 1 131 [], xA 1 131 [], xA 1 131 []]) rfl (s2 := 407) rfl).trans ?_
  refine (rk_pf hr h0 (pc := 28) (dd bX3_init dX3_init_28) (ci := 4) (j := 2) rfl (key := 502) rfl (kc := 24) rfl (jj := 0) (by omega) rfl rfl (by intro z; cases z) (by decide) (by decide) (cs2 := [cO 24 [(502, r + 3), (501, r + 2), (500, r + 1)], xA 1 131 [], xA 1 131 [], xA 1 131 []]) rfl).trans ?_
  refine (rn_aload_n (pc := 31) (dd bX3_init dX3_init_31) rfl).trans ?_
  refine (rn_sipush (pc := 32) (dd bX3_init dX3_init_32) (by decide)).trans ?_
  refine (rk_int hr h0 (pc := 35) (dd bX3_init dX3_init_35) (by decide) (q := r + 4) rfl (cs2 := [cO 24 [(502, r + 3), (501, r + 2), (500, r + 1)], xA 1 131 [], xA 1 131 [], xA 1 131 [], xA 1 131 []]) rfl (s2 := 538) rfl).trans ?_
  refine (rk_pf hr h0 (pc := 37) (dd bX3_init dX3_init_37) (ci := 4) (j := 3) rfl (key := 503) rfl (kc := 24) rfl (jj := 0) (by omega) rfl rfl (by intro z; cases z) (by decide) (by decide) (cs2 := [cO 24 [(503, r + 4), (502, r + 3), (501, r + 2), (500, r + 1)], xA 1 131 [], xA 1 131 [], xA 1 131 [], xA 1 131 []]) rfl).trans ?_
  refine (rn_aload_n (pc := 40) (dd bX3_init dX3_init_40) rfl).trans ?_
  refine (rn_sipush (pc := 41) (dd bX3_init dX3_init_41) (by decide)).trans ?_
  refine (rk_int hr h0 (pc := 44) (dd bX3_init dX3_init_44) (by decide) (q := r + 5) rfl (cs2 := [cO 24 [(503, r + 4), (502, r + 3), (501, r + 2), (500, r + 1)], xA 1 131 [], xA 1 131 [], xA 1 131 [], xA 1 131 [], xA 1 131 []]) rfl (s2 := 669) rfl).trans ?_
  refine (rk_pf hr h0 (pc := 46) (dd bX3_init dX3_init_46) (ci := 4) (j := 4) rfl (key := 504) rfl (kc := 24) rfl (jj := 0) (by omega) rfl rfl (by intro z; cases z) (by decide) (by decide) (cs2 := [cO 24 [(504, r + 5), (503, r + 4), (502, r + 3), (501, r + 2), (500, r + 1)], xA 1 131 [], xA 1 131 [], xA 1 131 [], xA 1 131 [], xA 1 131 []]) rfl).trans ?_
  refine (rn_aload_n (pc := 49) (dd bX3_init dX3_init_49) rfl).trans ?_
  refine (rn_sipush (pc := 50) (dd bX3_init dX3_init_50) (by decide)).trans ?_
  refine (rk_int hr h0 (pc := 53) (dd bX3_init dX3_init_53) (by decide) (q := r + 6) rfl (cs2 := [cO 24 [(504, r + 5), (503, r + 4), (502, r + 3), (501, r + 2), (500, r + 1)], xA 1 131 [], xA 1 131 [], xA 1 131 [], xA 1 131 [], xA 1 131 [], xA 1 131 []]) rfl (s2 := 800) rfl).trans ?_
  refine (rk_pf hr h0 (pc := 55) (dd bX3_init dX3_init_55) (ci := 4) (j := 5) rfl (key := 505) rfl (kc := 24) rfl (jj := 0) (by omega) rfl rfl (by intro z; cases z) (by decide) (by decide) (cs2 := [cO 24 [(505, r + 6), (504, r + 5), (503, r + 4), (502, r + 3), (501, r + 2), (500, r + 1)], xA 1 131 [], xA 1 131 [], xA 1 131 [], xA 1 131 [], xA 1 131 [], xA 1 131 []]) rfl).trans ?_
  refine (rn_aload_n (pc := 58) (dd bX3_init dX3_init_58) rfl).trans ?_
  refine (rn_sipush (pc := 59) (dd bX3_init dX3_init_59) (by decide)).trans ?_
  refine (rk_int hr h0 (pc := 62) (dd bX3_init dX3_init_62) (by decide) (q := r + 7) rfl (cs2 := [cO 24 [(505, r + 6), (504, r + 5), (503, r + 4), (502, r + 3), (501, r + 2), (500, r + 1)], xA 1 131 [], xA 1 131 [], xA 1 131 [], xA 1 131 [], xA 1 131 [], xA 1 131 [], xA 1 131 []]) rfl (s2 := 931) rfl).trans ?_
  refine (rk_pf hr h0 (pc := 64) (dd bX3_init dX3_init_64) (ci := 4) (j := 6) rfl (key := 506) rfl (kc := 24) rfl (jj := 0) (by omega) rfl rfl (by intro z; cases z) (by decide) (by decide) (cs2 := [cO 24 [(506, r + 7), (505, r + 6), (504, r + 5), (503, r + 4), (502, r + 3), (501, r + 2), (500, r + 1)], xA 1 131 [], xA 1 131 [], xA 1 131 [], xA 1 131 [], xA 1 131 [], xA 1 131 [], xA 1 131 []]) rfl).trans ?_
  refine (rn_aload_n (pc := 67) (dd bX3_init dX3_init_67) rfl).trans ?_
  refine (rn_sipush (pc := 68) (dd bX3_init dX3_init_68) (by decide)).trans ?_
  refine (rk_int hr h0 (pc := 71) (dd bX3_init dX3_init_71) (by decide) (q := r + 8) rfl (cs2 := [cO 24 [(506, r + 7), (505, r + 6), (504, r + 5), (503, r + 4), (502, r + 3), (501, r + 2), (500, r + 1)], xA 1 131 [], xA 1 131 [], xA 1 131 [], xA 1 131 [], xA 1 131 [], xA 1 131 [], xA 1 131 [], xA 1 131 []]) rfl (s2 := 1062) rfl).trans ?_
  refine (rk_pf hr h0 (pc := 73) (dd bX3_init dX3_init_73) (ci := 4) (j := 7) rfl (key := 507) rfl (kc := 24) rfl (jj := 0) (by omega) rfl rfl (by intro z; cases z) (by decide) (by decide) (cs2 := [cO 24 [(507, r + 8), (506, r + 7), (505, r + 6), (504, r + 5), (503, r + 4), (502, r + 3), (501, r + 2), (500, r + 1)], xA 1 131 [], xA 1 131 [], xA 1 131 [], xA 1 131 [], xA 1 131 [], xA 1 131 [], xA 1 131 [], xA 1 131 []]) rfl).trans ?_
  refine (rn_aload_n (pc := 76) (dd bX3_init dX3_init_76) rfl).trans ?_
  refine (rn_sipush (pc := 77) (dd bX3_init dX3_init_77) (by decide)).trans ?_
  refine (rk_int hr h0 (pc := 80) (dd bX3_init dX3_init_80) (by decide) (q := r + 9) rfl (cs2 := [cO 24 [(507, r + 8), (506, r + 7), (505, r + 6), (504, r + 5), (503, r + 4), (502, r + 3), (501, r + 2), (500, r + 1)], xA 1 131 [], xA 1 131 [], xA 1 131 [], xA 1 131 [], xA 1 131 [], xA 1 131 [], xA 1 131 [], xA 1 131 [], xA 1 131 []]) rfl (s2 := 1193) rfl).trans ?_
  refine (rk_pf hr h0 (pc := 82) (dd bX3_init dX3_init_82) (ci := 4) (j := 8) rfl (key := 508) rfl (kc := 24) rfl (jj := 0) (by omega) rfl rfl (by intro z; cases z) (by decide) (by decide) (cs2 := [cO 24 [(508, r + 9), (507, r + 8), (506, r + 7), (505, r + 6), (504, r + 5), (503, r + 4), (502, r + 3), (501, r + 2), (500, r + 1)], xA 1 131 [], xA 1 131 [], xA 1 131 [], xA 1 131 [], xA 1 131 [], xA 1 131 [], xA 1 131 [], xA 1 131 [], xA 1 131 []]) rfl).trans ?_
  exact rn_return (pc := 85) (dd bX3_init dX3_init_85) rfl

theorem bX0_init : vmB mX0_init = cX0_init := rfl
def DirL (r : Int) : List cC := [cO 21 [(206, r + 7), (205, r + 6), (204, r + 5), (203, r + 4), (202, r + 3), (201, r + 2), (200, r + 1)], xA 1 131 [], xA 1 131 [], xA 1 131 [], xA 1 131 [], xA 1 131 [], xA 1 131 [], xA 1 131 []]
theorem spDir {h : vH} {r : Int} (hr : h 3 0 0 = r) (h0 : 0 < r) : vcl mX0_init [(1, r)] (hp h [cO 21 []] 10) = some (.inl none, hp h (DirL r) 927) := by
  refine vcl_as (L := [(1, r)]) rfl ?_
  refine (rn_aload_n (pc := 0) (dd bX0_init dX0_init_0) rfl).trans ?_
  refine (rn_object (pc := 1) (dd bX0_init dX0_init_1) rfl rfl (by omega) ⟨Nat.le_of_ble_eq_true rfl, Nat.le_of_ble_eq_true rfl, Nat.le_of_ble_eq_true rfl⟩).trans ?_
  refine (rn_aload_n (pc := 4) (dd bX0_init dX0_init_4) rfl).trans ?_
  refine (rn_sipush (pc := 5) (dd bX0_init dX0_init_5) (by decide)).trans ?_
  refine (rk_int hr h0 (pc := 8) (dd bX0_init dX0_init_8) (by decide) (q := r + 1) rfl (cs2 := [cO 21 [], xA 1 131 []]) rfl (s2 := 141) rfl).trans ?_
  refine (rk_pf hr h0 (pc := 10) (dd bX0_init dX0_init_10) (ci := 1) (j := 0) rfl (key := 200) rfl (kc := 21) rfl (jj := 0) (by omega) rfl rfl (by intro z; cases z) (by decide) (by decide) (cs2 := [cO 21 [(200, r + 1)], xA 1 131 []]) rfl).trans ?_
  refine (rn_aload_n (pc := 13) (dd bX0_init dX0_init_13) rfl).trans ?_
  refine (rn_sipush (pc := 14) (dd bX0_init dX0_init_14) (by decide)).trans ?_
  refine (rk_int hr h0 (pc := 17) (dd bX0_init dX0_init_17) (by decide) (q := r + 2) rfl (cs2 := [cO 21 [(200, r + 1)], xA 1 131 [], xA 1 131 []]) rfl (s2 := 272) rfl).trans ?_
  refine (rk_pf hr h0 (pc := 19) (dd bX0_init dX0_init_19) (ci := 1) (j := 1) rfl (key := 201) rfl (kc := 21) rfl (jj := 0) (by omega) rfl rfl (by intro z; cases z) (by decide) (by decide) (cs2 := [cO 21 [(201, r + 2), (200, r + 1)], xA 1 131 [], xA 1 131 []]) rfl).trans ?_
  refine (rn_aload_n (pc := 22) (dd bX0_init dX0_init_22) rfl).trans ?_
  refine (rn_sipush (pc := 23) (dd bX0_init dX0_init_23) (by decide)).trans ?_
  refine (rk_int hr h0 (pc := 26) (dd bX0_init dX0_init_26) (by decide) (q := r + 3) rfl (cs2 := [cO 21 [(201, r + 2), (200, r + 1)], xA 1 131 [], xA 1 131 [], xA 1 131 []]) rfl (s2 := 403) rfl).trans ?_
  refine (rk_pf hr h0 (pc := 28) (dd bX0_init dX0_init_28) (ci := 1) (j := 2) rfl (key := 202) rfl (kc := 21) rfl (jj := 0) (by omega) rfl rfl (by intro z; cases z) (by decide) (by decide) (cs2 := [cO 21 [(202, r + 3), (201, r + 2), (200, r + 1)], xA 1 131 [], xA 1 131 [], xA 1 131 []]) rfl).trans ?_
  refine (rn_aload_n (pc := 31) (dd bX0_init dX0_init_31) rfl).trans ?_
  refine (rn_sipush (pc := 32) (dd bX0_init dX0_init_32) (by decide)).trans ?_
  refine (rk_int hr h0 (pc := 35) (dd bX0_init dX0_init_35) (by decide) (q := r + 4) rfl (cs2 := [cO 21 [(202, r + 3), (201, r + 2), (200, r + 1)], xA 1 131 [], xA 1 131 [], xA 1 131 [], xA 1 131 []]) rfl (s2 := 534) rfl).trans ?_
  refine (rk_pf hr h0 (pc := 37) (dd bX0_init dX0_init_37) (ci := 1) (j := 3) rfl (key := 203) rfl (kc := 21) rfl (jj := 0) (by omega) rfl rfl (by intro z; cases z) (by decide) (by decide) (cs2 := [cO 21 [(203, r + 4), (202, r + 3), (201, r + 2), (200, r + 1)], xA 1 131 [], xA 1 131 [], xA 1 131 [], xA 1 131 []]) rfl).trans ?_
  refine (rn_aload_n (pc := 40) (dd bX0_init dX0_init_40) rfl).trans ?_
  refine (rn_sipush (pc := 41) (dd bX0_init dX0_init_41) (by decide)).trans ?_
  refine (rk_int hr h0 (pc := 44) (dd bX0_init dX0_init_44) (by decide) (q := r + 5) rfl (cs2 := [cO 21 [(203, r + 4), (202, r + 3), (201, r + 2), (200, r + 1)], xA 1 131 [], xA 1 131 [], xA 1 131 [], xA 1 131 [], xA 1 131 []]) rfl (s2 := 665) rfl).trans ?_
  refine (rk_pf hr h0 (pc := 46) (dd bX0_init dX0_init_46) (ci := 1) (j := 4) rfl (key := 204) rfl (kc := 21) rfl (jj := 0) (by omega) rfl rfl (by intro z; cases z) (by decide) (by decide) (cs2 := [cO 21 [(204, r + 5), (203, r + 4), (202, r + 3), (201, r + 2), (200, r + 1)], xA 1 131 [], xA 1 131 [], xA 1 131 [], xA 1 131 [], xA 1 131 []]) rfl).trans ?_
  refine (rn_aload_n (pc := 49) (dd bX0_init dX0_init_49) rfl).trans ?_
  refine (rn_sipush (pc := 50) (dd bX0_init dX0_init_50) (by decide)).trans ?_
  refine (rk_int hr h0 (pc := 53) (dd bX0_init dX0_init_53) (by decide) (q := r + 6) rfl (cs2 := [cO 21 [(204, r + 5), (203, r + 4), (202, r + 3), (201, r + 2), (200, r + 1)], xA 1 131 [], xA 1 131 [], xA 1 131 [], xA 1 131 [], xA 1 131 [], xA 1 131 []]) rfl (s2 := 796) rfl).trans ?_
  refine (rk_pf hr h0 (pc := 55) (dd bX0_init dX0_init_55) (ci := 1) (j := 5) rfl (key := 205) rfl (kc := 21) rfl (jj := 0) (by omega) rfl rfl (by intro z; cases z) (by decide) (by decide) (cs2 := [cO 21 [(205, r + 6), (204, r + 5), (203, r + 4), (202, r + 3), (201, r + 2), (200, r + 1)], xA 1 131 [], xA 1 131 [], xA 1 131 [], xA 1 131 [], xA 1 131 [], xA 1 131 []]) rfl).trans ?_
  refine (rn_aload_n (pc := 58) (dd bX0_init dX0_init_58) rfl).trans ?_
  refine (rn_sipush (pc := 59) (dd bX0_init dX0_init_59) (by decide)).trans ?_
  refine (rk_int hr h0 (pc := 62) (dd bX0_init dX0_init_62) (by decide) (q := r + 7) rfl (cs2 := [cO 21 [(205, r + 6), (204, r + 5), (203, r + 4), (202, r + 3), (201, r + 2), (200, r + 1)], xA 1 131 [], xA 1 131 [], xA 1 131 [], xA 1 131 [], xA 1 131 [], xA 1 131 [], xA 1 131 []]) rfl (s2 := 927) rfl).trans ?_
  refine (rk_pf hr h0 (pc := 64) (dd bX0_init dX0_init_64) (ci := 1) (j := 6) rfl (key := 206) rfl (kc := 21) rfl (jj := 0) (by omega) rfl rfl (by intro z; cases z) (by decide) (by decide) (cs2 := [cO 21 [(206, r + 7), (205, r + 6), (204, r + 5), (203, r + 4), (202, r + 3), (201, r + 2), (200, r + 1)], xA 1 131 [], xA 1 131 [], xA 1 131 [], xA 1 131 [], xA 1 131 [], xA 1 131 [], xA 1 131 []]) rfl).trans ?_
  exact rn_return (pc := 67) (dd bX0_init dX0_init_67) rfl

theorem bX6_init : vmB mX6_init = cX6_init := rfl
def PictureL (r : Int) : List cC := [cO 27 [(802, r + 3), (801, r + 2), (800, r + 1)], xA 1 3144 [], xA 1 24 [], xA 1 24 []]
theorem spPicture {h : vH} {r : Int} (hr : h 3 0 0 = r) (h0 : 0 < r) : vcl mX6_init [(1, r)] (hp h [cO 27 []] 4) = some (.inl none, hp h (PictureL r) 3196) := by
  refine vcl_as (L := [(1, r)]) rfl ?_
  refine (rn_aload_n (pc := 0) (dd bX6_init dX6_init_0) rfl).trans ?_
  refine (rn_object (pc := 1) (dd bX6_init dX6_init_1) rfl rfl (by omega) ⟨Nat.le_of_ble_eq_true rfl, Nat.le_of_ble_eq_true rfl, Nat.le_of_ble_eq_true rfl⟩).trans ?_
  refine (rn_aload_n (pc := 4) (dd bX6_init dX6_init_4) rfl).trans ?_
  refine (rn_sipush (pc := 5) (dd bX6_init dX6_init_5) (by decide)).trans ?_
  refine (rk_int hr h0 (pc := 8) (dd bX6_init dX6_init_8) (by decide) (q := r + 1) rfl (cs2 := [cO 27 [], xA 1 3144 []]) rfl (s2 := 3148) rfl).trans ?_
  refine (rk_pf hr h0 (pc := 10) (dd bX6_init dX6_init_10) (ci := 7) (j := 0) rfl (key := 800) rfl (kc := 27) rfl (jj := 0) (by omega) rfl rfl (by intro z; cases z) (by decide) (by decide) (cs2 := [cO 27 [(800, r + 1)], xA 1 3144 []]) rfl).trans ?_
  refine (rn_aload_n (pc := 13) (dd bX6_init dX6_init_13) rfl).trans ?_
  refine (rn_bipush (pc := 14) (dd bX6_init dX6_init_14) (by decide)).trans ?_
  refine (rk_int hr h0 (pc := 16) (dd bX6_init dX6_init_16) (by decide) (q := r + 2) rfl (cs2 := [cO 27 [(800, r + 1)], xA 1 3144 [], xA 1 24 []]) rfl (s2 := 3172) rfl).trans ?_
  refine (rk_pf hr h0 (pc := 18) (dd bX6_init dX6_init_18) (ci := 7) (j := 1) rfl (key := 801) rfl (kc := 27) rfl (jj := 0) (by omega) rfl rfl (by intro z; cases z) (by decide) (by decide) (cs2 := [cO 27 [(801, r + 2), (800, r + 1)], xA 1 3144 [], xA 1 24 []]) rfl).trans ?_
  refine (rn_aload_n (pc := 21) (dd bX6_init dX6_init_21) rfl).trans ?_
  refine (rn_bipush (pc := 22) (dd bX6_init dX6_init_22) (by decide)).trans ?_
  refine (rk_int hr h0 (pc := 24) (dd bX6_init dX6_init_24) (by decide) (q := r + 3) rfl (cs2 := [cO 27 [(801, r + 2), (800, r + 1)], xA 1 3144 [], xA 1 24 [], xA 1 24 []]) rfl (s2 := 3196) rfl).trans ?_
  refine (rk_pf hr h0 (pc := 26) (dd bX6_init dX6_init_26) (ci := 7) (j := 2) rfl (key := 802) rfl (kc := 27) rfl (jj := 0) (by omega) rfl rfl (by intro z; cases z) (by decide) (by decide) (cs2 := [cO 27 [(802, r + 3), (801, r + 2), (800, r + 1)], xA 1 3144 [], xA 1 24 [], xA 1 24 []]) rfl).trans ?_
  exact rn_return (pc := 29) (dd bX6_init dX6_init_29) rfl

theorem bX9_init : vmB mX9_init = cX9_init := rfl
def StackL (r : Int) : List cC := [cO 30 [(1105, r + 6), (1104, r + 5), (1103, r + 4), (1102, r + 3), (1101, r + 2), (1100, r + 1)], xA 2 4 [1], xA 1 4 [1, 1, 1, 1], xA 1 4 [3, 3, 3, 3], xA 1 4 [(-1), (-1), (-1), (-1)], xA 1 4 [24], xA 2 4 []]
theorem spStack {h : vH} {r : Int} (hr : h 3 0 0 = r) (h0 : 0 < r) : vcl mX9_init [(1, r)] (hp h [cO 30 []] 6) = some (.inl none, hp h (StackL r) 30) := by
  refine vcl_as (L := [(1, r), (9, 0)]) rfl ?_
  refine (rn_aload_n (pc := 0) (dd bX9_init dX9_init_0) rfl).trans ?_
  refine (rn_object (pc := 1) (dd bX9_init dX9_init_1) rfl rfl (by omega) ⟨Nat.le_of_ble_eq_true rfl, Nat.le_of_ble_eq_true rfl, Nat.le_of_ble_eq_true rfl⟩).trans ?_
  refine (rn_aload_n (pc := 4) (dd bX9_init dX9_init_4) rfl).trans ?_
  refine (rn_iconst (pc := 5) (dd bX9_init dX9_init_5) (by decide)).trans ?_
  refine (rk_boolean hr h0 (pc := 6) (dd bX9_init dX9_init_6) (by decide) (q := r + 1) rfl (cs2 := [cO 30 [], xA 2 4 []]) rfl (s2 := 10) rfl).trans ?_
  refine (rk_pf hr h0 (pc := 8) (dd bX9_init dX9_init_8) (ci := 10) (j := 0) rfl (key := 1100) rfl (kc := 30) rfl (jj := 0) (by omega) rfl rfl (by intro z; cases z) (by decide) (by decide) (cs2 := [cO 30 [(1100, r + 1)], xA 2 4 []]) rfl).trans ?_
  refine (rn_aload_n (pc := 11) (dd bX9_init dX9_init_11) rfl).trans ?_
  refine (rn_iconst (pc := 12) (dd bX9_init dX9_init_12) (by decide)).trans ?_
  refine (rk_int hr h0 (pc := 13) (dd bX9_init dX9_init_13) (by decide) (q := r + 2) rfl (cs2 := [cO 30 [(1100, r + 1)], xA 2 4 [], xA 1 4 []]) rfl (s2 := 14) rfl).trans ?_
  refine (rk_pf hr h0 (pc := 15) (dd bX9_init dX9_init_15) (ci := 10) (j := 1) rfl (key := 1101) rfl (kc := 30) rfl (jj := 0) (by omega) rfl rfl (by intro z; cases z) (by decide) (by decide) (cs2 := [cO 30 [(1101, r + 2), (1100, r + 1)], xA 2 4 [], xA 1 4 []]) rfl).trans ?_
  refine (rn_aload_n (pc := 18) (dd bX9_init dX9_init_18) rfl).trans ?_
  refine (rn_iconst (pc := 19) (dd bX9_init dX9_init_19) (by decide)).trans ?_
  refine (rk_int hr h0 (pc := 20) (dd bX9_init dX9_init_20) (by decide) (q := r + 3) rfl (cs2 := [cO 30 [(1101, r + 2), (1100, r + 1)], xA 2 4 [], xA 1 4 [], xA 1 4 []]) rfl (s2 := 18) rfl).trans ?_
  refine (rk_pf hr h0 (pc := 22) (dd bX9_init dX9_init_22) (ci := 10) (j := 2) rfl (key := 1102) rfl (kc := 30) rfl (jj := 0) (by omega) rfl rfl (by intro z; cases z) (by decide) (by decide) (cs2 := [cO 30 [(1102, r + 3), (1101, r + 2), (1100, r + 1)], xA 2 4 [], xA 1 4 [], xA 1 4 []]) rfl).trans ?_
  refine (rn_aload_n (pc := 25) (dd bX9_init dX9_init_25) rfl).trans ?_
  refine (rn_iconst (pc := 26) (dd bX9_init dX9_init_26) (by decide)).trans ?_
  refine (rk_int hr h0 (pc := 27) (dd bX9_init dX9_init_27) (by decide) (q := r + 4) rfl (cs2 := [cO 30 [(1102, r + 3), (1101, r + 2), (1100, r + 1)], xA 2 4 [], xA 1 4 [], xA 1 4 [], xA 1 4 []]) rfl (s2 := 22) rfl).trans ?_
  refine (rk_pf hr h0 (pc := 29) (dd bX9_init dX9_init_29) (ci := 10) (j := 3) rfl (key := 1103) rfl (kc := 30) rfl (jj := 0) (by omega) rfl rfl (by intro z; cases z) (by decide) (by decide) (cs2 := [cO 30 [(1103, r + 4), (1102, r + 3), (1101, r + 2), (1100, r + 1)], xA 2 4 [], xA 1 4 [], xA 1 4 [], xA 1 4 []]) rfl).trans ?_
  refine (rn_aload_n (pc := 32) (dd bX9_init dX9_init_32) rfl).trans ?_
  refine (rn_iconst (pc := 33) (dd bX9_init dX9_init_33) (by decide)).trans ?_
  refine (rk_int hr h0 (pc := 34) (dd bX9_init dX9_init_34) (by decide) (q := r + 5) rfl (cs2 := [cO 30 [(1103, r + 4), (1102, r + 3), (1101, r + 2), (1100, r + 1)], xA 2 4 [], xA 1 4 [], xA 1 4 [], xA 1 4 [], xA 1 4 []]) rfl (s2 := 26) rfl).trans ?_
  refine (rk_pf hr h0 (pc := 36) (dd bX9_init dX9_init_36) (ci := 10) (j := 4) rfl (key := 1104) rfl (kc := 30) rfl (jj := 0) (by omega) rfl rfl (by intro z; cases z) (by decide) (by decide) (cs2 := [cO 30 [(1104, r + 5), (1103, r + 4), (1102, r + 3), (1101, r + 2), (1100, r + 1)], xA 2 4 [], xA 1 4 [], xA 1 4 [], xA 1 4 [], xA 1 4 []]) rfl).trans ?_
  refine (rn_aload_n (pc := 39) (dd bX9_init dX9_init_39) rfl).trans ?_
  refine (rn_iconst (pc := 40) (dd bX9_init dX9_init_40) (by decide)).trans ?_
  refine (rk_boolean hr h0 (pc := 41) (dd bX9_init dX9_init_41) (by decide) (q := r + 6) rfl (cs2 := [cO 30 [(1104, r + 5), (1103, r + 4), (1102, r + 3), (1101, r + 2), (1100, r + 1)], xA 2 4 [], xA 1 4 [], xA 1 4 [], xA 1 4 [], xA 1 4 [], xA 2 4 []]) rfl (s2 := 30) rfl).trans ?_
  refine (rk_pf hr h0 (pc := 43) (dd bX9_init dX9_init_43) (ci := 10) (j := 5) rfl (key := 1105) rfl (kc := 30) rfl (jj := 0) (by omega) rfl rfl (by intro z; cases z) (by decide) (by decide) (cs2 := [cO 30 [(1105, r + 6), (1104, r + 5), (1103, r + 4), (1102, r + 3), (1101, r + 2), (1100, r + 1)], xA 2 4 [], xA 1 4 [], xA 1 4 [], xA 1 4 [], xA 1 4 [], xA 2 4 []]) rfl).trans ?_
  refine (rn_iconst (pc := 46) (dd bX9_init dX9_init_46) (by decide)).trans ?_
  refine (rn_istore_n (pc := 47) (dd bX9_init dX9_init_47) (Nat.le_of_ble_eq_true rfl) rfl).trans ?_
  refine (rn_iload_n (pc := 48) (dd bX9_init dX9_init_48) rfl).trans ?_
  refine (rn_iconst (pc := 49) (dd bX9_init dX9_init_49) (by decide)).trans ?_
  refine (rn_icmp_ge (t := 80) (pc := 50) (dd bX9_init dX9_init_50) rfl).trans ?_
  refine (if_neg (by decide)).trans ?_
  refine (rn_aload_n (pc := 53) (dd bX9_init dX9_init_53) rfl).trans ?_
  refine (rk_gf hr h0 (pc := 54) (dd bX9_init dX9_init_54) (ci := 10) (j := 1) rfl (t := 1) rfl (key := 1101) rfl (kc := 30) rfl (jj := 0) (by omega) rfl (v := r + 2) rfl).trans ?_
  refine (rn_iload_n (pc := 57) (dd bX9_init dX9_init_57) rfl).trans ?_
  refine (rn_iconst (pc := 58) (dd bX9_init dX9_init_58) (by decide)).trans ?_
  refine (rk_iastore (i := 0) (n := 4) (W := []) hr h0 (pc := 59) (dd bX9_init dX9_init_59) (jj := 2) (by omega) rfl rfl (by decide) (cs2 := [cO 30 [(1105, r + 6), (1104, r + 5), (1103, r + 4), (1102, r + 3), (1101, r + 2), (1100, r + 1)], xA 2 4 [], xA 1 4 [1], xA 1 4 [], xA 1 4 [], xA 1 4 [], xA 2 4 []]) rfl).trans ?_
  refine (rn_aload_n (pc := 60) (dd bX9_init dX9_init_60) rfl).trans ?_
  refine (rk_gf hr h0 (pc := 61) (dd bX9_init dX9_init_61) (ci := 10) (j := 2) rfl (t := 1) rfl (key := 1102) rfl (kc := 30) rfl (jj := 0) (by omega) rfl (v := r + 3) rfl).trans ?_
  refine (rn_iload_n (pc := 64) (dd bX9_init dX9_init_64) rfl).trans ?_
  refine (rn_iconst (pc := 65) (dd bX9_init dX9_init_65) (by decide)).trans ?_
  refine (rk_iastore (i := 0) (n := 4) (W := []) hr h0 (pc := 66) (dd bX9_init dX9_init_66) (jj := 3) (by omega) rfl rfl (by decide) (cs2 := [cO 30 [(1105, r + 6), (1104, r + 5), (1103, r + 4), (1102, r + 3), (1101, r + 2), (1100, r + 1)], xA 2 4 [], xA 1 4 [1], xA 1 4 [3], xA 1 4 [], xA 1 4 [], xA 2 4 []]) rfl).trans ?_
  refine (rn_aload_n (pc := 67) (dd bX9_init dX9_init_67) rfl).trans ?_
  refine (rk_gf hr h0 (pc := 68) (dd bX9_init dX9_init_68) (ci := 10) (j := 3) rfl (t := 1) rfl (key := 1103) rfl (kc := 30) rfl (jj := 0) (by omega) rfl (v := r + 4) rfl).trans ?_
  refine (rn_iload_n (pc := 71) (dd bX9_init dX9_init_71) rfl).trans ?_
  refine (rn_iconst (pc := 72) (dd bX9_init dX9_init_72) (by decide)).trans ?_
  refine (rk_iastore (i := 0) (n := 4) (W := []) hr h0 (pc := 73) (dd bX9_init dX9_init_73) (jj := 4) (by omega) rfl rfl (by decide) (cs2 := [cO 30 [(1105, r + 6), (1104, r + 5), (1103, r + 4), (1102, r + 3), (1101, r + 2), (1100, r + 1)], xA 2 4 [], xA 1 4 [1], xA 1 4 [3], xA 1 4 [(-1)], xA 1 4 [], xA 2 4 []]) rfl).trans ?_
  refine (rg_iinc (pc := 74) (dd bX9_init dX9_init_74) rfl (Nat.le_of_ble_eq_true rfl) (by decide) (by decide) rfl).trans ?_
  refine (rn_goto (t := 48) (pc := 77) (dd bX9_init dX9_init_77) rfl).trans ?_
  refine (rn_iload_n (pc := 48) (dd bX9_init dX9_init_48) rfl).trans ?_
  refine (rn_iconst (pc := 49) (dd bX9_init dX9_init_49) (by decide)).trans ?_
  refine (rn_icmp_ge (t := 80) (pc := 50) (dd bX9_init dX9_init_50) rfl).trans ?_
  refine (if_neg (by decide)).trans ?_
  refine (rn_aload_n (pc := 53) (dd bX9_init dX9_init_53) rfl).trans ?_
  refine (rk_gf hr h0 (pc := 54) (dd bX9_init dX9_init_54) (ci := 10) (j := 1) rfl (t := 1) rfl (key := 1101) rfl (kc := 30) rfl (jj := 0) (by omega) rfl (v := r + 2) rfl).trans ?_
  refine (rn_iload_n (pc := 57) (dd bX9_init dX9_init_57) rfl).trans ?_
  refine (rn_iconst (pc := 58) (dd bX9_init dX9_init_58) (by decide)).trans ?_
  refine (rk_iastore (i := 1) (n := 4) (W := [1]) hr h0 (pc := 59) (dd bX9_init dX9_init_59) (jj := 2) (by omega) rfl rfl (by decide) (cs2 := [cO 30 [(1105, r + 6), (1104, r + 5), (1103, r + 4), (1102, r + 3), (1101, r + 2), (1100, r + 1)], xA 2 4 [], xA 1 4 [1, 1], xA 1 4 [3], xA 1 4 [(-1)], xA 1 4 [], xA 2 4 []]) rfl).trans ?_
  refine (rn_aload_n (pc := 60) (dd bX9_init dX9_init_60) rfl).trans ?_
  refine (rk_gf hr h0 (pc := 61) (dd bX9_init dX9_init_61) (ci := 10) (j := 2) rfl (t := 1) rfl (key := 1102) rfl (kc := 30) rfl (jj := 0) (by omega) rfl (v := r + 3) rfl).trans ?_
  refine (rn_iload_n (pc := 64) (dd bX9_init dX9_init_64) rfl).trans ?_
  refine (rn_iconst (pc := 65) (dd bX9_init dX9_init_65) (by decide)).trans ?_
  refine (rk_iastore (i := 1) (n := 4) (W := [3]) hr h0 (pc := 66) (dd bX9_init dX9_init_66) (jj := 3) (by omega) rfl rfl (by decide) (cs2 := [cO 30 [(1105, r + 6), (1104, r + 5), (1103, r + 4), (1102, r + 3), (1101, r + 2), (1100, r + 1)], xA 2 4 [], xA 1 4 [1, 1], xA 1 4 [3, 3], xA 1 4 [(-1)], xA 1 4 [], xA 2 4 []]) rfl).trans ?_
  refine (rn_aload_n (pc := 67) (dd bX9_init dX9_init_67) rfl).trans ?_
  refine (rk_gf hr h0 (pc := 68) (dd bX9_init dX9_init_68) (ci := 10) (j := 3) rfl (t := 1) rfl (key := 1103) rfl (kc := 30) rfl (jj := 0) (by omega) rfl (v := r + 4) rfl).trans ?_
  refine (rn_iload_n (pc := 71) (dd bX9_init dX9_init_71) rfl).trans ?_
  refine (rn_iconst (pc := 72) (dd bX9_init dX9_init_72) (by decide)).trans ?_
  refine (rk_iastore (i := 1) (n := 4) (W := [(-1)]) hr h0 (pc := 73) (dd bX9_init dX9_init_73) (jj := 4) (by omega) rfl rfl (by decide) (cs2 := [cO 30 [(1105, r + 6), (1104, r + 5), (1103, r + 4), (1102, r + 3), (1101, r + 2), (1100, r + 1)], xA 2 4 [], xA 1 4 [1, 1], xA 1 4 [3, 3], xA 1 4 [(-1), (-1)], xA 1 4 [], xA 2 4 []]) rfl).trans ?_
  refine (rg_iinc (pc := 74) (dd bX9_init dX9_init_74) rfl (Nat.le_of_ble_eq_true rfl) (by decide) (by decide) rfl).trans ?_
  refine (rn_goto (t := 48) (pc := 77) (dd bX9_init dX9_init_77) rfl).trans ?_
  refine (rn_iload_n (pc := 48) (dd bX9_init dX9_init_48) rfl).trans ?_
  refine (rn_iconst (pc := 49) (dd bX9_init dX9_init_49) (by decide)).trans ?_
  refine (rn_icmp_ge (t := 80) (pc := 50) (dd bX9_init dX9_init_50) rfl).trans ?_
  refine (if_neg (by decide)).trans ?_
  refine (rn_aload_n (pc := 53) (dd bX9_init dX9_init_53) rfl).trans ?_
  refine (rk_gf hr h0 (pc := 54) (dd bX9_init dX9_init_54) (ci := 10) (j := 1) rfl (t := 1) rfl (key := 1101) rfl (kc := 30) rfl (jj := 0) (by omega) rfl (v := r + 2) rfl).trans ?_
  refine (rn_iload_n (pc := 57) (dd bX9_init dX9_init_57) rfl).trans ?_
  refine (rn_iconst (pc := 58) (dd bX9_init dX9_init_58) (by decide)).trans ?_
  refine (rk_iastore (i := 2) (n := 4) (W := [1, 1]) hr h0 (pc := 59) (dd bX9_init dX9_init_59) (jj := 2) (by omega) rfl rfl (by decide) (cs2 := [cO 30 [(1105, r + 6), (1104, r + 5), (1103, r + 4), (1102, r + 3), (1101, r + 2), (1100, r + 1)], xA 2 4 [], xA 1 4 [1, 1, 1], xA 1 4 [3, 3], xA 1 4 [(-1), (-1)], xA 1 4 [], xA 2 4 []]) rfl).trans ?_
  refine (rn_aload_n (pc := 60) (dd bX9_init dX9_init_60) rfl).trans ?_
  refine (rk_gf hr h0 (pc := 61) (dd bX9_init dX9_init_61) (ci := 10) (j := 2) rfl (t := 1) rfl (key := 1102) rfl (kc := 30) rfl (jj := 0) (by omega) rfl (v := r + 3) rfl).trans ?_
  refine (rn_iload_n (pc := 64) (dd bX9_init dX9_init_64) rfl).trans ?_
  refine (rn_iconst (pc := 65) (dd bX9_init dX9_init_65) (by decide)).trans ?_
  refine (rk_iastore (i := 2) (n := 4) (W := [3, 3]) hr h0 (pc := 66) (dd bX9_init dX9_init_66) (jj := 3) (by omega) rfl rfl (by decide) (cs2 := [cO 30 [(1105, r + 6), (1104, r + 5), (1103, r + 4), (1102, r + 3), (1101, r + 2), (1100, r + 1)], xA 2 4 [], xA 1 4 [1, 1, 1], xA 1 4 [3, 3, 3], xA 1 4 [(-1), (-1)], xA 1 4 [], xA 2 4 []]) rfl).trans ?_
  refine (rn_aload_n (pc := 67) (dd bX9_init dX9_init_67) rfl).trans ?_
  refine (rk_gf hr h0 (pc := 68) (dd bX9_init dX9_init_68) (ci := 10) (j := 3) rfl (t := 1) rfl (key := 1103) rfl (kc := 30) rfl (jj := 0) (by omega) rfl (v := r + 4) rfl).trans ?_
  refine (rn_iload_n (pc := 71) (dd bX9_init dX9_init_71) rfl).trans ?_
  refine (rn_iconst (pc := 72) (dd bX9_init dX9_init_72) (by decide)).trans ?_
  refine (rk_iastore (i := 2) (n := 4) (W := [(-1), (-1)]) hr h0 (pc := 73) (dd bX9_init dX9_init_73) (jj := 4) (by omega) rfl rfl (by decide) (cs2 := [cO 30 [(1105, r + 6), (1104, r + 5), (1103, r + 4), (1102, r + 3), (1101, r + 2), (1100, r + 1)], xA 2 4 [], xA 1 4 [1, 1, 1], xA 1 4 [3, 3, 3], xA 1 4 [(-1), (-1), (-1)], xA 1 4 [], xA 2 4 []]) rfl).trans ?_
  refine (rg_iinc (pc := 74) (dd bX9_init dX9_init_74) rfl (Nat.le_of_ble_eq_true rfl) (by decide) (by decide) rfl).trans ?_
  refine (rn_goto (t := 48) (pc := 77) (dd bX9_init dX9_init_77) rfl).trans ?_
  refine (rn_iload_n (pc := 48) (dd bX9_init dX9_init_48) rfl).trans ?_
  refine (rn_iconst (pc := 49) (dd bX9_init dX9_init_49) (by decide)).trans ?_
  refine (rn_icmp_ge (t := 80) (pc := 50) (dd bX9_init dX9_init_50) rfl).trans ?_
  refine (if_neg (by decide)).trans ?_
  refine (rn_aload_n (pc := 53) (dd bX9_init dX9_init_53) rfl).trans ?_
  refine (rk_gf hr h0 (pc := 54) (dd bX9_init dX9_init_54) (ci := 10) (j := 1) rfl (t := 1) rfl (key := 1101) rfl (kc := 30) rfl (jj := 0) (by omega) rfl (v := r + 2) rfl).trans ?_
  refine (rn_iload_n (pc := 57) (dd bX9_init dX9_init_57) rfl).trans ?_
  refine (rn_iconst (pc := 58) (dd bX9_init dX9_init_58) (by decide)).trans ?_
  refine (rk_iastore (i := 3) (n := 4) (W := [1, 1, 1]) hr h0 (pc := 59) (dd bX9_init dX9_init_59) (jj := 2) (by omega) rfl rfl (by decide) (cs2 := [cO 30 [(1105, r + 6), (1104, r + 5), (1103, r + 4), (1102, r + 3), (1101, r + 2), (1100, r + 1)], xA 2 4 [], xA 1 4 [1, 1, 1, 1], xA 1 4 [3, 3, 3], xA 1 4 [(-1), (-1), (-1)], xA 1 4 [], xA 2 4 []]) rfl).trans ?_
  refine (rn_aload_n (pc := 60) (dd bX9_init dX9_init_60) rfl).trans ?_
  refine (rk_gf hr h0 (pc := 61) (dd bX9_init dX9_init_61) (ci := 10) (j := 2) rfl (t := 1) rfl (key := 1102) rfl (kc := 30) rfl (jj := 0) (by omega) rfl (v := r + 3) rfl).trans ?_
  refine (rn_iload_n (pc := 64) (dd bX9_init dX9_init_64) rfl).trans ?_
  refine (rn_iconst (pc := 65) (dd bX9_init dX9_init_65) (by decide)).trans ?_
  refine (rk_iastore (i := 3) (n := 4) (W := [3, 3, 3]) hr h0 (pc := 66) (dd bX9_init dX9_init_66) (jj := 3) (by omega) rfl rfl (by decide) (cs2 := [cO 30 [(1105, r + 6), (1104, r + 5), (1103, r + 4), (1102, r + 3), (1101, r + 2), (1100, r + 1)], xA 2 4 [], xA 1 4 [1, 1, 1, 1], xA 1 4 [3, 3, 3, 3], xA 1 4 [(-1), (-1), (-1)], xA 1 4 [], xA 2 4 []]) rfl).trans ?_
  refine (rn_aload_n (pc := 67) (dd bX9_init dX9_init_67) rfl).trans ?_
  refine (rk_gf hr h0 (pc := 68) (dd bX9_init dX9_init_68) (ci := 10) (j := 3) rfl (t := 1) rfl (key := 1103) rfl (kc := 30) rfl (jj := 0) (by omega) rfl (v := r + 4) rfl).trans ?_
  refine (rn_iload_n (pc := 71) (dd bX9_init dX9_init_71) rfl).trans ?_
  refine (rn_iconst (pc := 72) (dd bX9_init dX9_init_72) (by decide)).trans ?_
  refine (rk_iastore (i := 3) (n := 4) (W := [(-1), (-1), (-1)]) hr h0 (pc := 73) (dd bX9_init dX9_init_73) (jj := 4) (by omega) rfl rfl (by decide) (cs2 := [cO 30 [(1105, r + 6), (1104, r + 5), (1103, r + 4), (1102, r + 3), (1101, r + 2), (1100, r + 1)], xA 2 4 [], xA 1 4 [1, 1, 1, 1], xA 1 4 [3, 3, 3, 3], xA 1 4 [(-1), (-1), (-1), (-1)], xA 1 4 [], xA 2 4 []]) rfl).trans ?_
  refine (rg_iinc (pc := 74) (dd bX9_init dX9_init_74) rfl (Nat.le_of_ble_eq_true rfl) (by decide) (by decide) rfl).trans ?_
  refine (rn_goto (t := 48) (pc := 77) (dd bX9_init dX9_init_77) rfl).trans ?_
  refine (rn_iload_n (pc := 48) (dd bX9_init dX9_init_48) rfl).trans ?_
  refine (rn_iconst (pc := 49) (dd bX9_init dX9_init_49) (by decide)).trans ?_
  refine (rn_icmp_ge (t := 80) (pc := 50) (dd bX9_init dX9_init_50) rfl).trans ?_
  refine (if_pos (by decide)).trans ?_
  refine (rn_aload_n (pc := 80) (dd bX9_init dX9_init_80) rfl).trans ?_
  refine (rk_gf hr h0 (pc := 81) (dd bX9_init dX9_init_81) (ci := 10) (j := 0) rfl (t := 1) rfl (key := 1100) rfl (kc := 30) rfl (jj := 0) (by omega) rfl (v := r + 1) rfl).trans ?_
  refine (rn_iconst (pc := 84) (dd bX9_init dX9_init_84) (by decide)).trans ?_
  refine (rn_iconst (pc := 85) (dd bX9_init dX9_init_85) (by decide)).trans ?_
  refine (rk_bastore (i := 0) (n := 4) (W := []) hr h0 (pc := 86) (dd bX9_init dX9_init_86) (by decide) (jj := 1) (by omega) rfl rfl (by decide) (cs2 := [cO 30 [(1105, r + 6), (1104, r + 5), (1103, r + 4), (1102, r + 3), (1101, r + 2), (1100, r + 1)], xA 2 4 [1], xA 1 4 [1, 1, 1, 1], xA 1 4 [3, 3, 3, 3], xA 1 4 [(-1), (-1), (-1), (-1)], xA 1 4 [], xA 2 4 []]) rfl).trans ?_
  refine (rn_aload_n (pc := 87) (dd bX9_init dX9_init_87) rfl).trans ?_
  refine (rk_gf hr h0 (pc := 88) (dd bX9_init dX9_init_88) (ci := 10) (j := 4) rfl (t := 1) rfl (key := 1104) rfl (kc := 30) rfl (jj := 0) (by omega) rfl (v := r + 5) rfl).trans ?_
  refine (rn_iconst (pc := 91) (dd bX9_init dX9_init_91) (by decide)).trans ?_
  refine (rn_bipush (pc := 92) (dd bX9_init dX9_init_92) (by decide)).trans ?_
  refine (rk_iastore (i := 0) (n := 4) (W := []) hr h0 (pc := 94) (dd bX9_init dX9_init_94) (jj := 5) (by omega) rfl rfl (by decide) (cs2 := [cO 30 [(1105, r + 6), (1104, r + 5), (1103, r + 4), (1102, r + 3), (1101, r + 2), (1100, r + 1)], xA 2 4 [1], xA 1 4 [1, 1, 1, 1], xA 1 4 [3, 3, 3, 3], xA 1 4 [(-1), (-1), (-1), (-1)], xA 1 4 [24], xA 2 4 []]) rfl).trans ?_
  exact rn_return (pc := 95) (dd bX9_init dX9_init_95) rfl

theorem bX5_init : vmB mX5_init = cX5_init := rfl
def PaneQ (r t : Int) (W : List Int) : List cC := [cO 26 [(700, t), (718, r + 32), (717, r + 28), (715, (-1)), (712, r + 27), (711, r + 26), (708, 20), (706, r + 25), (705, r + 24), (704, r + 23), (703, r + 15), (702, r + 5), (701, r + 1)], cO 23 [(402, r + 4), (401, r + 3), (400, r + 2)], cO 20 [(101, 1), (100, 0)], cO 20 [(101, 1), (100, 0)], cO 20 [(101, 1), (100, 0)], cO 24 [(508, r + 14), (507, r + 13), (506, r + 12), (505, r + 11), (504, r + 10), (503, r + 9), (502, r + 8), (501, r + 7), (500, r + 6)], xA 1 131 [], xA 1 131 [], xA 1 131 [], xA 1 131 [], xA 1 131 [], xA 1 131 [], xA 1 131 [], xA 1 131 [], xA 1 131 [], cO 21 [(206, r + 22), (205, r + 21), (204, r + 20), (203, r + 19), (202, r + 18), (201, r + 17), (200, r + 16)], xA 1 131 [], xA 1 131 [], xA 1 131 [], xA 1 131 [], xA 1 131 [], xA 1 131 [], xA 1 131 [], cO 28 [(902, 0), (901, 0), (900, 0)], cO 28 [(902, 0), (901, 0), (900, 0)], cO 28 [(902, 0), (901, 0), (900, 0)], xA 1 60 W, xA 1 60 [], cO 27 [(802, r + 31), (801, r + 30), (800, r + 29)], xA 1 3144 [], xA 1 24 [], xA 1 24 [], cO 27 [(802, r + 35), (801, r + 34), (800, r + 33)], xA 1 3144 [], xA 1 24 [], xA 1 24 []]
theorem spPane0 {h : vH} {r t : Int} (hr : h 3 0 0 = r) (h0 : 0 < r) : vrun mX5_init 0 [(1, r), (1, t), (9, 0)] [] (hp h [cO 26 []] 20) = vrun mX5_init 135 [(1, r), (1, t), (0, 0)] [] (hp h (PaneQ r t []) 8673) := by
  refine (rn_aload_n (pc := 0) (dd bX5_init dX5_init_0) rfl).trans ?_
  refine (rn_object (pc := 1) (dd bX5_init dX5_init_1) rfl rfl (by omega) ⟨Nat.le_of_ble_eq_true rfl, Nat.le_of_ble_eq_true rfl, Nat.le_of_ble_eq_true rfl⟩).trans ?_
  refine (rn_aload_n (pc := 4) (dd bX5_init dX5_init_4) rfl).trans ?_
  refine (rk_new hr h0 (pc := 5) (dd bX5_init dX5_init_5) rfl rfl (kc := 23) rfl (nn := 3) rfl (q := r + 1) rfl (cs2 := [cO 26 [], cO 23 []]) rfl (s2 := 23) rfl).trans ?_
  refine (rn_dup (pc := 8) (dd bX5_init dX5_init_8) (by decide)).trans ?_
  refine (rk_ini (cs := [cO 26 []]) (s := 20) (cx := cO 23 []) (nn := 3) (ds := LayersL (r + 1)) (t := 12) hr h0 (pc := 9) (dd bX5_init dX5_init_9) rfl (by decide) (q := r + 1) rfl rfl (as := [(1, r + 1)]) rfl ⟨Nat.le_of_ble_eq_true rfl, Nat.le_of_ble_eq_true rfl, Nat.le_of_ble_eq_true rfl, Nat.le_of_ble_eq_true rfl⟩ (fun h2 a b => spLayers a b) rfl rfl (cs2 := [cO 26 [], cO 23 [(402, r + 4), (401, r + 3), (400, r + 2)], cO 20 [(101, 1), (100, 0)], cO 20 [(101, 1), (100, 0)], cO 20 [(101, 1), (100, 0)]]) (by simp only [LayersL, List.cons_append, List.nil_append, Int.add_assoc, Int.reduceAdd]) (s2 := 32) rfl).trans ?_
  refine (rk_pf hr h0 (pc := 12) (dd bX5_init dX5_init_12) (ci := 6) (j := 1) rfl (key := 701) rfl (kc := 26) rfl (jj := 0) (by omega) rfl rfl (by intro z; cases z) (by decide) (by decide) (cs2 := [cO 26 [(701, r + 1)], cO 23 [(402, r + 4), (401, r + 3), (400, r + 2)], cO 20 [(101, 1), (100, 0)], cO 20 [(101, 1), (100, 0)], cO 20 [(101, 1), (100, 0)]]) rfl).trans ?_
  refine (rn_aload_n (pc := 15) (dd bX5_init dX5_init_15) rfl).trans ?_
  refine (rk_new hr h0 (pc := 16) (dd bX5_init dX5_init_16) rfl rfl (kc := 24) rfl (nn := 14) rfl (q := r + 5) rfl (cs2 := [cO 26 [(701, r + 1)], cO 23 [(402, r + 4), (401, r + 3), (400, r + 2)], cO 20 [(101, 1), (100, 0)], cO 20 [(101, 1), (100, 0)], cO 20 [(101, 1), (100, 0)], cO 24 []]) rfl (s2 := 46) rfl).trans ?_
  refine (rn_dup (pc := 19) (dd bX5_init dX5_init_19) (by decide)).trans ?_
  refine (rk_ini (cs := [cO 26 [(701, r + 1)], cO 23 [(402, r + 4), (401, r + 3), (400, r + 2)], cO 20 [(101, 1), (100, 0)], cO 20 [(101, 1), (100, 0)], cO 20 [(101, 1), (100, 0)]]) (s := 32) (cx := cO 24 []) (nn := 14) (ds := LayoutL (r + 5)) (t := 1193) hr h0 (pc := 20) (dd bX5_init dX5_init_20) rfl (by decide) (q := r + 5) rfl rfl (as := [(1, r + 5)]) rfl ⟨Nat.le_of_ble_eq_true rfl, Nat.le_of_ble_eq_true rfl, Nat.le_of_ble_eq_true rfl, Nat.le_of_ble_eq_true rfl⟩ (fun h2 a b => spLayout a b) rfl rfl (cs2 := [cO 26 [(701, r + 1)], cO 23 [(402, r + 4), (401, r + 3), (400, r + 2)], cO 20 [(101, 1), (100, 0)], cO 20 [(101, 1), (100, 0)], cO 20 [(101, 1), (100, 0)], cO 24 [(508, r + 14), (507, r + 13), (506, r + 12), (505, r + 11), (504, r + 10), (503, r + 9), (502, r + 8), (501, r + 7), (500, r + 6)], xA 1 131 [], xA 1 131 [], xA 1 131 [], xA 1 131 [], xA 1 131 [], xA 1 131 [], xA 1 131 [], xA 1 131 [], xA 1 131 []]) (by simp only [LayoutL, List.cons_append, List.nil_append, Int.add_assoc, Int.reduceAdd]) (s2 := 1225) rfl).trans ?_
  refine (rk_pf hr h0 (pc := 23) (dd bX5_init dX5_init_23) (ci := 6) (j := 2) rfl (key := 702) rfl (kc := 26) rfl (jj := 0) (by omega) rfl rfl (by intro z; cases z) (by decide) (by decide) (cs2 := [cO 26 [(702, r + 5), (701, r + 1)], cO 23 [(402, r + 4), (401, r + 3), (400, r + 2)], cO 20 [(101, 1), (100, 0)], cO 20 [(101, 1), (100, 0)], cO 20 [(101, 1), (100, 0)], cO 24 [(508, r + 14), (507, r + 13), (506, r + 12), (505, r + 11), (504, r + 10), (503, r + 9), (502, r + 8), (501, r + 7), (500, r + 6)], xA 1 131 [], xA 1 131 [], xA 1 131 [], xA 1 131 [], xA 1 131 [], xA 1 131 [], xA 1 131 [], xA 1 131 [], xA 1 131 []]) rfl).trans ?_
  refine (rn_aload_n (pc := 26) (dd bX5_init dX5_init_26) rfl).trans ?_
  refine (rk_new hr h0 (pc := 27) (dd bX5_init dX5_init_27) rfl rfl (kc := 21) rfl (nn := 10) rfl (q := r + 15) rfl (cs2 := [cO 26 [(702, r + 5), (701, r + 1)], cO 23 [(402, r + 4), (401, r + 3), (400, r + 2)], cO 20 [(101, 1), (100, 0)], cO 20 [(101, 1), (100, 0)], cO 20 [(101, 1), (100, 0)], cO 24 [(508, r + 14), (507, r + 13), (506, r + 12), (505, r + 11), (504, r + 10), (503, r + 9), (502, r + 8), (501, r + 7), (500, r + 6)], xA 1 131 [], xA 1 131 [], xA 1 131 [], xA 1 131 [], xA 1 131 [], xA 1 131 [], xA 1 131 [], xA 1 131 [], xA 1 131 [], cO 21 []]) rfl (s2 := 1235) rfl).trans ?_
  refine (rn_dup (pc := 30) (dd bX5_init dX5_init_30) (by decide)).trans ?_
  refine (rk_ini (cs := [cO 26 [(702, r + 5), (701, r + 1)], cO 23 [(402, r + 4), (401, r + 3), (400, r + 2)], cO 20 [(101, 1), (100, 0)], cO 20 [(101, 1), (100, 0)], cO 20 [(101, 1), (100, 0)], cO 24 [(508, r + 14), (507, r + 13), (506, r + 12), (505, r + 11), (504, r + 10), (503, r + 9), (502, r + 8), (501, r + 7), (500, r + 6)], xA 1 131 [], xA 1 131 [], xA 1 131 [], xA 1 131 [], xA 1 131 [], xA 1 131 [], xA 1 131 [], xA 1 131 [], xA 1 131 []]) (s := 1225) (cx := cO 21 []) (nn := 10) (ds := DirL (r + 15)) (t := 927) hr h0 (pc := 31) (dd bX5_init dX5_init_31) rfl (by decide) (q := r + 15) rfl rfl (as := [(1, r + 15)]) rfl ⟨Nat.le_of_ble_eq_true rfl, Nat.le_of_ble_eq_true rfl, Nat.le_of_ble_eq_true rfl, Nat.le_of_ble_eq_true rfl⟩ (fun h2 a b => spDir a b) rfl rfl (cs2 := [cO 26 [(702, r + 5), (701, r + 1)], cO 23 [(402, r + 4), (401, r + 3), (400, r + 2)], cO 20 [(101, 1), (100, 0)], cO 20 [(101, 1), (100, 0)], cO 20 [(101, 1), (100, 0)], cO 24 [(508, r + 14), (507, r + 13), (506, r + 12), (505, r + 11), (504, r + 10), (503, r + 9), (502, r + 8), (501, r + 7), (500, r + 6)], xA 1 131 [], xA 1 131 [], xA 1 131 [], xA 1 131 [], xA 1 131 [], xA 1 131 [], xA 1 131 [], xA 1 131 [], xA 1 131 [], cO 21 [(206, r + 22), (205, r + 21), (204, r + 20), (203, r + 19), (202, r + 18), (201, r + 17), (200, r + 16)], xA 1 131 [], xA 1 131 [], xA 1 131 [], xA 1 131 [], xA 1 131 [], xA 1 131 [], xA 1 131 []]) (by simp only [DirL, List.cons_append, List.nil_append, Int.add_assoc, Int.reduceAdd]) (s2 := 2152) rfl).trans ?_
  refine (rk_pf hr h0 (pc := 34) (dd bX5_init dX5_init_34) (ci := 6) (j := 3) rfl (key := 703) rfl (kc := 26) rfl (jj := 0) (by omega) rfl rfl (by intro z; cases z) (by decide) (by decide) (cs2 := [cO 26 [(703, r + 15), (702, r + 5), (701, r + 1)], cO 23 [(402, r + 4), (401, r + 3), (400, r + 2)], cO 20 [(101, 1), (100, 0)], cO 20 [(101, 1), (100, 0)], cO 20 [(101, 1), (100, 0)], cO 24 [(508, r + 14), (507, r + 13), (506, r + 12), (505, r + 11), (504, r + 10), (503, r + 9), (502, r + 8), (501, r + 7), (500, r + 6)], xA 1 131 [], xA 1 131 [], xA 1 131 [], xA 1 131 [], xA 1 131 [], xA 1 131 [], xA 1 131 [], xA 1 131 [], xA 1 131 [], cO 21 [(206, r + 22), (205, r + 21), (204, r + 20), (203, r + 19), (202, r + 18), (201, r + 17), (200, r + 16)], xA 1 131 [], xA 1 131 [], xA 1 131 [], xA 1 131 [], xA 1 131 [], xA 1 131 [], xA 1 131 []]) rfl).trans ?_
  refine (rn_aload_n (pc := 37) (dd bX5_init dX5_init_37) rfl).trans ?_
  refine (rk_new hr h0 (pc := 38) (dd bX5_init dX5_init_38) rfl rfl (kc := 28) rfl (nn := 3) rfl (q := r + 23) rfl (cs2 := [cO 26 [(703, r + 15), (702, r + 5), (701, r + 1)], cO 23 [(402, r + 4), (401, r + 3), (400, r + 2)], cO 20 [(101, 1), (100, 0)], cO 20 [(101, 1), (100, 0)], cO 20 [(101, 1), (100, 0)], cO 24 [(508, r + 14), (507, r + 13), (506, r + 12), (505, r + 11), (504, r + 10), (503, r + 9), (502, r + 8), (501, r + 7), (500, r + 6)], xA 1 131 [], xA 1 131 [], xA 1 131 [], xA 1 131 [], xA 1 131 [], xA 1 131 [], xA 1 131 [], xA 1 131 [], xA 1 131 [], cO 21 [(206, r + 22), (205, r + 21), (204, r + 20), (203, r + 19), (202, r + 18), (201, r + 17), (200, r + 16)], xA 1 131 [], xA 1 131 [], xA 1 131 [], xA 1 131 [], xA 1 131 [], xA 1 131 [], xA 1 131 [], cO 28 []]) rfl (s2 := 2155) rfl).trans ?_
  refine (rn_dup (pc := 41) (dd bX5_init dX5_init_41) (by decide)).trans ?_
  refine (rn_iconst (pc := 42) (dd bX5_init dX5_init_42) (by decide)).trans ?_
  refine (rn_iconst (pc := 43) (dd bX5_init dX5_init_43) (by decide)).trans ?_
  refine (rn_iconst (pc := 44) (dd bX5_init dX5_init_44) (by decide)).trans ?_
  refine (rk_ini (cs := [cO 26 [(703, r + 15), (702, r + 5), (701, r + 1)], cO 23 [(402, r + 4), (401, r + 3), (400, r + 2)], cO 20 [(101, 1), (100, 0)], cO 20 [(101, 1), (100, 0)], cO 20 [(101, 1), (100, 0)], cO 24 [(508, r + 14), (507, r + 13), (506, r + 12), (505, r + 11), (504, r + 10), (503, r + 9), (502, r + 8), (501, r + 7), (500, r + 6)], xA 1 131 [], xA 1 131 [], xA 1 131 [], xA 1 131 [], xA 1 131 [], xA 1 131 [], xA 1 131 [], xA 1 131 [], xA 1 131 [], cO 21 [(206, r + 22), (205, r + 21), (204, r + 20), (203, r + 19), (202, r + 18), (201, r + 17), (200, r + 16)], xA 1 131 [], xA 1 131 [], xA 1 131 [], xA 1 131 [], xA 1 131 [], xA 1 131 [], xA 1 131 []]) (s := 2152) (cx := cO 28 []) (nn := 3) (ds := PlaceL (r + 23)) (t := 3) hr h0 (pc := 45) (dd bX5_init dX5_init_45) rfl (by decide) (q := r + 23) rfl rfl (as := [(1, r + 23), (0, 0), (0, 0), (0, 0)]) rfl ⟨Nat.le_of_ble_eq_true rfl, Nat.le_of_ble_eq_true rfl, Nat.le_of_ble_eq_true rfl, Nat.le_of_ble_eq_true rfl⟩ (fun h2 a b => spPlace a b) rfl rfl (cs2 := [cO 26 [(703, r + 15), (702, r + 5), (701, r + 1)], cO 23 [(402, r + 4), (401, r + 3), (400, r + 2)], cO 20 [(101, 1), (100, 0)], cO 20 [(101, 1), (100, 0)], cO 20 [(101, 1), (100, 0)], cO 24 [(508, r + 14), (507, r + 13), (506, r + 12), (505, r + 11), (504, r + 10), (503, r + 9), (502, r + 8), (501, r + 7), (500, r + 6)], xA 1 131 [], xA 1 131 [], xA 1 131 [], xA 1 131 [], xA 1 131 [], xA 1 131 [], xA 1 131 [], xA 1 131 [], xA 1 131 [], cO 21 [(206, r + 22), (205, r + 21), (204, r + 20), (203, r + 19), (202, r + 18), (201, r + 17), (200, r + 16)], xA 1 131 [], xA 1 131 [], xA 1 131 [], xA 1 131 [], xA 1 131 [], xA 1 131 [], xA 1 131 [], cO 28 [(902, 0), (901, 0), (900, 0)]]) (by simp only [PlaceL, List.cons_append, List.nil_append, Int.add_assoc, Int.reduceAdd]) (s2 := 2155) rfl).trans ?_
  refine (rk_pf hr h0 (pc := 48) (dd bX5_init dX5_init_48) (ci := 6) (j := 4) rfl (key := 704) rfl (kc := 26) rfl (jj := 0) (by omega) rfl rfl (by intro z; cases z) (by decide) (by decide) (cs2 := [cO 26 [(704, r + 23), (703, r + 15), (702, r + 5), (701, r + 1)], cO 23 [(402, r + 4), (401, r + 3), (400, r + 2)], cO 20 [(101, 1), (100, 0)], cO 20 [(101, 1), (100, 0)], cO 20 [(101, 1), (100, 0)], cO 24 [(508, r + 14), (507, r + 13), (506, r + 12), (505, r + 11), (504, r + 10), (503, r + 9), (502, r + 8), (501, r + 7), (500, r + 6)], xA 1 131 [], xA 1 131 [], xA 1 131 [], xA 1 131 [], xA 1 131 [], xA 1 131 [], xA 1 131 [], xA 1 131 [], xA 1 131 [], cO 21 [(206, r + 22), (205, r + 21), (204, r + 20), (203, r + 19), (202, r + 18), (201, r + 17), (200, r + 16)], xA 1 131 [], xA 1 131 [], xA 1 131 [], xA 1 131 [], xA 1 131 [], xA 1 131 [], xA 1 131 [], cO 28 [(902, 0), (901, 0), (900, 0)]]) rfl).trans ?_
  refine (rn_aload_n (pc := 51) (dd bX5_init dX5_init_51) rfl).trans ?_
  refine (rk_new hr h0 (pc := 52) (dd bX5_init dX5_init_52) rfl rfl (kc := 28) rfl (nn := 3) rfl (q := r + 24) rfl (cs2 := [cO 26 [(704, r + 23), (703, r + 15), (702, r + 5), (701, r + 1)], cO 23 [(402, r + 4), (401, r + 3), (400, r + 2)], cO 20 [(101, 1), (100, 0)], cO 20 [(101, 1), (100, 0)], cO 20 [(101, 1), (100, 0)], cO 24 [(508, r + 14), (507, r + 13), (506, r + 12), (505, r + 11), (504, r + 10), (503, r + 9), (502, r + 8), (501, r + 7), (500, r + 6)], xA 1 131 [], xA 1 131 [], xA 1 131 [], xA 1 131 [], xA 1 131 [], xA 1 131 [], xA 1 131 [], xA 1 131 [], xA 1 131 [], cO 21 [(206, r + 22), (205, r + 21), (204, r + 20), (203, r + 19), (202, r + 18), (201, r + 17), (200, r + 16)], xA 1 131 [], xA 1 131 [], xA 1 131 [], xA 1 131 [], xA 1 131 [], xA 1 131 [], xA 1 131 [], cO 28 [(902, 0), (901, 0), (900, 0)], cO 28 []]) rfl (s2 := 2158) rfl).trans ?_
  refine (rn_dup (pc := 55) (dd bX5_init dX5_init_55) (by decide)).trans ?_
  refine (rn_iconst (pc := 56) (dd bX5_init dX5_init_56) (by decide)).trans ?_
  refine (rn_iconst (pc := 57) (dd bX5_init dX5_init_57) (by decide)).trans ?_
  refine (rn_iconst (pc := 58) (dd bX5_init dX5_init_58) (by decide)).trans ?_
  refine (rk_ini (cs := [cO 26 [(704, r + 23), (703, r + 15), (702, r + 5), (701, r + 1)], cO 23 [(402, r + 4), (401, r + 3), (400, r + 2)], cO 20 [(101, 1), (100, 0)], cO 20 [(101, 1), (100, 0)], cO 20 [(101, 1), (100, 0)], cO 24 [(508, r + 14), (507, r + 13), (506, r + 12), (505, r + 11), (504, r + 10), (503, r + 9), (502, r + 8), (501, r + 7), (500, r + 6)], xA 1 131 [], xA 1 131 [], xA 1 131 [], xA 1 131 [], xA 1 131 [], xA 1 131 [], xA 1 131 [], xA 1 131 [], xA 1 131 [], cO 21 [(206, r + 22), (205, r + 21), (204, r + 20), (203, r + 19), (202, r + 18), (201, r + 17), (200, r + 16)], xA 1 131 [], xA 1 131 [], xA 1 131 [], xA 1 131 [], xA 1 131 [], xA 1 131 [], xA 1 131 [], cO 28 [(902, 0), (901, 0), (900, 0)]]) (s := 2155) (cx := cO 28 []) (nn := 3) (ds := PlaceL (r + 24)) (t := 3) hr h0 (pc := 59) (dd bX5_init dX5_init_59) rfl (by decide) (q := r + 24) rfl rfl (as := [(1, r + 24), (0, 0), (0, 0), (0, 0)]) rfl ⟨Nat.le_of_ble_eq_true rfl, Nat.le_of_ble_eq_true rfl, Nat.le_of_ble_eq_true rfl, Nat.le_of_ble_eq_true rfl⟩ (fun h2 a b => spPlace a b) rfl rfl (cs2 := [cO 26 [(704, r + 23), (703, r + 15), (702, r + 5), (701, r + 1)], cO 23 [(402, r + 4), (401, r + 3), (400, r + 2)], cO 20 [(101, 1), (100, 0)], cO 20 [(101, 1), (100, 0)], cO 20 [(101, 1), (100, 0)], cO 24 [(508, r + 14), (507, r + 13), (506, r + 12), (505, r + 11), (504, r + 10), (503, r + 9), (502, r + 8), (501, r + 7), (500, r + 6)], xA 1 131 [], xA 1 131 [], xA 1 131 [], xA 1 131 [], xA 1 131 [], xA 1 131 [], xA 1 131 [], xA 1 131 [], xA 1 131 [], cO 21 [(206, r + 22), (205, r + 21), (204, r + 20), (203, r + 19), (202, r + 18), (201, r + 17), (200, r + 16)], xA 1 131 [], xA 1 131 [], xA 1 131 [], xA 1 131 [], xA 1 131 [], xA 1 131 [], xA 1 131 [], cO 28 [(902, 0), (901, 0), (900, 0)], cO 28 [(902, 0), (901, 0), (900, 0)]]) (by simp only [PlaceL, List.cons_append, List.nil_append, Int.add_assoc, Int.reduceAdd]) (s2 := 2158) rfl).trans ?_
  refine (rk_pf hr h0 (pc := 62) (dd bX5_init dX5_init_62) (ci := 6) (j := 5) rfl (key := 705) rfl (kc := 26) rfl (jj := 0) (by omega) rfl rfl (by intro z; cases z) (by decide) (by decide) (cs2 := [cO 26 [(705, r + 24), (704, r + 23), (703, r + 15), (702, r + 5), (701, r + 1)], cO 23 [(402, r + 4), (401, r + 3), (400, r + 2)], cO 20 [(101, 1), (100, 0)], cO 20 [(101, 1), (100, 0)], cO 20 [(101, 1), (100, 0)], cO 24 [(508, r + 14), (507, r + 13), (506, r + 12), (505, r + 11), (504, r + 10), (503, r + 9), (502, r + 8), (501, r + 7), (500, r + 6)], xA 1 131 [], xA 1 131 [], xA 1 131 [], xA 1 131 [], xA 1 131 [], xA 1 131 [], xA 1 131 [], xA 1 131 [], xA 1 131 [], cO 21 [(206, r + 22), (205, r + 21), (204, r + 20), (203, r + 19), (202, r + 18), (201, r + 17), (200, r + 16)], xA 1 131 [], xA 1 131 [], xA 1 131 [], xA 1 131 [], xA 1 131 [], xA 1 131 [], xA 1 131 [], cO 28 [(902, 0), (901, 0), (900, 0)], cO 28 [(902, 0), (901, 0), (900, 0)]]) rfl).trans ?_
  refine (rn_aload_n (pc := 65) (dd bX5_init dX5_init_65) rfl).trans ?_
  refine (rk_new hr h0 (pc := 66) (dd bX5_init dX5_init_66) rfl rfl (kc := 28) rfl (nn := 3) rfl (q := r + 25) rfl (cs2 := [cO 26 [(705, r + 24), (704, r + 23), (703, r + 15), (702, r + 5), (701, r + 1)], cO 23 [(402, r + 4), (401, r + 3), (400, r + 2)], cO 20 [(101, 1), (100, 0)], cO 20 [(101, 1), (100, 0)], cO 20 [(101, 1), (100, 0)], cO 24 [(508, r + 14), (507, r + 13), (506, r + 12), (505, r + 11), (504, r + 10), (503, r + 9), (502, r + 8), (501, r + 7), (500, r + 6)], xA 1 131 [], xA 1 131 [], xA 1 131 [], xA 1 131 [], xA 1 131 [], xA 1 131 [], xA 1 131 [], xA 1 131 [], xA 1 131 [], cO 21 [(206, r + 22), (205, r + 21), (204, r + 20), (203, r + 19), (202, r + 18), (201, r + 17), (200, r + 16)], xA 1 131 [], xA 1 131 [], xA 1 131 [], xA 1 131 [], xA 1 131 [], xA 1 131 [], xA 1 131 [], cO 28 [(902, 0), (901, 0), (900, 0)], cO 28 [(902, 0), (901, 0), (900, 0)], cO 28 []]) rfl (s2 := 2161) rfl).trans ?_
  refine (rn_dup (pc := 69) (dd bX5_init dX5_init_69) (by decide)).trans ?_
  refine (rn_iconst (pc := 70) (dd bX5_init dX5_init_70) (by decide)).trans ?_
  refine (rn_iconst (pc := 71) (dd bX5_init dX5_init_71) (by decide)).trans ?_
  refine (rn_iconst (pc := 72) (dd bX5_init dX5_init_72) (by decide)).trans ?_
  refine (rk_ini (cs := [cO 26 [(705, r + 24), (704, r + 23), (703, r + 15), (702, r + 5), (701, r + 1)], cO 23 [(402, r + 4), (401, r + 3), (400, r + 2)], cO 20 [(101, 1), (100, 0)], cO 20 [(101, 1), (100, 0)], cO 20 [(101, 1), (100, 0)], cO 24 [(508, r + 14), (507, r + 13), (506, r + 12), (505, r + 11), (504, r + 10), (503, r + 9), (502, r + 8), (501, r + 7), (500, r + 6)], xA 1 131 [], xA 1 131 [], xA 1 131 [], xA 1 131 [], xA 1 131 [], xA 1 131 [], xA 1 131 [], xA 1 131 [], xA 1 131 [], cO 21 [(206, r + 22), (205, r + 21), (204, r + 20), (203, r + 19), (202, r + 18), (201, r + 17), (200, r + 16)], xA 1 131 [], xA 1 131 [], xA 1 131 [], xA 1 131 [], xA 1 131 [], xA 1 131 [], xA 1 131 [], cO 28 [(902, 0), (901, 0), (900, 0)], cO 28 [(902, 0), (901, 0), (900, 0)]]) (s := 2158) (cx := cO 28 []) (nn := 3) (ds := PlaceL (r + 25)) (t := 3) hr h0 (pc := 73) (dd bX5_init dX5_init_73) rfl (by decide) (q := r + 25) rfl rfl (as := [(1, r + 25), (0, 0), (0, 0), (0, 0)]) rfl ⟨Nat.le_of_ble_eq_true rfl, Nat.le_of_ble_eq_true rfl, Nat.le_of_ble_eq_true rfl, Nat.le_of_ble_eq_true rfl⟩ (fun h2 a b => spPlace a b) rfl rfl (cs2 := [cO 26 [(705, r + 24), (704, r + 23), (703, r + 15), (702, r + 5), (701, r + 1)], cO 23 [(402, r + 4), (401, r + 3), (400, r + 2)], cO 20 [(101, 1), (100, 0)], cO 20 [(101, 1), (100, 0)], cO 20 [(101, 1), (100, 0)], cO 24 [(508, r + 14), (507, r + 13), (506, r + 12), (505, r + 11), (504, r + 10), (503, r + 9), (502, r + 8), (501, r + 7), (500, r + 6)], xA 1 131 [], xA 1 131 [], xA 1 131 [], xA 1 131 [], xA 1 131 [], xA 1 131 [], xA 1 131 [], xA 1 131 [], xA 1 131 [], cO 21 [(206, r + 22), (205, r + 21), (204, r + 20), (203, r + 19), (202, r + 18), (201, r + 17), (200, r + 16)], xA 1 131 [], xA 1 131 [], xA 1 131 [], xA 1 131 [], xA 1 131 [], xA 1 131 [], xA 1 131 [], cO 28 [(902, 0), (901, 0), (900, 0)], cO 28 [(902, 0), (901, 0), (900, 0)], cO 28 [(902, 0), (901, 0), (900, 0)]]) (by simp only [PlaceL, List.cons_append, List.nil_append, Int.add_assoc, Int.reduceAdd]) (s2 := 2161) rfl).trans ?_
  refine (rk_pf hr h0 (pc := 76) (dd bX5_init dX5_init_76) (ci := 6) (j := 6) rfl (key := 706) rfl (kc := 26) rfl (jj := 0) (by omega) rfl rfl (by intro z; cases z) (by decide) (by decide) (cs2 := [cO 26 [(706, r + 25), (705, r + 24), (704, r + 23), (703, r + 15), (702, r + 5), (701, r + 1)], cO 23 [(402, r + 4), (401, r + 3), (400, r + 2)], cO 20 [(101, 1), (100, 0)], cO 20 [(101, 1), (100, 0)], cO 20 [(101, 1), (100, 0)], cO 24 [(508, r + 14), (507, r + 13), (506, r + 12), (505, r + 11), (504, r + 10), (503, r + 9), (502, r + 8), (501, r + 7), (500, r + 6)], xA 1 131 [], xA 1 131 [], xA 1 131 [], xA 1 131 [], xA 1 131 [], xA 1 131 [], xA 1 131 [], xA 1 131 [], xA 1 131 [], cO 21 [(206, r + 22), (205, r + 21), (204, r + 20), (203, r + 19), (202, r + 18), (201, r + 17), (200, r + 16)], xA 1 131 [], xA 1 131 [], xA 1 131 [], xA 1 131 [], xA 1 131 [], xA 1 131 [], xA 1 131 [], cO 28 [(902, 0), (901, 0), (900, 0)], cO 28 [(902, 0), (901, 0), (900, 0)], cO 28 [(902, 0), (901, 0), (900, 0)]]) rfl).trans ?_
  refine (rn_aload_n (pc := 79) (dd bX5_init dX5_init_79) rfl).trans ?_
  refine (rn_bipush (pc := 80) (dd bX5_init dX5_init_80) (by decide)).trans ?_
  refine (rk_pf hr h0 (pc := 82) (dd bX5_init dX5_init_82) (ci := 6) (j := 8) rfl (key := 708) rfl (kc := 26) rfl (jj := 0) (by omega) rfl rfl (by intro z; cases z) (by decide) (by decide) (cs2 := [cO 26 [(708, 20), (706, r + 25), (705, r + 24), (704, r + 23), (703, r + 15), (702, r + 5), (701, r + 1)], cO 23 [(402, r + 4), (401, r + 3), (400, r + 2)], cO 20 [(101, 1), (100, 0)], cO 20 [(101, 1), (100, 0)], cO 20 [(101, 1), (100, 0)], cO 24 [(508, r + 14), (507, r + 13), (506, r + 12), (505, r + 11), (504, r + 10), (503, r + 9), (502, r + 8), (501, r + 7), (500, r + 6)], xA 1 131 [], xA 1 131 [], xA 1 131 [], xA 1 131 [], xA 1 131 [], xA 1 131 [], xA 1 131 [], xA 1 131 [], xA 1 131 [], cO 21 [(206, r + 22), (205, r + 21), (204, r + 20), (203, r + 19), (202, r + 18), (201, r + 17), (200, r + 16)], xA 1 131 [], xA 1 131 [], xA 1 131 [], xA 1 131 [], xA 1 131 [], xA 1 131 [], xA 1 131 [], cO 28 [(902, 0), (901, 0), (900, 0)], cO 28 [(902, 0), (901, 0), (900, 0)], cO 28 [(902, 0), (901, 0), (900, 0)]]) rfl).trans ?_
  refine (rn_aload_n (pc := 85) (dd bX5_init dX5_init_85) rfl).trans ?_
  refine (rn_bipush (pc := 86) (dd bX5_init dX5_init_86) (by decide)).trans ?_
  refine (rk_int hr h0 (pc := 88) (dd bX5_init dX5_init_88) (by decide) (q := r + 26) rfl (cs2 := [cO 26 [(708, 20), (706, r + 25), (705, r + 24), (704, r + 23), (703, r + 15), (702, r + 5), (701, r + 1)], cO 23 [(402, r + 4), (401, r + 3), (400, r + 2)], cO 20 [(101, 1), (100, 0)], cO 20 [(101, 1), (100, 0)], cO 20 [(101, 1), (100, 0)], cO 24 [(508, r + 14), (507, r + 13), (506, r + 12), (505, r + 11), (504, r + 10), (503, r + 9), (502, r + 8), (501, r + 7), (500, r + 6)], xA 1 131 [], xA 1 131 [], xA 1 131 [], xA 1 131 [], xA 1 131 [], xA 1 131 [], xA 1 131 [], xA 1 131 [], xA 1 131 [], cO 21 [(206, r + 22), (205, r + 21), (204, r + 20), (203, r + 19), (202, r + 18), (201, r + 17), (200, r + 16)], xA 1 131 [], xA 1 131 [], xA 1 131 [], xA 1 131 [], xA 1 131 [], xA 1 131 [], xA 1 131 [], cO 28 [(902, 0), (901, 0), (900, 0)], cO 28 [(902, 0), (901, 0), (900, 0)], cO 28 [(902, 0), (901, 0), (900, 0)], xA 1 60 []]) rfl (s2 := 2221) rfl).trans ?_
  refine (rk_pf hr h0 (pc := 90) (dd bX5_init dX5_init_90) (ci := 6) (j := 11) rfl (key := 711) rfl (kc := 26) rfl (jj := 0) (by omega) rfl rfl (by intro z; cases z) (by decide) (by decide) (cs2 := [cO 26 [(711, r + 26), (708, 20), (706, r + 25), (705, r + 24), (704, r + 23), (703, r + 15), (702, r + 5), (701, r + 1)], cO 23 [(402, r + 4), (401, r + 3), (400, r + 2)], cO 20 [(101, 1), (100, 0)], cO 20 [(101, 1), (100, 0)], cO 20 [(101, 1), (100, 0)], cO 24 [(508, r + 14), (507, r + 13), (506, r + 12), (505, r + 11), (504, r + 10), (503, r + 9), (502, r + 8), (501, r + 7), (500, r + 6)], xA 1 131 [], xA 1 131 [], xA 1 131 [], xA 1 131 [], xA 1 131 [], xA 1 131 [], xA 1 131 [], xA 1 131 [], xA 1 131 [], cO 21 [(206, r + 22), (205, r + 21), (204, r + 20), (203, r + 19), (202, r + 18), (201, r + 17), (200, r + 16)], xA 1 131 [], xA 1 131 [], xA 1 131 [], xA 1 131 [], xA 1 131 [], xA 1 131 [], xA 1 131 [], cO 28 [(902, 0), (901, 0), (900, 0)], cO 28 [(902, 0), (901, 0), (900, 0)], cO 28 [(902, 0), (901, 0), (900, 0)], xA 1 60 []]) rfl).trans ?_
  refine (rn_aload_n (pc := 93) (dd bX5_init dX5_init_93) rfl).trans ?_
  refine (rn_bipush (pc := 94) (dd bX5_init dX5_init_94) (by decide)).trans ?_
  refine (rk_int hr h0 (pc := 96) (dd bX5_init dX5_init_96) (by decide) (q := r + 27) rfl (cs2 := [cO 26 [(711, r + 26), (708, 20), (706, r + 25), (705, r + 24), (704, r + 23), (703, r + 15), (702, r + 5), (701, r + 1)], cO 23 [(402, r + 4), (401, r + 3), (400, r + 2)], cO 20 [(101, 1), (100, 0)], cO 20 [(101, 1), (100, 0)], cO 20 [(101, 1), (100, 0)], cO 24 [(508, r + 14), (507, r + 13), (506, r + 12), (505, r + 11), (504, r + 10), (503, r + 9), (502, r + 8), (501, r + 7), (500, r + 6)], xA 1 131 [], xA 1 131 [], xA 1 131 [], xA 1 131 [], xA 1 131 [], xA 1 131 [], xA 1 131 [], xA 1 131 [], xA 1 131 [], cO 21 [(206, r + 22), (205, r + 21), (204, r + 20), (203, r + 19), (202, r + 18), (201, r + 17), (200, r + 16)], xA 1 131 [], xA 1 131 [], xA 1 131 [], xA 1 131 [], xA 1 131 [], xA 1 131 [], xA 1 131 [], cO 28 [(902, 0), (901, 0), (900, 0)], cO 28 [(902, 0), (901, 0), (900, 0)], cO 28 [(902, 0), (901, 0), (900, 0)], xA 1 60 [], xA 1 60 []]) rfl (s2 := 2281) rfl).trans ?_
  refine (rk_pf hr h0 (pc := 98) (dd bX5_init dX5_init_98) (ci := 6) (j := 12) rfl (key := 712) rfl (kc := 26) rfl (jj := 0) (by omega) rfl rfl (by intro z; cases z) (by decide) (by decide) (cs2 := [cO 26 [(712, r + 27), (711, r + 26), (708, 20), (706, r + 25), (705, r + 24), (704, r + 23), (703, r + 15), (702, r + 5), (701, r + 1)], cO 23 [(402, r + 4), (401, r + 3), (400, r + 2)], cO 20 [(101, 1), (100, 0)], cO 20 [(101, 1), (100, 0)], cO 20 [(101, 1), (100, 0)], cO 24 [(508, r + 14), (507, r + 13), (506, r + 12), (505, r + 11), (504, r + 10), (503, r + 9), (502, r + 8), (501, r + 7), (500, r + 6)], xA 1 131 [], xA 1 131 [], xA 1 131 [], xA 1 131 [], xA 1 131 [], xA 1 131 [], xA 1 131 [], xA 1 131 [], xA 1 131 [], cO 21 [(206, r + 22), (205, r + 21), (204, r + 20), (203, r + 19), (202, r + 18), (201, r + 17), (200, r + 16)], xA 1 131 [], xA 1 131 [], xA 1 131 [], xA 1 131 [], xA 1 131 [], xA 1 131 [], xA 1 131 [], cO 28 [(902, 0), (901, 0), (900, 0)], cO 28 [(902, 0), (901, 0), (900, 0)], cO 28 [(902, 0), (901, 0), (900, 0)], xA 1 60 [], xA 1 60 []]) rfl).trans ?_
  refine (rn_aload_n (pc := 101) (dd bX5_init dX5_init_101) rfl).trans ?_
  refine (rn_iconst (pc := 102) (dd bX5_init dX5_init_102) (by decide)).trans ?_
  refine (rk_pf hr h0 (pc := 103) (dd bX5_init dX5_init_103) (ci := 6) (j := 15) rfl (key := 715) rfl (kc := 26) rfl (jj := 0) (by omega) rfl rfl (by intro z; cases z) (by decide) (by decide) (cs2 := [cO 26 [(715, (-1)), (712, r + 27), (711, r + 26), (708, 20), (706, r + 25), (705, r + 24), (704, r + 23), (703, r + 15), (702, r + 5), (701, r + 1)], cO 23 [(402, r + 4), (401, r + 3), (400, r + 2)], cO 20 [(101, 1), (100, 0)], cO 20 [(101, 1), (100, 0)], cO 20 [(101, 1), (100, 0)], cO 24 [(508, r + 14), (507, r + 13), (506, r + 12), (505, r + 11), (504, r + 10), (503, r + 9), (502, r + 8), (501, r + 7), (500, r + 6)], xA 1 131 [], xA 1 131 [], xA 1 131 [], xA 1 131 [], xA 1 131 [], xA 1 131 [], xA 1 131 [], xA 1 131 [], xA 1 131 [], cO 21 [(206, r + 22), (205, r + 21), (204, r + 20), (203, r + 19), (202, r + 18), (201, r + 17), (200, r + 16)], xA 1 131 [], xA 1 131 [], xA 1 131 [], xA 1 131 [], xA 1 131 [], xA 1 131 [], xA 1 131 [], cO 28 [(902, 0), (901, 0), (900, 0)], cO 28 [(902, 0), (901, 0), (900, 0)], cO 28 [(902, 0), (901, 0), (900, 0)], xA 1 60 [], xA 1 60 []]) rfl).trans ?_
  refine (rn_aload_n (pc := 106) (dd bX5_init dX5_init_106) rfl).trans ?_
  refine (rk_new hr h0 (pc := 107) (dd bX5_init dX5_init_107) rfl rfl (kc := 27) rfl (nn := 4) rfl (q := r + 28) rfl (cs2 := [cO 26 [(715, (-1)), (712, r + 27), (711, r + 26), (708, 20), (706, r + 25), (705, r + 24), (704, r + 23), (703, r + 15), (702, r + 5), (701, r + 1)], cO 23 [(402, r + 4), (401, r + 3), (400, r + 2)], cO 20 [(101, 1), (100, 0)], cO 20 [(101, 1), (100, 0)], cO 20 [(101, 1), (100, 0)], cO 24 [(508, r + 14), (507, r + 13), (506, r + 12), (505, r + 11), (504, r + 10), (503, r + 9), (502, r + 8), (501, r + 7), (500, r + 6)], xA 1 131 [], xA 1 131 [], xA 1 131 [], xA 1 131 [], xA 1 131 [], xA 1 131 [], xA 1 131 [], xA 1 131 [], xA 1 131 [], cO 21 [(206, r + 22), (205, r + 21), (204, r + 20), (203, r + 19), (202, r + 18), (201, r + 17), (200, r + 16)], xA 1 131 [], xA 1 131 [], xA 1 131 [], xA 1 131 [], xA 1 131 [], xA 1 131 [], xA 1 131 [], cO 28 [(902, 0), (901, 0), (900, 0)], cO 28 [(902, 0), (901, 0), (900, 0)], cO 28 [(902, 0), (901, 0), (900, 0)], xA 1 60 [], xA 1 60 [], cO 27 []]) rfl (s2 := 2285) rfl).trans ?_
  refine (rn_dup (pc := 110) (dd bX5_init dX5_init_110) (by decide)).trans ?_
  refine (rk_ini (cs := [cO 26 [(715, (-1)), (712, r + 27), (711, r + 26), (708, 20), (706, r + 25), (705, r + 24), (704, r + 23), (703, r + 15), (702, r + 5), (701, r + 1)], cO 23 [(402, r + 4), (401, r + 3), (400, r + 2)], cO 20 [(101, 1), (100, 0)], cO 20 [(101, 1), (100, 0)], cO 20 [(101, 1), (100, 0)], cO 24 [(508, r + 14), (507, r + 13), (506, r + 12), (505, r + 11), (504, r + 10), (503, r + 9), (502, r + 8), (501, r + 7), (500, r + 6)], xA 1 131 [], xA 1 131 [], xA 1 131 [], xA 1 131 [], xA 1 131 [], xA 1 131 [], xA 1 131 [], xA 1 131 [], xA 1 131 [], cO 21 [(206, r + 22), (205, r + 21), (204, r + 20), (203, r + 19), (202, r + 18), (201, r + 17), (200, r + 16)], xA 1 131 [], xA 1 131 [], xA 1 131 [], xA 1 131 [], xA 1 131 [], xA 1 131 [], xA 1 131 [], cO 28 [(902, 0), (901, 0), (900, 0)], cO 28 [(902, 0), (901, 0), (900, 0)], cO 28 [(902, 0), (901, 0), (900, 0)], xA 1 60 [], xA 1 60 []]) (s := 2281) (cx := cO 27 []) (nn := 4) (ds := PictureL (r + 28)) (t := 3196) hr h0 (pc := 111) (dd bX5_init dX5_init_111) rfl (by decide) (q := r + 28) rfl rfl (as := [(1, r + 28)]) rfl ⟨Nat.le_of_ble_eq_true rfl, Nat.le_of_ble_eq_true rfl, Nat.le_of_ble_eq_true rfl, Nat.le_of_ble_eq_true rfl⟩ (fun h2 a b => spPicture a b) rfl rfl (cs2 := [cO 26 [(715, (-1)), (712, r + 27), (711, r + 26), (708, 20), (706, r + 25), (705, r + 24), (704, r + 23), (703, r + 15), (702, r + 5), (701, r + 1)], cO 23 [(402, r + 4), (401, r + 3), (400, r + 2)], cO 20 [(101, 1), (100, 0)], cO 20 [(101, 1), (100, 0)], cO 20 [(101, 1), (100, 0)], cO 24 [(508, r + 14), (507, r + 13), (506, r + 12), (505, r + 11), (504, r + 10), (503, r + 9), (502, r + 8), (501, r + 7), (500, r + 6)], xA 1 131 [], xA 1 131 [], xA 1 131 [], xA 1 131 [], xA 1 131 [], xA 1 131 [], xA 1 131 [], xA 1 131 [], xA 1 131 [], cO 21 [(206, r + 22), (205, r + 21), (204, r + 20), (203, r + 19), (202, r + 18), (201, r + 17), (200, r + 16)], xA 1 131 [], xA 1 131 [], xA 1 131 [], xA 1 131 [], xA 1 131 [], xA 1 131 [], xA 1 131 [], cO 28 [(902, 0), (901, 0), (900, 0)], cO 28 [(902, 0), (901, 0), (900, 0)], cO 28 [(902, 0), (901, 0), (900, 0)], xA 1 60 [], xA 1 60 [], cO 27 [(802, r + 31), (801, r + 30), (800, r + 29)], xA 1 3144 [], xA 1 24 [], xA 1 24 []]) (by simp only [PictureL, List.cons_append, List.nil_append, Int.add_assoc, Int.reduceAdd]) (s2 := 5477) rfl).trans ?_
  refine (rk_pf hr h0 (pc := 114) (dd bX5_init dX5_init_114) (ci := 6) (j := 17) rfl (key := 717) rfl (kc := 26) rfl (jj := 0) (by omega) rfl rfl (by intro z; cases z) (by decide) (by decide) (cs2 := [cO 26 [(717, r + 28), (715, (-1)), (712, r + 27), (711, r + 26), (708, 20), (706, r + 25), (705, r + 24), (704, r + 23), (703, r + 15), (702, r + 5), (701, r + 1)], cO 23 [(402, r + 4), (401, r + 3), (400, r + 2)], cO 20 [(101, 1), (100, 0)], cO 20 [(101, 1), (100, 0)], cO 20 [(101, 1), (100, 0)], cO 24 [(508, r + 14), (507, r + 13), (506, r + 12), (505, r + 11), (504, r + 10), (503, r + 9), (502, r + 8), (501, r + 7), (500, r + 6)], xA 1 131 [], xA 1 131 [], xA 1 131 [], xA 1 131 [], xA 1 131 [], xA 1 131 [], xA 1 131 [], xA 1 131 [], xA 1 131 [], cO 21 [(206, r + 22), (205, r + 21), (204, r + 20), (203, r + 19), (202, r + 18), (201, r + 17), (200, r + 16)], xA 1 131 [], xA 1 131 [], xA 1 131 [], xA 1 131 [], xA 1 131 [], xA 1 131 [], xA 1 131 [], cO 28 [(902, 0), (901, 0), (900, 0)], cO 28 [(902, 0), (901, 0), (900, 0)], cO 28 [(902, 0), (901, 0), (900, 0)], xA 1 60 [], xA 1 60 [], cO 27 [(802, r + 31), (801, r + 30), (800, r + 29)], xA 1 3144 [], xA 1 24 [], xA 1 24 []]) rfl).trans ?_
  refine (rn_aload_n (pc := 117) (dd bX5_init dX5_init_117) rfl).trans ?_
  refine (rk_new hr h0 (pc := 118) (dd bX5_init dX5_init_118) rfl rfl (kc := 27) rfl (nn := 4) rfl (q := r + 32) rfl (cs2 := [cO 26 [(717, r + 28), (715, (-1)), (712, r + 27), (711, r + 26), (708, 20), (706, r + 25), (705, r + 24), (704, r + 23), (703, r + 15), (702, r + 5), (701, r + 1)], cO 23 [(402, r + 4), (401, r + 3), (400, r + 2)], cO 20 [(101, 1), (100, 0)], cO 20 [(101, 1), (100, 0)], cO 20 [(101, 1), (100, 0)], cO 24 [(508, r + 14), (507, r + 13), (506, r + 12), (505, r + 11), (504, r + 10), (503, r + 9), (502, r + 8), (501, r + 7), (500, r + 6)], xA 1 131 [], xA 1 131 [], xA 1 131 [], xA 1 131 [], xA 1 131 [], xA 1 131 [], xA 1 131 [], xA 1 131 [], xA 1 131 [], cO 21 [(206, r + 22), (205, r + 21), (204, r + 20), (203, r + 19), (202, r + 18), (201, r + 17), (200, r + 16)], xA 1 131 [], xA 1 131 [], xA 1 131 [], xA 1 131 [], xA 1 131 [], xA 1 131 [], xA 1 131 [], cO 28 [(902, 0), (901, 0), (900, 0)], cO 28 [(902, 0), (901, 0), (900, 0)], cO 28 [(902, 0), (901, 0), (900, 0)], xA 1 60 [], xA 1 60 [], cO 27 [(802, r + 31), (801, r + 30), (800, r + 29)], xA 1 3144 [], xA 1 24 [], xA 1 24 [], cO 27 []]) rfl (s2 := 5481) rfl).trans ?_
  refine (rn_dup (pc := 121) (dd bX5_init dX5_init_121) (by decide)).trans ?_
  refine (rk_ini (cs := [cO 26 [(717, r + 28), (715, (-1)), (712, r + 27), (711, r + 26), (708, 20), (706, r + 25), (705, r + 24), (704, r + 23), (703, r + 15), (702, r + 5), (701, r + 1)], cO 23 [(402, r + 4), (401, r + 3), (400, r + 2)], cO 20 [(101, 1), (100, 0)], cO 20 [(101, 1), (100, 0)], cO 20 [(101, 1), (100, 0)], cO 24 [(508, r + 14), (507, r + 13), (506, r + 12), (505, r + 11), (504, r + 10), (503, r + 9), (502, r + 8), (501, r + 7), (500, r + 6)], xA 1 131 [], xA 1 131 [], xA 1 131 [], xA 1 131 [], xA 1 131 [], xA 1 131 [], xA 1 131 [], xA 1 131 [], xA 1 131 [], cO 21 [(206, r + 22), (205, r + 21), (204, r + 20), (203, r + 19), (202, r + 18), (201, r + 17), (200, r + 16)], xA 1 131 [], xA 1 131 [], xA 1 131 [], xA 1 131 [], xA 1 131 [], xA 1 131 [], xA 1 131 [], cO 28 [(902, 0), (901, 0), (900, 0)], cO 28 [(902, 0), (901, 0), (900, 0)], cO 28 [(902, 0), (901, 0), (900, 0)], xA 1 60 [], xA 1 60 [], cO 27 [(802, r + 31), (801, r + 30), (800, r + 29)], xA 1 3144 [], xA 1 24 [], xA 1 24 []]) (s := 5477) (cx := cO 27 []) (nn := 4) (ds := PictureL (r + 32)) (t := 3196) hr h0 (pc := 122) (dd bX5_init dX5_init_122) rfl (by decide) (q := r + 32) rfl rfl (as := [(1, r + 32)]) rfl ⟨Nat.le_of_ble_eq_true rfl, Nat.le_of_ble_eq_true rfl, Nat.le_of_ble_eq_true rfl, Nat.le_of_ble_eq_true rfl⟩ (fun h2 a b => spPicture a b) rfl rfl (cs2 := [cO 26 [(717, r + 28), (715, (-1)), (712, r + 27), (711, r + 26), (708, 20), (706, r + 25), (705, r + 24), (704, r + 23), (703, r + 15), (702, r + 5), (701, r + 1)], cO 23 [(402, r + 4), (401, r + 3), (400, r + 2)], cO 20 [(101, 1), (100, 0)], cO 20 [(101, 1), (100, 0)], cO 20 [(101, 1), (100, 0)], cO 24 [(508, r + 14), (507, r + 13), (506, r + 12), (505, r + 11), (504, r + 10), (503, r + 9), (502, r + 8), (501, r + 7), (500, r + 6)], xA 1 131 [], xA 1 131 [], xA 1 131 [], xA 1 131 [], xA 1 131 [], xA 1 131 [], xA 1 131 [], xA 1 131 [], xA 1 131 [], cO 21 [(206, r + 22), (205, r + 21), (204, r + 20), (203, r + 19), (202, r + 18), (201, r + 17), (200, r + 16)], xA 1 131 [], xA 1 131 [], xA 1 131 [], xA 1 131 [], xA 1 131 [], xA 1 131 [], xA 1 131 [], cO 28 [(902, 0), (901, 0), (900, 0)], cO 28 [(902, 0), (901, 0), (900, 0)], cO 28 [(902, 0), (901, 0), (900, 0)], xA 1 60 [], xA 1 60 [], cO 27 [(802, r + 31), (801, r + 30), (800, r + 29)], xA 1 3144 [], xA 1 24 [], xA 1 24 [], cO 27 [(802, r + 35), (801, r + 34), (800, r + 33)], xA 1 3144 [], xA 1 24 [], xA 1 24 []]) (by simp only [PictureL, List.cons_append, List.nil_append, Int.add_assoc, Int.reduceAdd]) (s2 := 8673) rfl).trans ?_
  refine (rk_pf hr h0 (pc := 125) (dd bX5_init dX5_init_125) (ci := 6) (j := 18) rfl (key := 718) rfl (kc := 26) rfl (jj := 0) (by omega) rfl rfl (by intro z; cases z) (by decide) (by decide) (cs2 := [cO 26 [(718, r + 32), (717, r + 28), (715, (-1)), (712, r + 27), (711, r + 26), (708, 20), (706, r + 25), (705, r + 24), (704, r + 23), (703, r + 15), (702, r + 5), (701, r + 1)], cO 23 [(402, r + 4), (401, r + 3), (400, r + 2)], cO 20 [(101, 1), (100, 0)], cO 20 [(101, 1), (100, 0)], cO 20 [(101, 1), (100, 0)], cO 24 [(508, r + 14), (507, r + 13), (506, r + 12), (505, r + 11), (504, r + 10), (503, r + 9), (502, r + 8), (501, r + 7), (500, r + 6)], xA 1 131 [], xA 1 131 [], xA 1 131 [], xA 1 131 [], xA 1 131 [], xA 1 131 [], xA 1 131 [], xA 1 131 [], xA 1 131 [], cO 21 [(206, r + 22), (205, r + 21), (204, r + 20), (203, r + 19), (202, r + 18), (201, r + 17), (200, r + 16)], xA 1 131 [], xA 1 131 [], xA 1 131 [], xA 1 131 [], xA 1 131 [], xA 1 131 [], xA 1 131 [], cO 28 [(902, 0), (901, 0), (900, 0)], cO 28 [(902, 0), (901, 0), (900, 0)], cO 28 [(902, 0), (901, 0), (900, 0)], xA 1 60 [], xA 1 60 [], cO 27 [(802, r + 31), (801, r + 30), (800, r + 29)], xA 1 3144 [], xA 1 24 [], xA 1 24 [], cO 27 [(802, r + 35), (801, r + 34), (800, r + 33)], xA 1 3144 [], xA 1 24 [], xA 1 24 []]) rfl).trans ?_
  refine (rn_aload_n (pc := 128) (dd bX5_init dX5_init_128) rfl).trans ?_
  refine (rn_aload_n (pc := 129) (dd bX5_init dX5_init_129) rfl).trans ?_
  refine (rk_pf hr h0 (pc := 130) (dd bX5_init dX5_init_130) (ci := 6) (j := 0) rfl (key := 700) rfl (kc := 26) rfl (jj := 0) (by omega) rfl rfl (by intro z; cases z) (by decide) (by decide) (cs2 := [cO 26 [(700, t), (718, r + 32), (717, r + 28), (715, (-1)), (712, r + 27), (711, r + 26), (708, 20), (706, r + 25), (705, r + 24), (704, r + 23), (703, r + 15), (702, r + 5), (701, r + 1)], cO 23 [(402, r + 4), (401, r + 3), (400, r + 2)], cO 20 [(101, 1), (100, 0)], cO 20 [(101, 1), (100, 0)], cO 20 [(101, 1), (100, 0)], cO 24 [(508, r + 14), (507, r + 13), (506, r + 12), (505, r + 11), (504, r + 10), (503, r + 9), (502, r + 8), (501, r + 7), (500, r + 6)], xA 1 131 [], xA 1 131 [], xA 1 131 [], xA 1 131 [], xA 1 131 [], xA 1 131 [], xA 1 131 [], xA 1 131 [], xA 1 131 [], cO 21 [(206, r + 22), (205, r + 21), (204, r + 20), (203, r + 19), (202, r + 18), (201, r + 17), (200, r + 16)], xA 1 131 [], xA 1 131 [], xA 1 131 [], xA 1 131 [], xA 1 131 [], xA 1 131 [], xA 1 131 [], cO 28 [(902, 0), (901, 0), (900, 0)], cO 28 [(902, 0), (901, 0), (900, 0)], cO 28 [(902, 0), (901, 0), (900, 0)], xA 1 60 [], xA 1 60 [], cO 27 [(802, r + 31), (801, r + 30), (800, r + 29)], xA 1 3144 [], xA 1 24 [], xA 1 24 [], cO 27 [(802, r + 35), (801, r + 34), (800, r + 33)], xA 1 3144 [], xA 1 24 [], xA 1 24 []]) rfl).trans ?_
  refine (rn_iconst (pc := 133) (dd bX5_init dX5_init_133) (by decide)).trans ?_
  refine (rn_istore_n (pc := 134) (dd bX5_init dX5_init_134) (Nat.le_of_ble_eq_true rfl) rfl).trans ?_
  rfl

theorem spPaneL {h : vH} {r t : Int} (hr : h 3 0 0 = r) (h0 : 0 < r) : ∀ (k j : Nat), j + k = 60 → vrun mX5_init 135 [(1, r), (1, t), (0, (j : Int))] [] (hp h (PaneQ r t (List.replicate j (-1))) 8673) = some (.inl none, hp h (PaneQ r t (List.replicate 60 (-1))) 8673)
  | 0, j, e => by
    have e2 : j = 60 := by omega
    subst e2
    refine (rn_iload_n (pc := 135) (dd bX5_init dX5_init_135) rfl).trans ?_
    refine (rn_bipush (pc := 136) (dd bX5_init dX5_init_136) (by decide)).trans ?_
    refine (rn_icmp_ge (t := 154) (pc := 138) (dd bX5_init dX5_init_138) rfl).trans ?_
    refine (if_pos (by omega)).trans ?_
    exact rn_return (pc := 154) (dd bX5_init dX5_init_154) rfl
  | k + 1, j, e => by
    refine (rn_iload_n (pc := 135) (dd bX5_init dX5_init_135) rfl).trans ?_
    refine (rn_bipush (pc := 136) (dd bX5_init dX5_init_136) (by decide)).trans ?_
    refine (rn_icmp_ge (t := 154) (pc := 138) (dd bX5_init dX5_init_138) rfl).trans ?_
    refine (if_neg (by omega)).trans ?_
    refine (rn_aload_n (pc := 141) (dd bX5_init dX5_init_141) rfl).trans ?_
    refine (rk_gf hr h0 (pc := 142) (dd bX5_init dX5_init_142) (ci := 6) (j := 11) rfl (t := 1) rfl (key := 711) rfl (kc := 26) rfl (jj := 0) (by omega) rfl (v := r + 26) rfl).trans ?_
    refine (rn_iload_n (pc := 145) (dd bX5_init dX5_init_145) rfl).trans ?_
    refine (rn_iconst (pc := 146) (dd bX5_init dX5_init_146) (by decide)).trans ?_
    refine (rk_iastore hr h0 (pc := 147) (dd bX5_init dX5_init_147) (n := 60) (W := List.replicate j (-1)) (jj := 26) rfl rfl (by rw [List.length_replicate]) (by omega) (cs2 := PaneQ r t (List.replicate (j + 1) (-1))) (by rw [List.replicate_succ']; rfl)).trans ?_
    refine (rg_iinc (pc := 148) (dd bX5_init dX5_init_148) (x := (j : Int)) rfl (Nat.le_of_ble_eq_true rfl) (by omega) (by omega) (L2 := [(1, r), (1, t), (0, ((j + 1 : Nat) : Int))]) rfl).trans ?_
    refine (rn_goto (t := 135) (pc := 151) (dd bX5_init dX5_init_151) rfl).trans ?_
    exact spPaneL hr h0 k (j + 1) (by omega)
def PaneL (r t : Int) : List cC := PaneQ r t (List.replicate 60 (-1))
theorem spPane {h : vH} {r t : Int} (hr : h 3 0 0 = r) (h0 : 0 < r) : vcl mX5_init [(1, r), (1, t)] (hp h [cO 26 []] 20) = some (.inl none, hp h (PaneL r t) 8673) :=
  vcl_as (L := [(1, r), (1, t), (9, 0)]) rfl ((spPane0 hr h0).trans (spPaneL hr h0 60 0 rfl))

theorem bX10_init : vmB mX10_init = cX10_init := rfl
def ptL (r : Int) : Nat → List Int
  | 0 => []
  | n + 1 => ptL r n ++ [r + 2 * (n : Int)]
def linesL (r : Int) : Nat → List cC
  | 0 => []
  | n + 1 => linesL r n ++ LineL (r + 2 * (n : Int))
theorem ptL_len {r : Int} : ∀ n, (ptL r n).length = n
  | 0 => rfl
  | n + 1 => by rw [ptL, List.length_append, ptL_len n]; rfl
theorem linesL_len {r : Int} : ∀ n, (linesL r n).length = 2 * n
  | 0 => rfl
  | n + 1 => by rw [linesL, List.length_append, linesL_len n]; simp only [LineL, List.length_cons, List.length_nil]; omega
def TextQ (r : Int) (n : Nat) : List cC := [cO 31 [(1201, 1), (1200, r + 1)], xA 4 60 (ptL (r + 2) n)] ++ linesL (r + 2) n
theorem TextQ_len {r : Int} {n : Nat} : (TextQ r n).length = 2 + 2 * n := by rw [TextQ, List.length_append, linesL_len]; simp only [List.length_cons, List.length_nil]
theorem spText0 {h : vH} {r : Int} (hr : h 3 0 0 = r) (h0 : 0 < r) : vrun mX10_init 0 [(1, r), (9, 0)] [] (hp h [cO 31 []] 2) = vrun mX10_init 20 [(1, r), (0, 0)] [] (hp h (TextQ r 0) 62) := by
  refine (rn_aload_n (pc := 0) (dd bX10_init dX10_init_0) rfl).trans ?_
  refine (rn_object (pc := 1) (dd bX10_init dX10_init_1) rfl rfl (by omega) ⟨Nat.le_of_ble_eq_true rfl, Nat.le_of_ble_eq_true rfl, Nat.le_of_ble_eq_true rfl⟩).trans ?_
  refine (rn_aload_n (pc := 4) (dd bX10_init dX10_init_4) rfl).trans ?_
  refine (rn_bipush (pc := 5) (dd bX10_init dX10_init_5) (by decide)).trans ?_
  refine (rk_anew hr h0 (pc := 7) (dd bX10_init dX10_init_7) (ki := 4) rfl (kc := 4) rfl (by decide) (q := r + 1) rfl (cs2 := [cO 31 [], xA 4 60 []]) rfl (s2 := 62) rfl).trans ?_
  refine (rk_pf hr h0 (pc := 10) (dd bX10_init dX10_init_10) (ci := 11) (j := 0) rfl (key := 1200) rfl (kc := 31) rfl (jj := 0) (by omega) rfl rfl (by intro z; cases z) (by decide) (by decide) (cs2 := [cO 31 [(1200, r + 1)], xA 4 60 []]) rfl).trans ?_
  refine (rn_aload_n (pc := 13) (dd bX10_init dX10_init_13) rfl).trans ?_
  refine (rn_iconst (pc := 14) (dd bX10_init dX10_init_14) (by decide)).trans ?_
  refine (rk_pf hr h0 (pc := 15) (dd bX10_init dX10_init_15) (ci := 11) (j := 1) rfl (key := 1201) rfl (kc := 31) rfl (jj := 0) (by omega) rfl rfl (by intro z; cases z) (by decide) (by decide) (cs2 := [cO 31 [(1201, 1), (1200, r + 1)], xA 4 60 []]) rfl).trans ?_
  refine (rn_iconst (pc := 18) (dd bX10_init dX10_init_18) (by decide)).trans ?_
  refine (rn_istore_n (pc := 19) (dd bX10_init dX10_init_19) (Nat.le_of_ble_eq_true rfl) rfl).trans ?_
  rfl
theorem spTextL {h : vH} {r : Int} (hr : h 3 0 0 = r) (h0 : 0 < r) : ∀ (k j : Nat) (s : Int), j + k = 60 → vrun mX10_init 20 [(1, r), (0, (j : Int))] [] (hp h (TextQ r j) s) = some (.inl none, hp h (TextQ r 60) (s + 83 * (k : Int)))
  | 0, j, s, e => by
    have e2 : j = 60 := by omega
    subst e2
    refine (rn_iload_n (pc := 20) (dd bX10_init dX10_init_20) rfl).trans ?_
    refine (rn_bipush (pc := 21) (dd bX10_init dX10_init_21) (by decide)).trans ?_
    refine (rn_icmp_ge (t := 45) (pc := 23) (dd bX10_init dX10_init_23) rfl).trans ?_
    refine (if_pos (by omega)).trans ?_
    refine (rn_return (pc := 45) (dd bX10_init dX10_init_45) rfl).trans ?_
    rw [show s + 83 * ((0 : Nat) : Int) = s by omega]
  | k + 1, j, s, e => by
    have eq : r + ((TextQ r j).length : Int) = r + 2 + 2 * (j : Int) := by rw [TextQ_len]; omega
    refine (rn_iload_n (pc := 20) (dd bX10_init dX10_init_20) rfl).trans ?_
    refine (rn_bipush (pc := 21) (dd bX10_init dX10_init_21) (by decide)).trans ?_
    refine (rn_icmp_ge (t := 45) (pc := 23) (dd bX10_init dX10_init_23) rfl).trans ?_
    refine (if_neg (by omega)).trans ?_
    refine (rn_aload_n (pc := 26) (dd bX10_init dX10_init_26) rfl).trans ?_
    refine (rk_gf hr h0 (pc := 27) (dd bX10_init dX10_init_27) (ci := 11) (j := 0) rfl (t := 1) rfl (key := 1200) rfl (kc := 31) rfl (jj := 0) (by omega) (F := [(1201, 1), (1200, r + 1)]) rfl (v := r + 1) rfl).trans ?_
    refine (rn_iload_n (pc := 30) (dd bX10_init dX10_init_30) rfl).trans ?_
    refine (rk_new hr h0 (pc := 31) (dd bX10_init dX10_init_31) rfl rfl (kc := 25) rfl (nn := 3) rfl (q := r + 2 + 2 * (j : Int)) eq (cs2 := TextQ r j ++ [cO 25 []]) rfl (s2 := s + 3) rfl).trans ?_
    refine (rn_dup (pc := 34) (dd bX10_init dX10_init_34) (by decide)).trans ?_
    refine (rk_ini (cs := TextQ r j) (s := s) (cx := cO 25 []) (nn := 3) (ds := LineL (r + 2 + 2 * (j : Int))) (t := 83) hr h0 (pc := 35) (dd bX10_init dX10_init_35) rfl (by decide) (q := r + 2 + 2 * (j : Int)) eq rfl (as := [(1, r + 2 + 2 * (j : Int))]) rfl ⟨Nat.le_of_ble_eq_true rfl, Nat.le_of_ble_eq_true rfl, Nat.le_of_ble_eq_true rfl, Nat.le_of_ble_eq_true rfl⟩ (fun h2 a b => spLine a b) rfl rfl (cs2 := TextQ r j ++ LineL (r + 2 + 2 * (j : Int))) rfl (s2 := s + 83) rfl).trans ?_
    refine (rk_aastore (kd := 4) (kv := 25) (n := 60) (W := ptL (r + 2) j) hr h0 (pc := 38) (dd bX10_init dX10_init_38) (by decide) (jj := 1) rfl rfl (j2 := 2 + 2 * j) (by omega) (by rw [List.getElem?_append_right (Nat.le_of_eq TextQ_len), TextQ_len, Nat.sub_self]; rfl) (by rw [ptL_len]) (by omega) (cs2 := TextQ r (j + 1)) ?_).trans ?_
    · show [_, _] ++ (linesL (r + 2) j ++ _) = [_, _] ++ (linesL (r + 2) j ++ _)
      rfl
    refine (rg_iinc (pc := 39) (dd bX10_init dX10_init_39) (x := (j : Int)) rfl (Nat.le_of_ble_eq_true rfl) (by omega) (by omega) (L2 := [(1, r), (0, ((j + 1 : Nat) : Int))]) rfl).trans ?_
    refine (rn_goto (t := 20) (pc := 42) (dd bX10_init dX10_init_42) rfl).trans ?_
    refine (spTextL hr h0 k (j + 1) (s + 83) (by omega)).trans ?_
    rw [show s + 83 + 83 * (k : Int) = s + 83 * ((k + 1 : Nat) : Int) by omega]
def TextL (r : Int) : List cC := TextQ r 60
theorem TextL_len {r : Int} : (TextL r).length = 122 := TextQ_len
theorem StackL_len {r : Int} : (StackL r).length = 7 := rfl
theorem PaneL_len {r t : Int} : (PaneL r t).length = 36 := rfl
theorem segR {a c : cC} {T R : List cC} (hT : T.length = 122) {j : Nat} (e : R[j]? = some c) : ([a] ++ (T ++ R))[123 + j]? = some c := by
  rw [List.getElem?_append_right (by show 1 ≤ _; omega), show 123 + j - [a].length = 122 + j from by show 123 + j - 1 = _; omega, List.getElem?_append_right (by omega), hT, show 122 + j - 122 = j by omega]
  exact e
theorem segS {a c : cC} {T R : List cC} (hT : T.length = 122) {j : Nat} : ([a] ++ (T ++ R)).set (123 + j) c = [a] ++ (T ++ R.set j c) := by
  rw [List.set_append_right _ _ (by show 1 ≤ _; omega), show 123 + j - [a].length = 122 + j from by show 123 + j - 1 = _; omega, List.set_append_right _ _ (by omega), hT, show 122 + j - 122 = j by omega]
theorem spText {h : vH} {r : Int} (hr : h 3 0 0 = r) (h0 : 0 < r) : vcl mX10_init [(1, r)] (hp h [cO 31 []] 2) = some (.inl none, hp h (TextL r) 5042) :=
  vcl_as (L := [(1, r), (9, 0)]) rfl ((spText0 hr h0).trans (spTextL hr h0 60 0 62 rfl))


