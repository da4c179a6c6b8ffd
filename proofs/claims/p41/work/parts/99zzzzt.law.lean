theorem rg_lshr {m : vM} {pc : Nat} {L S : List vv} {h : vH} {a b : Int} (d : decode (vmB m) pc = .ok (.lshr, 1)) : vrun m pc L ((0, b) :: (2, a) :: S) h = vrun m (pc + 1) L ((2, blshr a b) :: S) h := rn_lshr d
theorem jS {h a : vH} {n m : Int} (j : JG n m h a) : sC h := j.2.2.2.2.2
theorem ab_iaload {m : vM} {pc : Nat} {L S : List vv} {h : vH} {Q : vR → vH → Prop} {r i : Int} (d : decode (vmB m) pc = .ok (.iaload, 1)) (hr : h 0 r 0 = 11) (h0 : 0 ≤ i) (h1 : i < h 1 r 0) (c : c32 (h 2 r i)) (k : ∀ v, c32 v → Ru Q (vrun m (pc + 1) L ((0, v) :: S) h)) : Ru Q (vrun m pc L ((0, i) :: (1, r) :: S) h) := ru (rn_iaload d ⟨Or.inr hr, vin_in rfl h0 h1⟩) (k _ c)
theorem S_removeX {h a : vH} {n m l x y : Int} (j : JG n m h a) (hn : 0 ≤ n ∧ n ≤ 9000) (hl : 0 ≤ l ∧ l < a 1504 282 0) (hx : 0 ≤ x ∧ x < a 2 284 l) (hy : y = x + 1) : ∃ h1 a1, vcl mX12_remove [(1, 3), (0, l), (0, x), (0, y)] h = some (.inl (some (0, a 2 284 l - 1)), h1) ∧ JG (n + 1) (m + 1) h1 a1 ∧ (a1 1504 282 0 = a 1504 282 0 ∧ a1 2 284 l = a 2 284 l - 1) := by
  subst hy
  exact S_remove j hn hl hx
theorem vt_ok {b : Int} (hb : 0 ≤ b ∧ b ≤ 3) : isVt (blshr 826371681 (8 * b)) ∧ -9223372036854775808 ≤ blshr 826371681 (8 * b) ∧ blshr 826371681 (8 * b) < 9223372036854775808 := by
  have c8 : ∀ {P : Int → Prop} {m : Int}, P 0 → P 1 → P 2 → P 3 → P 4 → P 5 → P 6 → P 7 → ∀ i, 0 ≤ i → i < 8 → P i := fun {P m} p0 p1 p2 p3 p4 p5 p6 p7 i u v => by
    obtain z | z | z | z | z | z | z | z : i = 0 ∨ i = 1 ∨ i = 2 ∨ i = 3 ∨ i = 4 ∨ i = 5 ∨ i = 6 ∨ i = 7 := by omega
    all_goals (subst z; assumption)
  obtain z | z | z | z : b = 0 ∨ b = 1 ∨ b = 2 ∨ b = 3 := by omega
  · subst z
    refine ⟨⟨4, by decide, by decide, fun i u v => ?_, fun i u v => ?_⟩, by decide +kernel⟩
    · obtain z | z | z | z : i = 0 ∨ i = 1 ∨ i = 2 ∨ i = 3 := by omega
      all_goals (subst z; decide +kernel)
    · obtain z | z | z | z : i = 4 ∨ i = 5 ∨ i = 6 ∨ i = 7 := by omega
      all_goals (subst z; decide +kernel)
  · subst z
    refine ⟨⟨3, by decide, by decide, fun i u v => ?_, fun i u v => ?_⟩, by decide +kernel⟩
    · obtain z | z | z : i = 0 ∨ i = 1 ∨ i = 2 := by omega
      all_goals (subst z; decide +kernel)
    · obtain z | z | z | z | z : i = 3 ∨ i = 4 ∨ i = 5 ∨ i = 6 ∨ i = 7 := by omega
      all_goals (subst z; decide +kernel)
  · subst z
    refine ⟨⟨2, by decide, by decide, fun i u v => ?_, fun i u v => ?_⟩, by decide +kernel⟩
    · obtain z | z : i = 0 ∨ i = 1 := by omega
      all_goals (subst z; decide +kernel)
    · obtain z | z | z | z | z | z : i = 2 ∨ i = 3 ∨ i = 4 ∨ i = 5 ∨ i = 6 ∨ i = 7 := by omega
      all_goals (subst z; decide +kernel)
  · subst z
    refine ⟨⟨1, by decide, by decide, fun i u v => ?_, fun i u v => ?_⟩, by decide +kernel⟩
    · obtain z : i = 0 := by omega
      subst z; decide +kernel
    · obtain z | z | z | z | z | z | z : i = 1 ∨ i = 2 ∨ i = 3 ∨ i = 4 ∨ i = 5 ∨ i = 6 ∨ i = 7 := by omega
      all_goals (subst z; decide +kernel)
theorem RC_0 {a : vH} {p l : Int} (g : iG a) (hp : 0 ≤ p ∧ p < 4) (hl : 0 ≤ l ∧ l < a 1504 282 0) : mRC a p l = 0 ↔ mInv a p l := by
  have gl := g.1.2.1
  have i := mRC_in g.1 hp (l := l) ⟨hl.1, by omega⟩
  constructor
  · intro z
    exact Classical.byContradiction (fun w => by have := i.2.2 w; omega)
  · intro z
    exact if_pos z
theorem rc_back {a a1 a2 : vH} {n p l x : Int} (P : iP n a) (P2 : iP n a2) (hp : 0 ≤ p ∧ p < 4) (hl : 0 ≤ l ∧ l < a 1504 282 0) (h60 : a 1504 282 0 < 60) (e1 : a1 = tBk (th 0 a) l x) (e2 : a2 = tJd (th 0 a1) l) (e3 : a2 1504 282 0 = a 1504 282 0) : (mRC a2 p l = 0 → mRC a p l = 0) ∧ (mRC a p l = 0 → mRC a2 p l = 0) := by
  have r1 := RC_0 P.1.1.1 hp hl
  have r2 := RC_0 P2.1.1.1 hp (l := l) (by omega)
  have b := bj_inv (x := x) P.1.1 hl h60 hp
  rw [← e1, ← e2] at b
  exact ⟨fun z => r1.mpr (b.mp (r2.mp z)), fun z => r2.mpr (b.mpr (r1.mp z))⟩
theorem lw_tail {h a : vH} {n m : Int} {pl T t x y de p : Int} {v10 v11 v12 v13 v14 v15 v16 v17 : vv} {Q : vR → vH → Prop} (j : JG n m h a) (hp : 0 ≤ p ∧ p < 4) (hy : 0 ≤ y ∧ y ≤ 268435455) (ht : 0 ≤ t ∧ t ≤ 1000) (K : ∀ {h1 a1 : vH}, JG (n + 2) (m + 562) h1 a1 → Ru Q (vrun mL_law 73 [(1, 2), (1, 3), (0, pl), (0, 1), (0, T), (0, (t + 1)), (0, x), (0, y), (0, de), (0, p), v10, v11, v12, v13, v14, v15, v16, v17] [] h1)) : Ru Q (vrun mL_law 1474 [(1, 2), (1, 3), (0, pl), (0, 1), (0, T), (0, t), (0, x), (0, y), (0, de), (0, p), v10, v11, v12, v13, v14, v15, v16, v17] [] h) := by
  refine ru (rn_iload_n (pc := 1474) (dd bL_law dL_law_1474) rfl) ?_
  refine ru ((rn_if_eq (t := 1528) (pc := 1475) (dd bL_law dL_law_1475) rfl).trans (if_neg (by decide))) ?_
  refine ru (rn_aload_n (pc := 1478) (dd bL_law dL_law_1478) rfl) ?_
  obtain ⟨h1, e2, J3⟩ := L_screen j
  refine ru ((rg_static (pc := 1479) (dd bL_law dL_law_1479) rfl (by decide) (Nat.le_of_ble_eq_true rfl) (as := [(1, 3)]) rfl rfl ⟨Nat.le_of_ble_eq_true rfl, Nat.le_of_ble_eq_true rfl, Nat.le_of_ble_eq_true rfl, Nat.le_of_ble_eq_true rfl⟩).trans (vret_v e2)) ?_
  refine ru ((rn_if_eq (t := 1528) (pc := 1482) (dd bL_law dL_law_1482) rfl).trans (if_neg (by decide))) ?_
  refine ru (rn_iload (pc := 1485) (dd bL_law dL_law_1485) rfl) ?_
  refine ru (rn_iconst (pc := 1487) (dd bL_law dL_law_1487) (by decide)) ?_
  refine ab_irem (pc := 1488) (dd bL_law dL_law_1488) (by omega) (by omega) (fun t4 ht4 => ?_)
  by_cases c1 : 0 < t4
  · refine ru ((rn_if_gt (t := 1506) (pc := 1489) (dd bL_law dL_law_1489) rfl).trans (if_pos c1)) ?_
    refine ru (rn_iload (pc := 1506) (dd bL_law dL_law_1506) rfl) ?_
    refine ru (rn_bipush (pc := 1508) (dd bL_law dL_law_1508) (by decide)) ?_
    refine ab_irem (pc := 1510) (dd bL_law dL_law_1510) (by omega) (by omega) (fun t5 ht5 => ?_)
    refine ru (rn_iconst (pc := 1511) (dd bL_law dL_law_1511) (by decide)) ?_
    by_cases c2 : t5 ≠ 5
    · refine ru ((rn_icmp_ne (t := 1524) (pc := 1512) (dd bL_law dL_law_1512) rfl).trans (if_pos c2)) ?_
      refine ru (rn_iconst (pc := 1524) (dd bL_law dL_law_1524) (by decide)) ?_
      refine ru (rn_goto (t := 1529) (pc := 1525) (dd bL_law dL_law_1525) rfl) ?_
      refine ru (rn_istore_n (pc := 1529) (dd bL_law dL_law_1529) (Nat.le_of_ble_eq_true rfl) (L2 := [(1, 2), (1, 3), (0, pl), (0, 1), (0, T), (0, t), (0, x), (0, y), (0, de), (0, p), v10, v11, v12, v13, v14, v15, v16, v17]) rfl) ?_
      refine ru (rg_iinc (pc := 1530) (dd bL_law dL_law_1530) rfl (Nat.le_of_ble_eq_true rfl) (by omega) (by omega) (L2 := [(1, 2), (1, 3), (0, pl), (0, 1), (0, T), (0, (t + 1)), (0, x), (0, y), (0, de), (0, p), v10, v11, v12, v13, v14, v15, v16, v17]) rfl) ?_
      refine ru (rn_goto (t := 73) (pc := 1533) (dd bL_law dL_law_1533) rfl) ?_
      exact K (JG_le J3 (by omega) (by omega))
    · refine ru ((rn_icmp_ne (t := 1524) (pc := 1512) (dd bL_law dL_law_1512) rfl).trans (if_neg c2)) ?_
      refine ru (rn_aload_n (pc := 1515) (dd bL_law dL_law_1515) rfl) ?_
      refine ru (rn_iload (pc := 1516) (dd bL_law dL_law_1516) rfl) ?_
      obtain ⟨h6, a9, e7, J8⟩ := L_drawn J3 hp
      refine ru ((rg_static (pc := 1518) (dd bL_law dL_law_1518) rfl (by decide) (Nat.le_of_ble_eq_true rfl) (as := [(1, 3), (0, p)]) rfl rfl ⟨Nat.le_of_ble_eq_true rfl, Nat.le_of_ble_eq_true rfl, Nat.le_of_ble_eq_true rfl, Nat.le_of_ble_eq_true rfl⟩).trans (vret_v e7)) ?_
      refine ru ((rn_if_eq (t := 1528) (pc := 1521) (dd bL_law dL_law_1521) rfl).trans (if_neg (by decide))) ?_
      refine ru (rn_iconst (pc := 1524) (dd bL_law dL_law_1524) (by decide)) ?_
      refine ru (rn_goto (t := 1529) (pc := 1525) (dd bL_law dL_law_1525) rfl) ?_
      refine ru (rn_istore_n (pc := 1529) (dd bL_law dL_law_1529) (Nat.le_of_ble_eq_true rfl) (L2 := [(1, 2), (1, 3), (0, pl), (0, 1), (0, T), (0, t), (0, x), (0, y), (0, de), (0, p), v10, v11, v12, v13, v14, v15, v16, v17]) rfl) ?_
      refine ru (rg_iinc (pc := 1530) (dd bL_law dL_law_1530) rfl (Nat.le_of_ble_eq_true rfl) (by omega) (by omega) (L2 := [(1, 2), (1, 3), (0, pl), (0, 1), (0, T), (0, (t + 1)), (0, x), (0, y), (0, de), (0, p), v10, v11, v12, v13, v14, v15, v16, v17]) rfl) ?_
      refine ru (rn_goto (t := 73) (pc := 1533) (dd bL_law dL_law_1533) rfl) ?_
      exact K (JG_le J8 (by omega) (by omega))
  · refine ru ((rn_if_gt (t := 1506) (pc := 1489) (dd bL_law dL_law_1489) rfl).trans (if_neg c1)) ?_
    refine ru (rn_aload_n (pc := 1492) (dd bL_law dL_law_1492) rfl) ?_
    refine ru (rn_iload (pc := 1493) (dd bL_law dL_law_1493) rfl) ?_
    refine ru (rn_bipush (pc := 1495) (dd bL_law dL_law_1495) (by decide)) ?_
    refine ab_ishr (pc := 1497) (dd bL_law dL_law_1497) (by unfold c32; omega) (fun t10 ht10 gt10 => ?_)
    have kt10 := gt10 (by omega)
    unfold c32 at ht10
    refine ru (rn_iconst (pc := 1498) (dd bL_law dL_law_1498) (by decide)) ?_
    refine ab_iand (pc := 1499) (dd bL_law dL_law_1499) (by decide) (fun t11 ht11 => ?_)
    obtain ⟨h12, e13, J14⟩ := L_rows (p := t11) J3 (by omega)
    refine ru ((rg_static (pc := 1500) (dd bL_law dL_law_1500) rfl (by decide) (Nat.le_of_ble_eq_true rfl) (as := [(1, 3), (0, t11)]) rfl rfl ⟨Nat.le_of_ble_eq_true rfl, Nat.le_of_ble_eq_true rfl, Nat.le_of_ble_eq_true rfl, Nat.le_of_ble_eq_true rfl⟩).trans (vret_v e13)) ?_
    refine ru ((rn_if_eq (t := 1528) (pc := 1503) (dd bL_law dL_law_1503) rfl).trans (if_neg (by decide))) ?_
    refine ru (rn_iload (pc := 1506) (dd bL_law dL_law_1506) rfl) ?_
    refine ru (rn_bipush (pc := 1508) (dd bL_law dL_law_1508) (by decide)) ?_
    refine ab_irem (pc := 1510) (dd bL_law dL_law_1510) (by omega) (by omega) (fun t15 ht15 => ?_)
    refine ru (rn_iconst (pc := 1511) (dd bL_law dL_law_1511) (by decide)) ?_
    by_cases c2 : t15 ≠ 5
    · refine ru ((rn_icmp_ne (t := 1524) (pc := 1512) (dd bL_law dL_law_1512) rfl).trans (if_pos c2)) ?_
      refine ru (rn_iconst (pc := 1524) (dd bL_law dL_law_1524) (by decide)) ?_
      refine ru (rn_goto (t := 1529) (pc := 1525) (dd bL_law dL_law_1525) rfl) ?_
      refine ru (rn_istore_n (pc := 1529) (dd bL_law dL_law_1529) (Nat.le_of_ble_eq_true rfl) (L2 := [(1, 2), (1, 3), (0, pl), (0, 1), (0, T), (0, t), (0, x), (0, y), (0, de), (0, p), v10, v11, v12, v13, v14, v15, v16, v17]) rfl) ?_
      refine ru (rg_iinc (pc := 1530) (dd bL_law dL_law_1530) rfl (Nat.le_of_ble_eq_true rfl) (by omega) (by omega) (L2 := [(1, 2), (1, 3), (0, pl), (0, 1), (0, T), (0, (t + 1)), (0, x), (0, y), (0, de), (0, p), v10, v11, v12, v13, v14, v15, v16, v17]) rfl) ?_
      refine ru (rn_goto (t := 73) (pc := 1533) (dd bL_law dL_law_1533) rfl) ?_
      exact K (JG_le J14 (by omega) (by omega))
    · refine ru ((rn_icmp_ne (t := 1524) (pc := 1512) (dd bL_law dL_law_1512) rfl).trans (if_neg c2)) ?_
      refine ru (rn_aload_n (pc := 1515) (dd bL_law dL_law_1515) rfl) ?_
      refine ru (rn_iload (pc := 1516) (dd bL_law dL_law_1516) rfl) ?_
      obtain ⟨h16, a19, e17, J18⟩ := L_drawn J14 hp
      refine ru ((rg_static (pc := 1518) (dd bL_law dL_law_1518) rfl (by decide) (Nat.le_of_ble_eq_true rfl) (as := [(1, 3), (0, p)]) rfl rfl ⟨Nat.le_of_ble_eq_true rfl, Nat.le_of_ble_eq_true rfl, Nat.le_of_ble_eq_true rfl, Nat.le_of_ble_eq_true rfl⟩).trans (vret_v e17)) ?_
      refine ru ((rn_if_eq (t := 1528) (pc := 1521) (dd bL_law dL_law_1521) rfl).trans (if_neg (by decide))) ?_
      refine ru (rn_iconst (pc := 1524) (dd bL_law dL_law_1524) (by decide)) ?_
      refine ru (rn_goto (t := 1529) (pc := 1525) (dd bL_law dL_law_1525) rfl) ?_
      refine ru (rn_istore_n (pc := 1529) (dd bL_law dL_law_1529) (Nat.le_of_ble_eq_true rfl) (L2 := [(1, 2), (1, 3), (0, pl), (0, 1), (0, T), (0, t), (0, x), (0, y), (0, de), (0, p), v10, v11, v12, v13, v14, v15, v16, v17]) rfl) ?_
      refine ru (rg_iinc (pc := 1530) (dd bL_law dL_law_1530) rfl (Nat.le_of_ble_eq_true rfl) (by omega) (by omega) (L2 := [(1, 2), (1, 3), (0, pl), (0, 1), (0, T), (0, (t + 1)), (0, x), (0, y), (0, de), (0, p), v10, v11, v12, v13, v14, v15, v16, v17]) rfl) ?_
      refine ru (rn_goto (t := 73) (pc := 1533) (dd bL_law dL_law_1533) rfl) ?_
      exact K (JG_le J18 (by omega) (by omega))
theorem lw_x {h a : vH} {n m : Int} {pl T t : Int} {v6 v7 v8 v9 : vv} {v10 v11 v12 v13 v14 v15 v16 v17 : vv} {Q : vR → vH → Prop} (j : JG n m h a) (ht : 0 ≤ t ∧ t < T) (K : ∀ x, c32 x → Ru Q (vrun mL_law 116 [(1, 2), (1, 3), (0, pl), (0, 1), (0, T), (0, t), v6, v7, v8, v9, v10, v11, v12, v13, v14, v15, v16, v17] [(0, x)] h)) : Ru Q (vrun mL_law 73 [(1, 2), (1, 3), (0, pl), (0, 1), (0, T), (0, t), v6, v7, v8, v9, v10, v11, v12, v13, v14, v15, v16, v17] [] h) := by
  refine ru (rn_iload (pc := 73) (dd bL_law dL_law_73) rfl) ?_
  refine ru (rn_iload (pc := 75) (dd bL_law dL_law_75) rfl) ?_
  refine ru ((rn_icmp_ge (t := 1536) (pc := 77) (dd bL_law dL_law_77) rfl).trans (if_neg (by omega))) ?_
  refine ru (rn_iload_n (pc := 80) (dd bL_law dL_law_80) rfl) ?_
  refine ru ((rn_if_eq (t := 1536) (pc := 81) (dd bL_law dL_law_81) rfl).trans (if_neg (by decide))) ?_
  refine ru (rn_iload (pc := 84) (dd bL_law dL_law_84) rfl) ?_
  refine ru (rn_aload_n (pc := 86) (dd bL_law dL_law_86) rfl) ?_
  refine ru (rg_alen (pc := 87) (dd bL_law dL_law_87) (k := 11) (jS j).1 (by decide) rfl) ?_
  have sc := (jS j).2.1
  by_cases c1 : (h 1 2 0) ≤ t
  · refine ru ((rn_icmp_ge (t := 98) (pc := 88) (dd bL_law dL_law_88) rfl).trans (if_pos c1)) ?_
    refine ru (rn_ldc (pc := 98) (dd bL_law dL_law_98) (z := 3330017) rfl) ?_
    refine ru (rn_iload (pc := 100) (dd bL_law dL_law_100) rfl) ?_
    refine ab_imul (pc := 102) (dd bL_law dL_law_102) (fun t1 ht1 => ?_)
    refine ru (rn_iload (pc := 103) (dd bL_law dL_law_103) rfl) ?_
    refine ab_imul (pc := 105) (dd bL_law dL_law_105) (fun t2 ht2 => ?_)
    refine ru (rn_ldc (pc := 106) (dd bL_law dL_law_106) (z := 114031) rfl) ?_
    refine ru (rn_iload (pc := 108) (dd bL_law dL_law_108) rfl) ?_
    refine ab_imul (pc := 110) (dd bL_law dL_law_110) (fun t3 ht3 => ?_)
    refine ab_iadd (pc := 111) (dd bL_law dL_law_111) (fun t4 ht4 => ?_)
    refine ru (rn_sipush (pc := 112) (dd bL_law dL_law_112) (by decide)) ?_
    refine ab_iadd (pc := 115) (dd bL_law dL_law_115) (fun t5 ht5 => ?_)
    exact K _ ht5
  · refine ru ((rn_icmp_ge (t := 98) (pc := 88) (dd bL_law dL_law_88) rfl).trans (if_neg c1)) ?_
    refine ru (rn_aload_n (pc := 91) (dd bL_law dL_law_91) rfl) ?_
    refine ru (rn_iload (pc := 92) (dd bL_law dL_law_92) rfl) ?_
    refine ab_iaload (pc := 94) (dd bL_law dL_law_94) (jS j).1 (by omega) (by omega) ((jS j).2.2 _ (by omega) (by omega)) (fun t6 ht6 => ?_)
    refine ru (rn_goto (t := 116) (pc := 95) (dd bL_law dL_law_95) rfl) ?_
    exact K _ ht6
theorem lw_pre1 {h a : vH} {n m : Int} {pl T t x : Int} {v6 v7 v8 v9 : vv} {v10 v11 v12 v13 v14 v15 v16 v17 : vv} {Q : vR → vH → Prop} (j : JG n m h a) (hx : c32 x) (K : ∀ y de, 0 ≤ y ∧ y ≤ 268435455 → 0 ≤ de ∧ de ≤ 15 → Ru Q (vrun mL_law 142 [(1, 2), (1, 3), (0, pl), (0, 1), (0, T), (0, t), (0, x), (0, y), v8, v9, v10, v11, v12, v13, v14, v15, v16, v17] [(0, de)] h)) : Ru Q (vrun mL_law 116 [(1, 2), (1, 3), (0, pl), (0, 1), (0, T), (0, t), v6, v7, v8, v9, v10, v11, v12, v13, v14, v15, v16, v17] [(0, x)] h) := by
  refine ru (rn_istore (pc := 116) (dd bL_law dL_law_116) (Nat.le_of_ble_eq_true rfl) (L2 := [(1, 2), (1, 3), (0, pl), (0, 1), (0, T), (0, t), (0, x), v7, v8, v9, v10, v11, v12, v13, v14, v15, v16, v17]) rfl) ?_
  refine ru (rn_iload (pc := 118) (dd bL_law dL_law_118) rfl) ?_
  refine ru (rn_iconst (pc := 120) (dd bL_law dL_law_120) (by decide)) ?_
  refine ab_ishr (pc := 121) (dd bL_law dL_law_121) hx (fun t1 ht1 gt1 => ?_)
  refine ru (rn_ldc (pc := 122) (dd bL_law dL_law_122) (z := 268435455) rfl) ?_
  refine ab_iand (pc := 124) (dd bL_law dL_law_124) (by decide) (fun t2 ht2 => ?_)
  refine ru (rn_istore (pc := 125) (dd bL_law dL_law_125) (Nat.le_of_ble_eq_true rfl) (L2 := [(1, 2), (1, 3), (0, pl), (0, 1), (0, T), (0, t), (0, x), (0, t2), v8, v9, v10, v11, v12, v13, v14, v15, v16, v17]) rfl) ?_
  refine ru (rn_iload (pc := 127) (dd bL_law dL_law_127) rfl) ?_
  refine ru (rn_iconst (pc := 129) (dd bL_law dL_law_129) (by decide)) ?_
  by_cases c1 : 4 ≤ t
  · refine ru ((rn_icmp_ge (t := 137) (pc := 130) (dd bL_law dL_law_130) rfl).trans (if_pos c1)) ?_
    refine ru (rn_iload (pc := 137) (dd bL_law dL_law_137) rfl) ?_
    refine ru (rn_bipush (pc := 139) (dd bL_law dL_law_139) (by decide)) ?_
    refine ab_iand (pc := 141) (dd bL_law dL_law_141) (by decide) (fun t3 ht3 => ?_)
    exact K _ _ (by omega) (by omega)
  · refine ru ((rn_icmp_ge (t := 137) (pc := 130) (dd bL_law dL_law_130) rfl).trans (if_neg c1)) ?_
    refine ru (rn_iconst (pc := 133) (dd bL_law dL_law_133) (by decide)) ?_
    refine ru (rn_goto (t := 142) (pc := 134) (dd bL_law dL_law_134) rfl) ?_
    exact K _ _ (by omega) (by omega)
theorem lw_pre2 {h a : vH} {n m : Int} {pl T t x y de : Int} {v8 v9 : vv} {v10 v11 v12 v13 v14 v15 v16 v17 : vv} {Q : vR → vH → Prop} (j : JG n m h a) (hy : 0 ≤ y ∧ y ≤ 268435455) (K : ∀ {h1 : vH} p li pc, JG n (m + 2) h1 a → 0 ≤ p ∧ p < 4 → 0 ≤ li ∧ li < a 1504 282 0 → 0 ≤ pc ∧ pc ≤ a 2 284 li → Ru Q (vrun mL_law 180 [(1, 2), (1, 3), (0, pl), (0, 1), (0, T), (0, t), (0, x), (0, y), (0, de), (0, p), (0, li), (0, a 2 284 li), (0, pc), v13, v14, v15, v16, v17] [] h1)) : Ru Q (vrun mL_law 142 [(1, 2), (1, 3), (0, pl), (0, 1), (0, T), (0, t), (0, x), (0, y), v8, v9, v10, v11, v12, v13, v14, v15, v16, v17] [(0, de)] h) := by
  refine ru (rn_istore (pc := 142) (dd bL_law dL_law_142) (Nat.le_of_ble_eq_true rfl) (L2 := [(1, 2), (1, 3), (0, pl), (0, 1), (0, T), (0, t), (0, x), (0, y), (0, de), v9, v10, v11, v12, v13, v14, v15, v16, v17]) rfl) ?_
  refine ru (rn_iload (pc := 144) (dd bL_law dL_law_144) rfl) ?_
  refine ru (rn_iconst (pc := 146) (dd bL_law dL_law_146) (by decide)) ?_
  refine ab_iand (pc := 147) (dd bL_law dL_law_147) (by decide) (fun t1 ht1 => ?_)
  refine ru (rn_istore (pc := 148) (dd bL_law dL_law_148) (Nat.le_of_ble_eq_true rfl) (L2 := [(1, 2), (1, 3), (0, pl), (0, 1), (0, T), (0, t), (0, x), (0, y), (0, de), (0, t1), v10, v11, v12, v13, v14, v15, v16, v17]) rfl) ?_
  refine ru (rn_iload (pc := 150) (dd bL_law dL_law_150) rfl) ?_
  refine ru (rn_iconst (pc := 152) (dd bL_law dL_law_152) (by decide)) ?_
  refine ab_ishr (pc := 153) (dd bL_law dL_law_153) (by unfold c32; omega) (fun t2 ht2 gt2 => ?_)
  have kt2 := gt2 (by omega)
  unfold c32 at ht2
  refine ru (rn_aload_n (pc := 154) (dd bL_law dL_law_154) rfl) ?_
  obtain ⟨h3, e4, J5⟩ := S_lines j
  refine ru ((rg_virtual (pc := 155) (dd bL_law dL_law_155) rfl rfl (by decide) (kc := 33) rfl (jPL j) (as := [(1, 3)]) rfl ⟨Nat.le_of_ble_eq_true rfl, Nat.le_of_ble_eq_true rfl, Nat.le_of_ble_eq_true rfl, Nat.le_of_ble_eq_true rfl⟩).trans (vret_v e4)) ?_
  have gl := j.2.1.1.1.1.1.2.1
  refine ab_irem (pc := 158) (dd bL_law dL_law_158) (by omega) (by omega) (fun t6 ht6 => ?_)
  refine ru (rn_istore (pc := 159) (dd bL_law dL_law_159) (Nat.le_of_ble_eq_true rfl) (L2 := [(1, 2), (1, 3), (0, pl), (0, 1), (0, T), (0, t), (0, x), (0, y), (0, de), (0, t1), (0, t6), v11, v12, v13, v14, v15, v16, v17]) rfl) ?_
  refine ru (rn_aload_n (pc := 161) (dd bL_law dL_law_161) rfl) ?_
  refine ru (rn_iload (pc := 162) (dd bL_law dL_law_162) rfl) ?_
  obtain ⟨h7, e8, J9⟩ := S_length (l := t6) J5 (by omega)
  refine ru ((rg_virtual (pc := 164) (dd bL_law dL_law_164) rfl rfl (by decide) (kc := 33) rfl (jPL J5) (as := [(1, 3), (0, t6)]) rfl ⟨Nat.le_of_ble_eq_true rfl, Nat.le_of_ble_eq_true rfl, Nat.le_of_ble_eq_true rfl, Nat.le_of_ble_eq_true rfl⟩).trans (vret_v e8)) ?_
  refine ru (rn_istore (pc := 167) (dd bL_law dL_law_167) (Nat.le_of_ble_eq_true rfl) (L2 := [(1, 2), (1, 3), (0, pl), (0, 1), (0, T), (0, t), (0, x), (0, y), (0, de), (0, t1), (0, t6), (0, a 2 284 t6), v12, v13, v14, v15, v16, v17]) rfl) ?_
  refine ru (rn_iload (pc := 169) (dd bL_law dL_law_169) rfl) ?_
  refine ru (rn_iconst (pc := 171) (dd bL_law dL_law_171) (by decide)) ?_
  refine ab_ishr (pc := 172) (dd bL_law dL_law_172) (by unfold c32; omega) (fun t10 ht10 gt10 => ?_)
  have kt10 := gt10 (by omega)
  unfold c32 at ht10
  refine ru (rn_iload (pc := 173) (dd bL_law dL_law_173) rfl) ?_
  have gn := j.2.1.1.1.1.1.2.2.1 t6 (by omega) (by omega)
  refine ru (rn_iconst (pc := 175) (dd bL_law dL_law_175) (by decide)) ?_
  refine ru (rg_iadd (pc := 176) (dd bL_law dL_law_176) (by omega) (by omega)) ?_
  refine ab_irem (pc := 177) (dd bL_law dL_law_177) (by omega) (by omega) (fun t11 ht11 => ?_)
  refine ru (rn_istore (pc := 178) (dd bL_law dL_law_178) (Nat.le_of_ble_eq_true rfl) (L2 := [(1, 2), (1, 3), (0, pl), (0, 1), (0, T), (0, t), (0, x), (0, y), (0, de), (0, t1), (0, t6), (0, a 2 284 t6), (0, t11), v13, v14, v15, v16, v17]) rfl) ?_
  exact K _ _ _ (JG_le J9 (Int.le_refl _) (by omega)) (by omega) (by omega) (by omega)
theorem lw_ins2 {h a : vH} {n m : Int} {pl T t x y de p li si pc z k s w : Int} {v16 v17 : vv} {Q : vR → vH → Prop} (j : JG n m h a) (hn : 0 ≤ n ∧ n ≤ 8900) (hl : 0 ≤ li ∧ li < a 1504 282 0) (hx : 0 ≤ pc ∧ pc ≤ a 2 284 li) (hk : 0 ≤ k ∧ k < 3) (hs : sgOk s) (K : ∀ {h1 a1 : vH} {z : Int} {v15 v16 v17 : vv}, JG (n + 1) (m + 4) h1 a1 → 0 ≤ li ∧ li < a1 1504 282 0 → 0 ≤ pc ∧ pc ≤ a1 2 284 li → Ru Q (vrun mL_law 199 [(1, 2), (1, 3), (0, pl), (0, 1), (0, T), (0, t), (0, x), (0, y), (0, de), (0, p), (0, li), (0, si), (0, pc), (0, z), (0, (k + 1)), v15, v16, v17] [] h1)) : Ru Q (vrun mL_law 271 [(1, 2), (1, 3), (0, pl), (0, 1), (0, T), (0, t), (0, x), (0, y), (0, de), (0, p), (0, li), (0, si), (0, pc), (0, z), (0, k), (0, w), v16, v17] [(0, s)] h) := by
  have gl := j.2.1.1.1.1.1.2.1
  have gn := j.2.1.1.1.1.1.2.2.1 li hl.1 (by omega)
  refine ru (rn_istore (pc := 271) (dd bL_law dL_law_271) (Nat.le_of_ble_eq_true rfl) (L2 := [(1, 2), (1, 3), (0, pl), (0, 1), (0, T), (0, t), (0, x), (0, y), (0, de), (0, p), (0, li), (0, si), (0, pc), (0, z), (0, k), (0, w), (0, s), v17]) rfl) ?_
  refine ru (rn_aload_n (pc := 273) (dd bL_law dL_law_273) rfl) ?_
  refine ru (rn_iload (pc := 274) (dd bL_law dL_law_274) rfl) ?_
  obtain ⟨h1, e2, J3⟩ := S_length (l := li) j (by omega)
  refine ru ((rg_virtual (pc := 276) (dd bL_law dL_law_276) rfl rfl (by decide) (kc := 33) rfl (jPL j) (as := [(1, 3), (0, li)]) rfl ⟨Nat.le_of_ble_eq_true rfl, Nat.le_of_ble_eq_true rfl, Nat.le_of_ble_eq_true rfl, Nat.le_of_ble_eq_true rfl⟩).trans (vret_v e2)) ?_
  refine ru (rn_bipush (pc := 279) (dd bL_law dL_law_279) (by decide)) ?_
  by_cases c1 : 24 ≤ a 2 284 li
  · refine ru ((rn_icmp_ge (t := 299) (pc := 281) (dd bL_law dL_law_281) rfl).trans (if_pos c1)) ?_
    refine ru (rn_iconst (pc := 299) (dd bL_law dL_law_299) (by decide)) ?_
    refine ru (rn_istore (pc := 300) (dd bL_law dL_law_300) (Nat.le_of_ble_eq_true rfl) (L2 := [(1, 2), (1, 3), (0, pl), (0, 1), (0, T), (0, t), (0, x), (0, y), (0, de), (0, p), (0, li), (0, si), (0, pc), (0, z), (0, k), (0, w), (0, s), (0, 0)]) rfl) ?_
    refine ru (rn_iload (pc := 302) (dd bL_law dL_law_302) rfl) ?_
    refine ru ((rn_if_eq (t := 331) (pc := 304) (dd bL_law dL_law_304) rfl).trans (if_pos (by decide))) ?_
    refine ru (rn_iconst (pc := 331) (dd bL_law dL_law_331) (by decide)) ?_
    refine ru (rn_goto (t := 336) (pc := 332) (dd bL_law dL_law_332) rfl) ?_
    refine ru (rn_istore_n (pc := 336) (dd bL_law dL_law_336) (Nat.le_of_ble_eq_true rfl) (L2 := [(1, 2), (1, 3), (0, pl), (0, 1), (0, T), (0, t), (0, x), (0, y), (0, de), (0, p), (0, li), (0, si), (0, pc), (0, z), (0, k), (0, w), (0, s), (0, 0)]) rfl) ?_
    refine ru (rg_iinc (pc := 337) (dd bL_law dL_law_337) rfl (Nat.le_of_ble_eq_true rfl) (by omega) (by omega) (L2 := [(1, 2), (1, 3), (0, pl), (0, 1), (0, T), (0, t), (0, x), (0, y), (0, de), (0, p), (0, li), (0, si), (0, pc), (0, z), (0, (k + 1)), (0, w), (0, s), (0, 0)]) rfl) ?_
    refine ru (rn_goto (t := 199) (pc := 340) (dd bL_law dL_law_340) rfl) ?_
    exact K (JG_le J3 (by omega) (by omega)) (by omega) (by omega)
  · refine ru ((rn_icmp_ge (t := 299) (pc := 281) (dd bL_law dL_law_281) rfl).trans (if_neg c1)) ?_
    refine ru (rn_aload_n (pc := 284) (dd bL_law dL_law_284) rfl) ?_
    refine ru (rn_iconst (pc := 285) (dd bL_law dL_law_285) (by decide)) ?_
    refine ru (rn_iload (pc := 286) (dd bL_law dL_law_286) rfl) ?_
    refine ru (rn_iload (pc := 288) (dd bL_law dL_law_288) rfl) ?_
    refine ru (rn_iload (pc := 290) (dd bL_law dL_law_290) rfl) ?_
    refine ru (rn_iconst (pc := 292) (dd bL_law dL_law_292) (by decide)) ?_
    obtain ⟨h4, a7, e5, J6, f8⟩ := O_insert (l := li) (x := pc) (s := s) J3 (by omega) hl hx hs (by omega)
    refine ru ((rg_static (pc := 293) (dd bL_law dL_law_293) rfl (by decide) (Nat.le_of_ble_eq_true rfl) (as := [(1, 3), (0, 0), (0, li), (0, pc), (0, s), (0, 0)]) rfl rfl ⟨Nat.le_of_ble_eq_true rfl, Nat.le_of_ble_eq_true rfl, Nat.le_of_ble_eq_true rfl, Nat.le_of_ble_eq_true rfl⟩).trans (vret_v e5)) ?_
    refine ru (rn_goto (t := 300) (pc := 296) (dd bL_law dL_law_296) rfl) ?_
    refine ru (rn_istore (pc := 300) (dd bL_law dL_law_300) (Nat.le_of_ble_eq_true rfl) (L2 := [(1, 2), (1, 3), (0, pl), (0, 1), (0, T), (0, t), (0, x), (0, y), (0, de), (0, p), (0, li), (0, si), (0, pc), (0, z), (0, k), (0, w), (0, s), (0, (a 2 284 li + 1))]) rfl) ?_
    refine ru (rn_iload (pc := 302) (dd bL_law dL_law_302) rfl) ?_
    refine ru ((rn_if_eq (t := 331) (pc := 304) (dd bL_law dL_law_304) rfl).trans (if_neg (by omega))) ?_
    refine ru (rn_iload (pc := 307) (dd bL_law dL_law_307) rfl) ?_
    refine ru (rn_aload_n (pc := 309) (dd bL_law dL_law_309) rfl) ?_
    refine ru (rn_iload (pc := 310) (dd bL_law dL_law_310) rfl) ?_
    obtain ⟨h9, e10, J11⟩ := S_length (l := li) J6 (by omega)
    refine ru ((rg_virtual (pc := 312) (dd bL_law dL_law_312) rfl rfl (by decide) (kc := 33) rfl (jPL J6) (as := [(1, 3), (0, li)]) rfl ⟨Nat.le_of_ble_eq_true rfl, Nat.le_of_ble_eq_true rfl, Nat.le_of_ble_eq_true rfl, Nat.le_of_ble_eq_true rfl⟩).trans (vret_v e10)) ?_
    refine ru ((rn_icmp_ne (t := 335) (pc := 315) (dd bL_law dL_law_315) rfl).trans (if_neg (by omega))) ?_
    refine ru (rn_aload_n (pc := 318) (dd bL_law dL_law_318) rfl) ?_
    refine ru (rn_iload (pc := 319) (dd bL_law dL_law_319) rfl) ?_
    refine ru (rn_iload (pc := 321) (dd bL_law dL_law_321) rfl) ?_
    obtain ⟨h12, e13, J14⟩ := S_sign (l := li) (x := pc) J11 (by omega) (by omega)
    refine ru ((rg_virtual (pc := 323) (dd bL_law dL_law_323) rfl rfl (by decide) (kc := 33) rfl (jPL J11) (as := [(1, 3), (0, li), (0, pc)]) rfl ⟨Nat.le_of_ble_eq_true rfl, Nat.le_of_ble_eq_true rfl, Nat.le_of_ble_eq_true rfl, Nat.le_of_ble_eq_true rfl⟩).trans (vret_v e13)) ?_
    refine ru (rn_iload (pc := 326) (dd bL_law dL_law_326) rfl) ?_
    refine ru ((rn_icmp_ne (t := 335) (pc := 328) (dd bL_law dL_law_328) rfl).trans (if_neg (by omega))) ?_
    refine ru (rn_iconst (pc := 331) (dd bL_law dL_law_331) (by decide)) ?_
    refine ru (rn_goto (t := 336) (pc := 332) (dd bL_law dL_law_332) rfl) ?_
    refine ru (rn_istore_n (pc := 336) (dd bL_law dL_law_336) (Nat.le_of_ble_eq_true rfl) (L2 := [(1, 2), (1, 3), (0, pl), (0, 1), (0, T), (0, t), (0, x), (0, y), (0, de), (0, p), (0, li), (0, si), (0, pc), (0, z), (0, k), (0, w), (0, s), (0, (a 2 284 li + 1))]) rfl) ?_
    refine ru (rg_iinc (pc := 337) (dd bL_law dL_law_337) rfl (Nat.le_of_ble_eq_true rfl) (by omega) (by omega) (L2 := [(1, 2), (1, 3), (0, pl), (0, 1), (0, T), (0, t), (0, x), (0, y), (0, de), (0, p), (0, li), (0, si), (0, pc), (0, z), (0, (k + 1)), (0, w), (0, s), (0, (a 2 284 li + 1))]) rfl) ?_
    refine ru (rn_goto (t := 199) (pc := 340) (dd bL_law dL_law_340) rfl) ?_
    exact K (JG_le J14 (by omega) (by omega)) (by omega) (by omega)
theorem lw_ins {h a : vH} {n m : Int} {pl T t x y de p li si pc z k : Int} {v15 v16 v17 : vv} {Q : vR → vH → Prop} (j : JG n m h a) (hn : 0 ≤ n ∧ n ≤ 8900) (hl : 0 ≤ li ∧ li < a 1504 282 0) (hx : 0 ≤ pc ∧ pc ≤ a 2 284 li) (hk : 0 ≤ k ∧ k < 3) (K : ∀ {h1 a1 : vH} {z : Int} {v15 v16 v17 : vv}, JG (n + 1) (m + 4) h1 a1 → 0 ≤ li ∧ li < a1 1504 282 0 → 0 ≤ pc ∧ pc ≤ a1 2 284 li → Ru Q (vrun mL_law 199 [(1, 2), (1, 3), (0, pl), (0, 1), (0, T), (0, t), (0, x), (0, y), (0, de), (0, p), (0, li), (0, si), (0, pc), (0, z), (0, (k + 1)), v15, v16, v17] [] h1)) : Ru Q (vrun mL_law 199 [(1, 2), (1, 3), (0, pl), (0, 1), (0, T), (0, t), (0, x), (0, y), (0, de), (0, p), (0, li), (0, si), (0, pc), (0, z), (0, k), v15, v16, v17] [] h) := by
  refine ru (rn_iload (pc := 199) (dd bL_law dL_law_199) rfl) ?_
  refine ru (rn_iconst (pc := 201) (dd bL_law dL_law_201) (by decide)) ?_
  refine ru ((rn_icmp_ge (t := 343) (pc := 202) (dd bL_law dL_law_202) rfl).trans (if_neg (by omega))) ?_
  refine ru (rn_iload_n (pc := 205) (dd bL_law dL_law_205) rfl) ?_
  refine ru ((rn_if_eq (t := 343) (pc := 206) (dd bL_law dL_law_206) rfl).trans (if_neg (by decide))) ?_
  refine ru (rn_iload (pc := 209) (dd bL_law dL_law_209) rfl) ?_
  refine ru (rn_ldc (pc := 211) (dd bL_law dL_law_211) (z := 1103515245) rfl) ?_
  refine ab_imul (pc := 213) (dd bL_law dL_law_213) (fun t1 ht1 => ?_)
  refine ru (rn_sipush (pc := 214) (dd bL_law dL_law_214) (by decide)) ?_
  refine ab_iadd (pc := 217) (dd bL_law dL_law_217) (fun t2 ht2 => ?_)
  refine ru (rn_istore (pc := 218) (dd bL_law dL_law_218) (Nat.le_of_ble_eq_true rfl) (L2 := [(1, 2), (1, 3), (0, pl), (0, 1), (0, T), (0, t), (0, x), (0, y), (0, de), (0, p), (0, li), (0, si), (0, pc), (0, t2), (0, k), v15, v16, v17]) rfl) ?_
  refine ru (rn_iload (pc := 220) (dd bL_law dL_law_220) rfl) ?_
  refine ru (rn_bipush (pc := 222) (dd bL_law dL_law_222) (by decide)) ?_
  refine ab_ishr (pc := 224) (dd bL_law dL_law_224) ht2 (fun t3 ht3 gt3 => ?_)
  refine ru (rn_bipush (pc := 225) (dd bL_law dL_law_225) (by decide)) ?_
  refine ab_iand (pc := 227) (dd bL_law dL_law_227) (by decide) (fun t4 ht4 => ?_)
  refine ru (rn_istore (pc := 228) (dd bL_law dL_law_228) (Nat.le_of_ble_eq_true rfl) (L2 := [(1, 2), (1, 3), (0, pl), (0, 1), (0, T), (0, t), (0, x), (0, y), (0, de), (0, p), (0, li), (0, si), (0, pc), (0, t2), (0, k), (0, t4), v16, v17]) rfl) ?_
  refine ru (rn_iload (pc := 230) (dd bL_law dL_law_230) rfl) ?_
  refine ru (rn_bipush (pc := 232) (dd bL_law dL_law_232) (by decide)) ?_
  by_cases c1 : 20 ≤ t4
  · refine ru ((rn_icmp_ge (t := 242) (pc := 234) (dd bL_law dL_law_234) rfl).trans (if_pos c1)) ?_
    refine ru (rn_iload (pc := 242) (dd bL_law dL_law_242) rfl) ?_
    refine ru (rn_bipush (pc := 244) (dd bL_law dL_law_244) (by decide)) ?_
    by_cases c2 : t4 ≠ 127
    · refine ru ((rn_icmp_ne (t := 254) (pc := 246) (dd bL_law dL_law_246) rfl).trans (if_pos c2)) ?_
      refine ru (rn_iload (pc := 254) (dd bL_law dL_law_254) rfl) ?_
      refine ru (rn_bipush (pc := 256) (dd bL_law dL_law_256) (by decide)) ?_
      by_cases c3 : 33 ≤ t4
      · refine ru ((rn_icmp_ge (t := 269) (pc := 258) (dd bL_law dL_law_258) rfl).trans (if_pos c3)) ?_
        refine ru (rn_iload (pc := 269) (dd bL_law dL_law_269) rfl) ?_
        exact lw_ins2 j hn hl hx hk (by unfold sgOk; omega) K
      · refine ru ((rn_icmp_ge (t := 269) (pc := 258) (dd bL_law dL_law_258) rfl).trans (if_neg c3)) ?_
        refine ru (rn_iload (pc := 261) (dd bL_law dL_law_261) rfl) ?_
        refine ru (rn_bipush (pc := 263) (dd bL_law dL_law_263) (by decide)) ?_
        refine ru (rg_iadd (pc := 265) (dd bL_law dL_law_265) (by omega) (by omega)) ?_
        refine ru (rn_goto (t := 271) (pc := 266) (dd bL_law dL_law_266) rfl) ?_
        exact lw_ins2 j hn hl hx hk (by unfold sgOk; omega) K
    · refine ru ((rn_icmp_ne (t := 254) (pc := 246) (dd bL_law dL_law_246) rfl).trans (if_neg c2)) ?_
      refine ru (rn_bipush (pc := 249) (dd bL_law dL_law_249) (by decide)) ?_
      refine ru (rn_goto (t := 271) (pc := 251) (dd bL_law dL_law_251) rfl) ?_
      exact lw_ins2 j hn hl hx hk (by unfold sgOk; omega) K
  · refine ru ((rn_icmp_ge (t := 242) (pc := 234) (dd bL_law dL_law_234) rfl).trans (if_neg c1)) ?_
    refine ru (rn_bipush (pc := 237) (dd bL_law dL_law_237) (by decide)) ?_
    refine ru (rn_goto (t := 271) (pc := 239) (dd bL_law dL_law_239) rfl) ?_
    exact lw_ins2 j hn hl hx hk (by unfold sgOk; omega) K
theorem lw_d0 {h a : vH} {n m : Int} {pl T t x y de p li si pc : Int} {v13 v14 v15 v16 v17 : vv} {Q : vR → vH → Prop} (j : JG n m h a) (hn : 0 ≤ n ∧ n ≤ 8000) (hpl : 0 ≤ pl ∧ pl ≤ 4) (hp : 0 ≤ p ∧ p < 4) (hy : 0 ≤ y ∧ y ≤ 268435455) (hl : 0 ≤ li ∧ li < a 1504 282 0) (hsi : si = a 2 284 li) (hx : 0 ≤ pc ∧ pc ≤ si) (hd : de < 3) (K : ∀ {h1 a1 : vH} {pl1 : Int} {v13 v14 v15 v16 v17 : vv}, JG (n + 8) (m + 60) h1 a1 → 0 ≤ pl1 ∧ pl1 ≤ 4 → Ru Q (vrun mL_law 1474 [(1, 2), (1, 3), (0, pl1), (0, 1), (0, T), (0, t), (0, x), (0, y), (0, de), (0, p), (0, li), (0, si), (0, pc), v13, v14, v15, v16, v17] [] h1)) : Ru Q (vrun mL_law 180 [(1, 2), (1, 3), (0, pl), (0, 1), (0, T), (0, t), (0, x), (0, y), (0, de), (0, p), (0, li), (0, si), (0, pc), v13, v14, v15, v16, v17] [] h) := by
  have gl := j.2.1.1.1.1.1.2.1
  have gn := j.2.1.1.1.1.1.2.2.1 li hl.1 (by omega)
  refine ru (rn_iload (pc := 180) (dd bL_law dL_law_180) rfl) ?_
  refine ru (rn_iconst (pc := 182) (dd bL_law dL_law_182) (by decide)) ?_
  refine ru ((rn_icmp_ge (t := 346) (pc := 183) (dd bL_law dL_law_183) rfl).trans (if_neg (by omega))) ?_
  refine ru (rn_iload (pc := 186) (dd bL_law dL_law_186) rfl) ?_
  refine ru (rn_bipush (pc := 188) (dd bL_law dL_law_188) (by decide)) ?_
  refine ab_imul (pc := 190) (dd bL_law dL_law_190) (fun t1 ht1 => ?_)
  refine ru (rn_iload (pc := 191) (dd bL_law dL_law_191) rfl) ?_
  refine ab_iadd (pc := 193) (dd bL_law dL_law_193) (fun t2 ht2 => ?_)
  refine ru (rn_istore (pc := 194) (dd bL_law dL_law_194) (Nat.le_of_ble_eq_true rfl) (L2 := [(1, 2), (1, 3), (0, pl), (0, 1), (0, T), (0, t), (0, x), (0, y), (0, de), (0, p), (0, li), (0, si), (0, pc), (0, t2), v14, v15, v16, v17]) rfl) ?_
  refine ru (rn_iconst (pc := 196) (dd bL_law dL_law_196) (by decide)) ?_
  refine ru (rn_istore (pc := 197) (dd bL_law dL_law_197) (Nat.le_of_ble_eq_true rfl) (L2 := [(1, 2), (1, 3), (0, pl), (0, 1), (0, T), (0, t), (0, x), (0, y), (0, de), (0, p), (0, li), (0, si), (0, pc), (0, t2), (0, 0), v15, v16, v17]) rfl) ?_
  refine lw_ins j (by omega) hl (by omega) (by decide) (fun {h1 a1 z1 w15 w16 w17} j1 l1 x1 => ?_)
  refine lw_ins j1 (by omega) l1 x1 (by decide) (fun {h2 a2 z2 w15 w16 w17} j2 l2 x2 => ?_)
  refine lw_ins j2 (by omega) l2 x2 (by decide) (fun {h3 a3 z3 w15 w16 w17} j3 l3 x3 => ?_)
  refine ru (rn_iload (pc := 199) (dd bL_law dL_law_199) rfl) ?_
  refine ru (rn_iconst (pc := 201) (dd bL_law dL_law_201) (by decide)) ?_
  refine ru ((rn_icmp_ge (t := 343) (pc := 202) (dd bL_law dL_law_202) rfl).trans (if_pos (by decide))) ?_
  refine ru (rn_goto (t := 1474) (pc := 343) (dd bL_law dL_law_343) rfl) ?_
  exact K (JG_le j3 (by omega) (by omega)) (by omega)
theorem lw_d3 {h a : vH} {n m : Int} {pl T t x y de p li si pc : Int} {v13 v14 v15 v16 v17 : vv} {Q : vR → vH → Prop} (j : JG n m h a) (hn : 0 ≤ n ∧ n ≤ 8000) (hpl : 0 ≤ pl ∧ pl ≤ 4) (hp : 0 ≤ p ∧ p < 4) (hy : 0 ≤ y ∧ y ≤ 268435455) (hl : 0 ≤ li ∧ li < a 1504 282 0) (hsi : si = a 2 284 li) (hx : 0 ≤ pc ∧ pc ≤ si) (hd : de = 3) (h8 : a 1504 282 0 < 8) (K : ∀ {h1 a1 : vH} {pl1 : Int} {v13 v14 v15 v16 v17 : vv}, JG (n + 8) (m + 60) h1 a1 → 0 ≤ pl1 ∧ pl1 ≤ 4 → Ru Q (vrun mL_law 1474 [(1, 2), (1, 3), (0, pl1), (0, 1), (0, T), (0, t), (0, x), (0, y), (0, de), (0, p), (0, li), (0, si), (0, pc), v13, v14, v15, v16, v17] [] h1)) : Ru Q (vrun mL_law 180 [(1, 2), (1, 3), (0, pl), (0, 1), (0, T), (0, t), (0, x), (0, y), (0, de), (0, p), (0, li), (0, si), (0, pc), v13, v14, v15, v16, v17] [] h) := by
  have gl := j.2.1.1.1.1.1.2.1
  have gn := j.2.1.1.1.1.1.2.2.1 li hl.1 (by omega)
  refine ru (rn_iload (pc := 180) (dd bL_law dL_law_180) rfl) ?_
  refine ru (rn_iconst (pc := 182) (dd bL_law dL_law_182) (by decide)) ?_
  refine ru ((rn_icmp_ge (t := 346) (pc := 183) (dd bL_law dL_law_183) rfl).trans (if_pos (by omega))) ?_
  refine ru (rn_iload (pc := 346) (dd bL_law dL_law_346) rfl) ?_
  refine ru (rn_iconst (pc := 348) (dd bL_law dL_law_348) (by decide)) ?_
  refine ru ((rn_icmp_ne (t := 504) (pc := 349) (dd bL_law dL_law_349) rfl).trans (if_neg (by omega))) ?_
  refine ru (rn_aload_n (pc := 352) (dd bL_law dL_law_352) rfl) ?_
  obtain ⟨h1, e2, J3⟩ := S_lines j
  refine ru ((rg_virtual (pc := 353) (dd bL_law dL_law_353) rfl rfl (by decide) (kc := 33) rfl (jPL j) (as := [(1, 3)]) rfl ⟨Nat.le_of_ble_eq_true rfl, Nat.le_of_ble_eq_true rfl, Nat.le_of_ble_eq_true rfl, Nat.le_of_ble_eq_true rfl⟩).trans (vret_v e2)) ?_
  refine ru (rn_bipush (pc := 356) (dd bL_law dL_law_356) (by decide)) ?_
  refine ru ((rn_icmp_ge (t := 504) (pc := 358) (dd bL_law dL_law_358) rfl).trans (if_neg (by omega))) ?_
  refine ru (rn_aload_n (pc := 361) (dd bL_law dL_law_361) rfl) ?_
  obtain ⟨h4, e5, J6⟩ := S_lines J3
  refine ru ((rg_virtual (pc := 362) (dd bL_law dL_law_362) rfl rfl (by decide) (kc := 33) rfl (jPL J3) (as := [(1, 3)]) rfl ⟨Nat.le_of_ble_eq_true rfl, Nat.le_of_ble_eq_true rfl, Nat.le_of_ble_eq_true rfl, Nat.le_of_ble_eq_true rfl⟩).trans (vret_v e5)) ?_
  refine ru (rn_istore (pc := 365) (dd bL_law dL_law_365) (Nat.le_of_ble_eq_true rfl) (L2 := [(1, 2), (1, 3), (0, pl), (0, 1), (0, T), (0, t), (0, x), (0, y), (0, de), (0, p), (0, li), (0, si), (0, pc), (0, a 1504 282 0), v14, v15, v16, v17]) rfl) ?_
  refine ru (rn_aload_n (pc := 367) (dd bL_law dL_law_367) rfl) ?_
  refine ru (rn_iload (pc := 368) (dd bL_law dL_law_368) rfl) ?_
  refine ru (rn_iload (pc := 370) (dd bL_law dL_law_370) rfl) ?_
  obtain ⟨h7, e8, J9⟩ := S_rowsOf (l := li) J6 hp (by omega)
  refine ru ((rg_virtual (pc := 372) (dd bL_law dL_law_372) rfl rfl (by decide) (kc := 33) rfl (jPL J6) (as := [(1, 3), (0, p), (0, li)]) rfl ⟨Nat.le_of_ble_eq_true rfl, Nat.le_of_ble_eq_true rfl, Nat.le_of_ble_eq_true rfl, Nat.le_of_ble_eq_true rfl⟩).trans (vret_v e8)) ?_
  refine ru (rn_istore (pc := 375) (dd bL_law dL_law_375) (Nat.le_of_ble_eq_true rfl) (L2 := [(1, 2), (1, 3), (0, pl), (0, 1), (0, T), (0, t), (0, x), (0, y), (0, de), (0, p), (0, li), (0, si), (0, pc), (0, a 1504 282 0), (0, mRC a p li), v15, v16, v17]) rfl) ?_
  refine ru (rn_aload_n (pc := 377) (dd bL_law dL_law_377) rfl) ?_
  refine ru (rn_iconst (pc := 378) (dd bL_law dL_law_378) (by decide)) ?_
  refine ru (rn_iload (pc := 379) (dd bL_law dL_law_379) rfl) ?_
  refine ru (rn_iload (pc := 381) (dd bL_law dL_law_381) rfl) ?_
  refine ru (rn_iconst (pc := 383) (dd bL_law dL_law_383) (by decide)) ?_
  refine ru (rn_iconst (pc := 384) (dd bL_law dL_law_384) (by decide)) ?_
  obtain ⟨h10, a13, e11, J12, f14⟩ := O_break (l := li) (x := pc) J9 (by omega) hl (by omega) (by omega)
  refine ru ((rg_static (pc := 385) (dd bL_law dL_law_385) rfl (by decide) (Nat.le_of_ble_eq_true rfl) (as := [(1, 3), (0, 1), (0, li), (0, pc), (0, 0), (0, 0)]) rfl rfl ⟨Nat.le_of_ble_eq_true rfl, Nat.le_of_ble_eq_true rfl, Nat.le_of_ble_eq_true rfl, Nat.le_of_ble_eq_true rfl⟩).trans (vret_v e11)) ?_
  obtain ⟨F1, F2, F3, F4⟩ := f14
  refine ru (rn_iload (pc := 388) (dd bL_law dL_law_388) rfl) ?_
  refine ru (rn_iconst (pc := 390) (dd bL_law dL_law_390) (by decide)) ?_
  refine ru (rg_iadd (pc := 391) (dd bL_law dL_law_391) (by omega) (by omega)) ?_
  refine ru ((rn_icmp_ne (t := 426) (pc := 392) (dd bL_law dL_law_392) rfl).trans (if_neg (by omega))) ?_
  refine ru (rn_aload_n (pc := 395) (dd bL_law dL_law_395) rfl) ?_
  refine ru (rn_iload (pc := 396) (dd bL_law dL_law_396) rfl) ?_
  obtain ⟨h15, e16, J17⟩ := S_length (l := li) J12 (by omega)
  refine ru ((rg_virtual (pc := 398) (dd bL_law dL_law_398) rfl rfl (by decide) (kc := 33) rfl (jPL J12) (as := [(1, 3), (0, li)]) rfl ⟨Nat.le_of_ble_eq_true rfl, Nat.le_of_ble_eq_true rfl, Nat.le_of_ble_eq_true rfl, Nat.le_of_ble_eq_true rfl⟩).trans (vret_v e16)) ?_
  refine ru (rn_iload (pc := 401) (dd bL_law dL_law_401) rfl) ?_
  refine ru ((rn_icmp_ne (t := 426) (pc := 403) (dd bL_law dL_law_403) rfl).trans (if_neg (by omega))) ?_
  refine ru (rn_aload_n (pc := 406) (dd bL_law dL_law_406) rfl) ?_
  refine ru (rn_iload (pc := 407) (dd bL_law dL_law_407) rfl) ?_
  refine ru (rn_iconst (pc := 409) (dd bL_law dL_law_409) (by decide)) ?_
  refine ru (rg_iadd (pc := 410) (dd bL_law dL_law_410) (by omega) (by omega)) ?_
  obtain ⟨h18, e19, J20⟩ := S_length (l := (li + 1)) J17 (by omega)
  refine ru ((rg_virtual (pc := 411) (dd bL_law dL_law_411) rfl rfl (by decide) (kc := 33) rfl (jPL J17) (as := [(1, 3), (0, (li + 1))]) rfl ⟨Nat.le_of_ble_eq_true rfl, Nat.le_of_ble_eq_true rfl, Nat.le_of_ble_eq_true rfl, Nat.le_of_ble_eq_true rfl⟩).trans (vret_v e19)) ?_
  refine ru (rn_iload (pc := 414) (dd bL_law dL_law_414) rfl) ?_
  refine ru (rn_iload (pc := 416) (dd bL_law dL_law_416) rfl) ?_
  refine ru (rg_isub (pc := 418) (dd bL_law dL_law_418) (by omega) (by omega)) ?_
  refine ru ((rn_icmp_ne (t := 426) (pc := 419) (dd bL_law dL_law_419) rfl).trans (if_neg (by omega))) ?_
  refine ru (rn_iconst (pc := 422) (dd bL_law dL_law_422) (by decide)) ?_
  refine ru (rn_goto (t := 427) (pc := 423) (dd bL_law dL_law_423) rfl) ?_
  refine ru (rn_istore_n (pc := 427) (dd bL_law dL_law_427) (Nat.le_of_ble_eq_true rfl) (L2 := [(1, 2), (1, 3), (0, pl), (0, 1), (0, T), (0, t), (0, x), (0, y), (0, de), (0, p), (0, li), (0, si), (0, pc), (0, a 1504 282 0), (0, mRC a p li), v15, v16, v17]) rfl) ?_
  refine ru (rn_iload_n (pc := 428) (dd bL_law dL_law_428) rfl) ?_
  refine ru ((rn_if_eq (t := 501) (pc := 429) (dd bL_law dL_law_429) rfl).trans (if_neg (by decide))) ?_
  refine ru (rn_iload (pc := 432) (dd bL_law dL_law_432) rfl) ?_
  refine ru (rn_bipush (pc := 434) (dd bL_law dL_law_434) (by decide)) ?_
  refine ab_ishr (pc := 436) (dd bL_law dL_law_436) (by unfold c32; omega) (fun t21 ht21 gt21 => ?_)
  have kt21 := gt21 (by omega)
  unfold c32 at ht21
  refine ru (rn_iconst (pc := 437) (dd bL_law dL_law_437) (by decide)) ?_
  refine ab_iand (pc := 438) (dd bL_law dL_law_438) (by decide) (fun t22 ht22 => ?_)
  by_cases c1 : t22 ≠ 0
  · refine ru ((rn_if_ne (t := 501) (pc := 439) (dd bL_law dL_law_439) rfl).trans (if_pos c1)) ?_
    refine ru (rn_goto (t := 1474) (pc := 501) (dd bL_law dL_law_501) rfl) ?_
    exact K (JG_le J20 (by omega) (by omega)) (by omega)
  · refine ru ((rn_if_ne (t := 501) (pc := 439) (dd bL_law dL_law_439) rfl).trans (if_neg c1)) ?_
    refine ru (rn_aload_n (pc := 442) (dd bL_law dL_law_442) rfl) ?_
    refine ru (rn_iconst (pc := 443) (dd bL_law dL_law_443) (by decide)) ?_
    refine ru (rn_iload (pc := 444) (dd bL_law dL_law_444) rfl) ?_
    refine ru (rn_iconst (pc := 446) (dd bL_law dL_law_446) (by decide)) ?_
    refine ru (rn_iconst (pc := 447) (dd bL_law dL_law_447) (by decide)) ?_
    refine ru (rn_iconst (pc := 448) (dd bL_law dL_law_448) (by decide)) ?_
    obtain ⟨h23, a26, e24, J25, f27⟩ := O_join (l := li) J20 (by omega) (by omega) (by omega)
    refine ru ((rg_static (pc := 449) (dd bL_law dL_law_449) rfl (by decide) (Nat.le_of_ble_eq_true rfl) (as := [(1, 3), (0, 2), (0, li), (0, 0), (0, 0), (0, 0)]) rfl rfl ⟨Nat.le_of_ble_eq_true rfl, Nat.le_of_ble_eq_true rfl, Nat.le_of_ble_eq_true rfl, Nat.le_of_ble_eq_true rfl⟩).trans (vret_v e24)) ?_
    obtain ⟨G1, G2⟩ := f27
    have rb := rc_back (n := n + 8) (JG_le j (n2 := n + 8) (m2 := m) (by omega) (Int.le_refl _)).2.1 (JG_le J25 (n2 := n + 8) (by omega) (Int.le_refl _)).2.1 hp hl (by omega) F4 G2 (by omega)
    refine ru (rn_iload (pc := 452) (dd bL_law dL_law_452) rfl) ?_
    refine ru ((rn_icmp_ne (t := 499) (pc := 454) (dd bL_law dL_law_454) rfl).trans (if_neg (by omega))) ?_
    refine ru (rn_aload_n (pc := 457) (dd bL_law dL_law_457) rfl) ?_
    obtain ⟨h28, e29, J30⟩ := S_lines J25
    refine ru ((rg_virtual (pc := 458) (dd bL_law dL_law_458) rfl rfl (by decide) (kc := 33) rfl (jPL J25) (as := [(1, 3)]) rfl ⟨Nat.le_of_ble_eq_true rfl, Nat.le_of_ble_eq_true rfl, Nat.le_of_ble_eq_true rfl, Nat.le_of_ble_eq_true rfl⟩).trans (vret_v e29)) ?_
    refine ru (rn_iload (pc := 461) (dd bL_law dL_law_461) rfl) ?_
    refine ru ((rn_icmp_ne (t := 499) (pc := 463) (dd bL_law dL_law_463) rfl).trans (if_neg (by omega))) ?_
    refine ru (rn_aload_n (pc := 466) (dd bL_law dL_law_466) rfl) ?_
    refine ru (rn_iload (pc := 467) (dd bL_law dL_law_467) rfl) ?_
    refine ru (rn_iload (pc := 469) (dd bL_law dL_law_469) rfl) ?_
    obtain ⟨h31, e32, J33⟩ := S_rowsOf (l := li) J30 hp (by omega)
    refine ru ((rg_virtual (pc := 471) (dd bL_law dL_law_471) rfl rfl (by decide) (kc := 33) rfl (jPL J30) (as := [(1, 3), (0, p), (0, li)]) rfl ⟨Nat.le_of_ble_eq_true rfl, Nat.le_of_ble_eq_true rfl, Nat.le_of_ble_eq_true rfl, Nat.le_of_ble_eq_true rfl⟩).trans (vret_v e32)) ?_
    by_cases c5 : mRC a26 p li ≠ 0
    · refine ru ((rn_if_ne (t := 481) (pc := 474) (dd bL_law dL_law_474) rfl).trans (if_pos c5)) ?_
      refine ru (rn_iconst (pc := 481) (dd bL_law dL_law_481) (by decide)) ?_
      refine ru (rn_iload (pc := 482) (dd bL_law dL_law_482) rfl) ?_
      refine ru ((rn_if_ne (t := 491) (pc := 484) (dd bL_law dL_law_484) rfl).trans (if_pos (fun z => c5 (rb.2 z)))) ?_
      refine ru (rn_iconst (pc := 491) (dd bL_law dL_law_491) (by decide)) ?_
      refine ru ((rn_icmp_ne (t := 499) (pc := 492) (dd bL_law dL_law_492) rfl).trans (if_neg (by decide))) ?_
      refine ru (rn_iconst (pc := 495) (dd bL_law dL_law_495) (by decide)) ?_
      refine ru (rn_goto (t := 500) (pc := 496) (dd bL_law dL_law_496) rfl) ?_
      refine ru (rn_istore_n (pc := 500) (dd bL_law dL_law_500) (Nat.le_of_ble_eq_true rfl) (L2 := [(1, 2), (1, 3), (0, pl), (0, 1), (0, T), (0, t), (0, x), (0, y), (0, de), (0, p), (0, li), (0, si), (0, pc), (0, a 1504 282 0), (0, mRC a p li), v15, v16, v17]) rfl) ?_
      refine ru (rn_goto (t := 1474) (pc := 501) (dd bL_law dL_law_501) rfl) ?_
      exact K (JG_le J33 (by omega) (by omega)) (by omega)
    · refine ru ((rn_if_ne (t := 481) (pc := 474) (dd bL_law dL_law_474) rfl).trans (if_neg c5)) ?_
      refine ru (rn_iconst (pc := 477) (dd bL_law dL_law_477) (by decide)) ?_
      refine ru (rn_goto (t := 482) (pc := 478) (dd bL_law dL_law_478) rfl) ?_
      refine ru (rn_iload (pc := 482) (dd bL_law dL_law_482) rfl) ?_
      refine ru ((rn_if_ne (t := 491) (pc := 484) (dd bL_law dL_law_484) rfl).trans (if_neg (fun z => z (rb.1 (Classical.byContradiction (fun w => c5 w)))))) ?_
      refine ru (rn_iconst (pc := 487) (dd bL_law dL_law_487) (by decide)) ?_
      refine ru (rn_goto (t := 492) (pc := 488) (dd bL_law dL_law_488) rfl) ?_
      refine ru ((rn_icmp_ne (t := 499) (pc := 492) (dd bL_law dL_law_492) rfl).trans (if_neg (by decide))) ?_
      refine ru (rn_iconst (pc := 495) (dd bL_law dL_law_495) (by decide)) ?_
      refine ru (rn_goto (t := 500) (pc := 496) (dd bL_law dL_law_496) rfl) ?_
      refine ru (rn_istore_n (pc := 500) (dd bL_law dL_law_500) (Nat.le_of_ble_eq_true rfl) (L2 := [(1, 2), (1, 3), (0, pl), (0, 1), (0, T), (0, t), (0, x), (0, y), (0, de), (0, p), (0, li), (0, si), (0, pc), (0, a 1504 282 0), (0, mRC a p li), v15, v16, v17]) rfl) ?_
      refine ru (rn_goto (t := 1474) (pc := 501) (dd bL_law dL_law_501) rfl) ?_
      exact K (JG_le J33 (by omega) (by omega)) (by omega)
theorem lw_d4 {h a : vH} {n m : Int} {pl T t x y de p li si pc : Int} {v13 v14 v15 v16 v17 : vv} {Q : vR → vH → Prop} (j : JG n m h a) (hn : 0 ≤ n ∧ n ≤ 8000) (hpl : 0 ≤ pl ∧ pl ≤ 4) (hp : 0 ≤ p ∧ p < 4) (hy : 0 ≤ y ∧ y ≤ 268435455) (hl : 0 ≤ li ∧ li < a 1504 282 0) (hsi : si = a 2 284 li) (hx : 0 ≤ pc ∧ pc ≤ si) (hd : de = 4) (h4 : pc < si) (K : ∀ {h1 a1 : vH} {pl1 : Int} {v13 v14 v15 v16 v17 : vv}, JG (n + 8) (m + 60) h1 a1 → 0 ≤ pl1 ∧ pl1 ≤ 4 → Ru Q (vrun mL_law 1474 [(1, 2), (1, 3), (0, pl1), (0, 1), (0, T), (0, t), (0, x), (0, y), (0, de), (0, p), (0, li), (0, si), (0, pc), v13, v14, v15, v16, v17] [] h1)) : Ru Q (vrun mL_law 180 [(1, 2), (1, 3), (0, pl), (0, 1), (0, T), (0, t), (0, x), (0, y), (0, de), (0, p), (0, li), (0, si), (0, pc), v13, v14, v15, v16, v17] [] h) := by
  have gl := j.2.1.1.1.1.1.2.1
  have gn := j.2.1.1.1.1.1.2.2.1 li hl.1 (by omega)
  refine ru (rn_iload (pc := 180) (dd bL_law dL_law_180) rfl) ?_
  refine ru (rn_iconst (pc := 182) (dd bL_law dL_law_182) (by decide)) ?_
  refine ru ((rn_icmp_ge (t := 346) (pc := 183) (dd bL_law dL_law_183) rfl).trans (if_pos (by omega))) ?_
  refine ru (rn_iload (pc := 346) (dd bL_law dL_law_346) rfl) ?_
  refine ru (rn_iconst (pc := 348) (dd bL_law dL_law_348) (by decide)) ?_
  refine ru ((rn_icmp_ne (t := 504) (pc := 349) (dd bL_law dL_law_349) rfl).trans (if_pos (by omega))) ?_
  refine ru (rn_iload (pc := 504) (dd bL_law dL_law_504) rfl) ?_
  refine ru (rn_iconst (pc := 506) (dd bL_law dL_law_506) (by decide)) ?_
  refine ru ((rn_icmp_ne (t := 582) (pc := 507) (dd bL_law dL_law_507) rfl).trans (if_neg (by omega))) ?_
  refine ru (rn_iload (pc := 510) (dd bL_law dL_law_510) rfl) ?_
  refine ru (rn_iload (pc := 512) (dd bL_law dL_law_512) rfl) ?_
  refine ru ((rn_icmp_ge (t := 582) (pc := 514) (dd bL_law dL_law_514) rfl).trans (if_neg (by omega))) ?_
  refine ru (rn_aload_n (pc := 517) (dd bL_law dL_law_517) rfl) ?_
  refine ru (rn_iload (pc := 518) (dd bL_law dL_law_518) rfl) ?_
  refine ru (rn_iload (pc := 520) (dd bL_law dL_law_520) rfl) ?_
  obtain ⟨h1, e2, J3⟩ := S_sign (l := li) (x := pc) j (by omega) (by omega)
  refine ru ((rg_virtual (pc := 522) (dd bL_law dL_law_522) rfl rfl (by decide) (kc := 33) rfl (jPL j) (as := [(1, 3), (0, li), (0, pc)]) rfl ⟨Nat.le_of_ble_eq_true rfl, Nat.le_of_ble_eq_true rfl, Nat.le_of_ble_eq_true rfl, Nat.le_of_ble_eq_true rfl⟩).trans (vret_v e2)) ?_
  refine ru (rn_istore (pc := 525) (dd bL_law dL_law_525) (Nat.le_of_ble_eq_true rfl) (L2 := [(1, 2), (1, 3), (0, pl), (0, 1), (0, T), (0, t), (0, x), (0, y), (0, de), (0, p), (0, li), (0, si), (0, pc), (0, a 2 283 (80 * li + pc)), v14, v15, v16, v17]) rfl) ?_
  refine ru (rn_aload_n (pc := 527) (dd bL_law dL_law_527) rfl) ?_
  refine ru (rn_iload (pc := 528) (dd bL_law dL_law_528) rfl) ?_
  refine ru (rn_iload (pc := 530) (dd bL_law dL_law_530) rfl) ?_
  refine ru (rn_iload (pc := 532) (dd bL_law dL_law_532) rfl) ?_
  refine ru (rn_iconst (pc := 534) (dd bL_law dL_law_534) (by decide)) ?_
  refine ru (rg_iadd (pc := 535) (dd bL_law dL_law_535) (by omega) (by omega)) ?_
  obtain ⟨h4, a7, e5, J6, f8⟩ := S_removeX (l := li) (x := pc) J3 (by omega) hl (by omega) rfl
  refine ru ((rg_virtual (pc := 536) (dd bL_law dL_law_536) rfl rfl (by decide) (kc := 33) rfl (jPL J3) (as := [(1, 3), (0, li), (0, pc), (0, (pc + 1))]) rfl ⟨Nat.le_of_ble_eq_true rfl, Nat.le_of_ble_eq_true rfl, Nat.le_of_ble_eq_true rfl, Nat.le_of_ble_eq_true rfl⟩).trans (vret_v e5)) ?_
  refine ru (rn_iload (pc := 539) (dd bL_law dL_law_539) rfl) ?_
  refine ru (rn_iconst (pc := 541) (dd bL_law dL_law_541) (by decide)) ?_
  refine ru (rg_isub (pc := 542) (dd bL_law dL_law_542) (by omega) (by omega)) ?_
  refine ru ((rn_icmp_ne (t := 577) (pc := 543) (dd bL_law dL_law_543) rfl).trans (if_neg (by omega))) ?_
  refine ru (rn_iload (pc := 546) (dd bL_law dL_law_546) rfl) ?_
  refine ru (rn_bipush (pc := 548) (dd bL_law dL_law_548) (by decide)) ?_
  refine ab_ishr (pc := 550) (dd bL_law dL_law_550) (by unfold c32; omega) (fun t9 ht9 gt9 => ?_)
  have kt9 := gt9 (by omega)
  unfold c32 at ht9
  refine ru (rn_iconst (pc := 551) (dd bL_law dL_law_551) (by decide)) ?_
  refine ab_iand (pc := 552) (dd bL_law dL_law_552) (by decide) (fun t10 ht10 => ?_)
  by_cases c1 : t10 = 0
  · refine ru ((rn_if_eq (t := 573) (pc := 553) (dd bL_law dL_law_553) rfl).trans (if_pos c1)) ?_
    refine ru (rn_iconst (pc := 573) (dd bL_law dL_law_573) (by decide)) ?_
    refine ru (rn_goto (t := 578) (pc := 574) (dd bL_law dL_law_574) rfl) ?_
    refine ru (rn_istore_n (pc := 578) (dd bL_law dL_law_578) (Nat.le_of_ble_eq_true rfl) (L2 := [(1, 2), (1, 3), (0, pl), (0, 1), (0, T), (0, t), (0, x), (0, y), (0, de), (0, p), (0, li), (0, si), (0, pc), (0, a 2 283 (80 * li + pc)), v14, v15, v16, v17]) rfl) ?_
    refine ru (rn_goto (t := 1474) (pc := 579) (dd bL_law dL_law_579) rfl) ?_
    exact K (JG_le J6 (by omega) (by omega)) (by omega)
  · refine ru ((rn_if_eq (t := 573) (pc := 553) (dd bL_law dL_law_553) rfl).trans (if_neg c1)) ?_
    refine ru (rn_aload_n (pc := 556) (dd bL_law dL_law_556) rfl) ?_
    refine ru (rn_iconst (pc := 557) (dd bL_law dL_law_557) (by decide)) ?_
    refine ru (rn_iload (pc := 558) (dd bL_law dL_law_558) rfl) ?_
    refine ru (rn_iload (pc := 560) (dd bL_law dL_law_560) rfl) ?_
    refine ru (rn_iload (pc := 562) (dd bL_law dL_law_562) rfl) ?_
    refine ru (rn_iconst (pc := 564) (dd bL_law dL_law_564) (by decide)) ?_
    obtain ⟨h11, a14, e12, J13, f15⟩ := O_insert (l := li) (x := pc) (s := a 2 283 (80 * li + pc)) J6 (by omega) (by omega) (by omega) (j.2.1.2.2 li pc hl.1 hl.2 hx.1 (by omega)) (by omega)
    refine ru ((rg_static (pc := 565) (dd bL_law dL_law_565) rfl (by decide) (Nat.le_of_ble_eq_true rfl) (as := [(1, 3), (0, 0), (0, li), (0, pc), (0, a 2 283 (80 * li + pc)), (0, 0)]) rfl rfl ⟨Nat.le_of_ble_eq_true rfl, Nat.le_of_ble_eq_true rfl, Nat.le_of_ble_eq_true rfl, Nat.le_of_ble_eq_true rfl⟩).trans (vret_v e12)) ?_
    refine ru (rn_iload (pc := 568) (dd bL_law dL_law_568) rfl) ?_
    refine ru ((rn_icmp_ne (t := 577) (pc := 570) (dd bL_law dL_law_570) rfl).trans (if_neg (by omega))) ?_
    refine ru (rn_iconst (pc := 573) (dd bL_law dL_law_573) (by decide)) ?_
    refine ru (rn_goto (t := 578) (pc := 574) (dd bL_law dL_law_574) rfl) ?_
    refine ru (rn_istore_n (pc := 578) (dd bL_law dL_law_578) (Nat.le_of_ble_eq_true rfl) (L2 := [(1, 2), (1, 3), (0, pl), (0, 1), (0, T), (0, t), (0, x), (0, y), (0, de), (0, p), (0, li), (0, si), (0, pc), (0, a 2 283 (80 * li + pc)), v14, v15, v16, v17]) rfl) ?_
    refine ru (rn_goto (t := 1474) (pc := 579) (dd bL_law dL_law_579) rfl) ?_
    exact K (JG_le J13 (by omega) (by omega)) (by omega)
theorem lw_d5 {h a : vH} {n m : Int} {pl T t x y de p li si pc : Int} {v13 v14 v15 v16 v17 : vv} {Q : vR → vH → Prop} (j : JG n m h a) (hn : 0 ≤ n ∧ n ≤ 8000) (hpl : 0 ≤ pl ∧ pl ≤ 4) (hp : 0 ≤ p ∧ p < 4) (hy : 0 ≤ y ∧ y ≤ 268435455) (hl : 0 ≤ li ∧ li < a 1504 282 0) (hsi : si = a 2 284 li) (hx : 0 ≤ pc ∧ pc ≤ si) (hd : de = 5) (K : ∀ {h1 a1 : vH} {pl1 : Int} {v13 v14 v15 v16 v17 : vv}, JG (n + 8) (m + 60) h1 a1 → 0 ≤ pl1 ∧ pl1 ≤ 4 → Ru Q (vrun mL_law 1474 [(1, 2), (1, 3), (0, pl1), (0, 1), (0, T), (0, t), (0, x), (0, y), (0, de), (0, p), (0, li), (0, si), (0, pc), v13, v14, v15, v16, v17] [] h1)) : Ru Q (vrun mL_law 180 [(1, 2), (1, 3), (0, pl), (0, 1), (0, T), (0, t), (0, x), (0, y), (0, de), (0, p), (0, li), (0, si), (0, pc), v13, v14, v15, v16, v17] [] h) := by
  have gl := j.2.1.1.1.1.1.2.1
  have gn := j.2.1.1.1.1.1.2.2.1 li hl.1 (by omega)
  refine ru (rn_iload (pc := 180) (dd bL_law dL_law_180) rfl) ?_
  refine ru (rn_iconst (pc := 182) (dd bL_law dL_law_182) (by decide)) ?_
  refine ru ((rn_icmp_ge (t := 346) (pc := 183) (dd bL_law dL_law_183) rfl).trans (if_pos (by omega))) ?_
  refine ru (rn_iload (pc := 346) (dd bL_law dL_law_346) rfl) ?_
  refine ru (rn_iconst (pc := 348) (dd bL_law dL_law_348) (by decide)) ?_
  refine ru ((rn_icmp_ne (t := 504) (pc := 349) (dd bL_law dL_law_349) rfl).trans (if_pos (by omega))) ?_
  refine ru (rn_iload (pc := 504) (dd bL_law dL_law_504) rfl) ?_
  refine ru (rn_iconst (pc := 506) (dd bL_law dL_law_506) (by decide)) ?_
  refine ru ((rn_icmp_ne (t := 582) (pc := 507) (dd bL_law dL_law_507) rfl).trans (if_pos (by omega))) ?_
  refine ru (rn_iload (pc := 582) (dd bL_law dL_law_582) rfl) ?_
  refine ru (rn_iconst (pc := 584) (dd bL_law dL_law_584) (by decide)) ?_
  refine ru ((rn_icmp_ne (t := 651) (pc := 585) (dd bL_law dL_law_585) rfl).trans (if_neg (by omega))) ?_
  refine ru (rn_iload (pc := 588) (dd bL_law dL_law_588) rfl) ?_
  refine ru (rn_iconst (pc := 590) (dd bL_law dL_law_590) (by decide)) ?_
  refine ru (rg_iadd (pc := 591) (dd bL_law dL_law_591) (by omega) (by omega)) ?_
  refine ru (rn_aload_n (pc := 592) (dd bL_law dL_law_592) rfl) ?_
  obtain ⟨h1, e2, J3⟩ := S_lines j
  refine ru ((rg_virtual (pc := 593) (dd bL_law dL_law_593) rfl rfl (by decide) (kc := 33) rfl (jPL j) (as := [(1, 3)]) rfl ⟨Nat.le_of_ble_eq_true rfl, Nat.le_of_ble_eq_true rfl, Nat.le_of_ble_eq_true rfl, Nat.le_of_ble_eq_true rfl⟩).trans (vret_v e2)) ?_
  by_cases c1 : a 1504 282 0 ≤ (li + 1)
  · refine ru ((rn_icmp_ge (t := 619) (pc := 596) (dd bL_law dL_law_596) rfl).trans (if_pos c1)) ?_
    refine ru (rn_iconst (pc := 619) (dd bL_law dL_law_619) (by decide)) ?_
    refine ru (rn_istore (pc := 620) (dd bL_law dL_law_620) (Nat.le_of_ble_eq_true rfl) (L2 := [(1, 2), (1, 3), (0, pl), (0, 1), (0, T), (0, t), (0, x), (0, y), (0, de), (0, p), (0, li), (0, si), (0, pc), (0, 0), v14, v15, v16, v17]) rfl) ?_
    refine ru (rn_iload (pc := 622) (dd bL_law dL_law_622) rfl) ?_
    refine ru ((rn_if_eq (t := 642) (pc := 624) (dd bL_law dL_law_624) rfl).trans (if_pos (by decide))) ?_
    refine ru (rn_iconst (pc := 642) (dd bL_law dL_law_642) (by decide)) ?_
    refine ru (rn_goto (t := 647) (pc := 643) (dd bL_law dL_law_643) rfl) ?_
    refine ru (rn_istore_n (pc := 647) (dd bL_law dL_law_647) (Nat.le_of_ble_eq_true rfl) (L2 := [(1, 2), (1, 3), (0, pl), (0, 1), (0, T), (0, t), (0, x), (0, y), (0, de), (0, p), (0, li), (0, si), (0, pc), (0, 0), v14, v15, v16, v17]) rfl) ?_
    refine ru (rn_goto (t := 1474) (pc := 648) (dd bL_law dL_law_648) rfl) ?_
    exact K (JG_le J3 (by omega) (by omega)) (by omega)
  · refine ru ((rn_icmp_ge (t := 619) (pc := 596) (dd bL_law dL_law_596) rfl).trans (if_neg c1)) ?_
    have gn1 := j.2.1.1.1.1.1.2.2.1 (li + 1) (by omega) (by omega)
    refine ru (rn_iload (pc := 599) (dd bL_law dL_law_599) rfl) ?_
    refine ru (rn_aload_n (pc := 601) (dd bL_law dL_law_601) rfl) ?_
    refine ru (rn_iload (pc := 602) (dd bL_law dL_law_602) rfl) ?_
    refine ru (rn_iconst (pc := 604) (dd bL_law dL_law_604) (by decide)) ?_
    refine ru (rg_iadd (pc := 605) (dd bL_law dL_law_605) (by omega) (by omega)) ?_
    obtain ⟨h4, e5, J6⟩ := S_length (l := (li + 1)) J3 (by omega)
    refine ru ((rg_virtual (pc := 606) (dd bL_law dL_law_606) rfl rfl (by decide) (kc := 33) rfl (jPL J3) (as := [(1, 3), (0, (li + 1))]) rfl ⟨Nat.le_of_ble_eq_true rfl, Nat.le_of_ble_eq_true rfl, Nat.le_of_ble_eq_true rfl, Nat.le_of_ble_eq_true rfl⟩).trans (vret_v e5)) ?_
    refine ru (rg_iadd (pc := 609) (dd bL_law dL_law_609) (by omega) (by omega)) ?_
    refine ru (rn_bipush (pc := 610) (dd bL_law dL_law_610) (by decide)) ?_
    by_cases c2 : 80 < (si + (a 2 284 (li + 1)))
    · refine ru ((rn_icmp_gt (t := 619) (pc := 612) (dd bL_law dL_law_612) rfl).trans (if_pos c2)) ?_
      refine ru (rn_iconst (pc := 619) (dd bL_law dL_law_619) (by decide)) ?_
      refine ru (rn_istore (pc := 620) (dd bL_law dL_law_620) (Nat.le_of_ble_eq_true rfl) (L2 := [(1, 2), (1, 3), (0, pl), (0, 1), (0, T), (0, t), (0, x), (0, y), (0, de), (0, p), (0, li), (0, si), (0, pc), (0, 0), v14, v15, v16, v17]) rfl) ?_
      refine ru (rn_iload (pc := 622) (dd bL_law dL_law_622) rfl) ?_
      refine ru ((rn_if_eq (t := 642) (pc := 624) (dd bL_law dL_law_624) rfl).trans (if_pos (by decide))) ?_
      refine ru (rn_iconst (pc := 642) (dd bL_law dL_law_642) (by decide)) ?_
      refine ru (rn_goto (t := 647) (pc := 643) (dd bL_law dL_law_643) rfl) ?_
      refine ru (rn_istore_n (pc := 647) (dd bL_law dL_law_647) (Nat.le_of_ble_eq_true rfl) (L2 := [(1, 2), (1, 3), (0, pl), (0, 1), (0, T), (0, t), (0, x), (0, y), (0, de), (0, p), (0, li), (0, si), (0, pc), (0, 0), v14, v15, v16, v17]) rfl) ?_
      refine ru (rn_goto (t := 1474) (pc := 648) (dd bL_law dL_law_648) rfl) ?_
      exact K (JG_le J6 (by omega) (by omega)) (by omega)
    · refine ru ((rn_icmp_gt (t := 619) (pc := 612) (dd bL_law dL_law_612) rfl).trans (if_neg c2)) ?_
      refine ru (rn_iconst (pc := 615) (dd bL_law dL_law_615) (by decide)) ?_
      refine ru (rn_goto (t := 620) (pc := 616) (dd bL_law dL_law_616) rfl) ?_
      refine ru (rn_istore (pc := 620) (dd bL_law dL_law_620) (Nat.le_of_ble_eq_true rfl) (L2 := [(1, 2), (1, 3), (0, pl), (0, 1), (0, T), (0, t), (0, x), (0, y), (0, de), (0, p), (0, li), (0, si), (0, pc), (0, 1), v14, v15, v16, v17]) rfl) ?_
      refine ru (rn_iload (pc := 622) (dd bL_law dL_law_622) rfl) ?_
      refine ru ((rn_if_eq (t := 642) (pc := 624) (dd bL_law dL_law_624) rfl).trans (if_neg (by decide))) ?_
      refine ru (rn_aload_n (pc := 627) (dd bL_law dL_law_627) rfl) ?_
      refine ru (rn_iconst (pc := 628) (dd bL_law dL_law_628) (by decide)) ?_
      refine ru (rn_iload (pc := 629) (dd bL_law dL_law_629) rfl) ?_
      refine ru (rn_iconst (pc := 631) (dd bL_law dL_law_631) (by decide)) ?_
      refine ru (rn_iconst (pc := 632) (dd bL_law dL_law_632) (by decide)) ?_
      refine ru (rn_iconst (pc := 633) (dd bL_law dL_law_633) (by decide)) ?_
      obtain ⟨h7, a10, e8, J9, f11⟩ := O_join (l := li) J6 (by omega) (by omega) (by omega)
      refine ru ((rg_static (pc := 634) (dd bL_law dL_law_634) rfl (by decide) (Nat.le_of_ble_eq_true rfl) (as := [(1, 3), (0, 2), (0, li), (0, 0), (0, 0), (0, 0)]) rfl rfl ⟨Nat.le_of_ble_eq_true rfl, Nat.le_of_ble_eq_true rfl, Nat.le_of_ble_eq_true rfl, Nat.le_of_ble_eq_true rfl⟩).trans (vret_v e8)) ?_
      refine ru (rn_iload (pc := 637) (dd bL_law dL_law_637) rfl) ?_
      refine ru ((rn_icmp_lt (t := 646) (pc := 639) (dd bL_law dL_law_639) rfl).trans (if_neg (by omega))) ?_
      refine ru (rn_iconst (pc := 642) (dd bL_law dL_law_642) (by decide)) ?_
      refine ru (rn_goto (t := 647) (pc := 643) (dd bL_law dL_law_643) rfl) ?_
      refine ru (rn_istore_n (pc := 647) (dd bL_law dL_law_647) (Nat.le_of_ble_eq_true rfl) (L2 := [(1, 2), (1, 3), (0, pl), (0, 1), (0, T), (0, t), (0, x), (0, y), (0, de), (0, p), (0, li), (0, si), (0, pc), (0, 1), v14, v15, v16, v17]) rfl) ?_
      refine ru (rn_goto (t := 1474) (pc := 648) (dd bL_law dL_law_648) rfl) ?_
      exact K (JG_le J9 (by omega) (by omega)) (by omega)
theorem lw_d6 {h a : vH} {n m : Int} {pl T t x y de p li si pc : Int} {v13 v14 v15 v16 v17 : vv} {Q : vR → vH → Prop} (j : JG n m h a) (hn : 0 ≤ n ∧ n ≤ 8000) (hpl : 0 ≤ pl ∧ pl ≤ 4) (hp : 0 ≤ p ∧ p < 4) (hy : 0 ≤ y ∧ y ≤ 268435455) (hl : 0 ≤ li ∧ li < a 1504 282 0) (hsi : si = a 2 284 li) (hx : 0 ≤ pc ∧ pc ≤ si) (hd : de = 6) (K : ∀ {h1 a1 : vH} {pl1 : Int} {v13 v14 v15 v16 v17 : vv}, JG (n + 8) (m + 60) h1 a1 → 0 ≤ pl1 ∧ pl1 ≤ 4 → Ru Q (vrun mL_law 1474 [(1, 2), (1, 3), (0, pl1), (0, 1), (0, T), (0, t), (0, x), (0, y), (0, de), (0, p), (0, li), (0, si), (0, pc), v13, v14, v15, v16, v17] [] h1)) : Ru Q (vrun mL_law 180 [(1, 2), (1, 3), (0, pl), (0, 1), (0, T), (0, t), (0, x), (0, y), (0, de), (0, p), (0, li), (0, si), (0, pc), v13, v14, v15, v16, v17] [] h) := by
  have gl := j.2.1.1.1.1.1.2.1
  have gn := j.2.1.1.1.1.1.2.2.1 li hl.1 (by omega)
  refine ru (rn_iload (pc := 180) (dd bL_law dL_law_180) rfl) ?_
  refine ru (rn_iconst (pc := 182) (dd bL_law dL_law_182) (by decide)) ?_
  refine ru ((rn_icmp_ge (t := 346) (pc := 183) (dd bL_law dL_law_183) rfl).trans (if_pos (by omega))) ?_
  refine ru (rn_iload (pc := 346) (dd bL_law dL_law_346) rfl) ?_
  refine ru (rn_iconst (pc := 348) (dd bL_law dL_law_348) (by decide)) ?_
  refine ru ((rn_icmp_ne (t := 504) (pc := 349) (dd bL_law dL_law_349) rfl).trans (if_pos (by omega))) ?_
  refine ru (rn_iload (pc := 504) (dd bL_law dL_law_504) rfl) ?_
  refine ru (rn_iconst (pc := 506) (dd bL_law dL_law_506) (by decide)) ?_
  refine ru ((rn_icmp_ne (t := 582) (pc := 507) (dd bL_law dL_law_507) rfl).trans (if_pos (by omega))) ?_
  refine ru (rn_iload (pc := 582) (dd bL_law dL_law_582) rfl) ?_
  refine ru (rn_iconst (pc := 584) (dd bL_law dL_law_584) (by decide)) ?_
  refine ru ((rn_icmp_ne (t := 651) (pc := 585) (dd bL_law dL_law_585) rfl).trans (if_pos (by omega))) ?_
  refine ru (rn_iload (pc := 651) (dd bL_law dL_law_651) rfl) ?_
  refine ru (rn_bipush (pc := 653) (dd bL_law dL_law_653) (by decide)) ?_
  refine ru ((rn_icmp_ne (t := 727) (pc := 655) (dd bL_law dL_law_655) rfl).trans (if_neg (by omega))) ?_
  refine ru (rn_iload (pc := 658) (dd bL_law dL_law_658) rfl) ?_
  refine ru (rn_iload (pc := 660) (dd bL_law dL_law_660) rfl) ?_
  by_cases c1 : si ≤ pc
  · refine ru ((rn_icmp_ge (t := 696) (pc := 662) (dd bL_law dL_law_662) rfl).trans (if_pos c1)) ?_
    refine ru (rn_iconst (pc := 696) (dd bL_law dL_law_696) (by decide)) ?_
    refine ru (rn_istore (pc := 697) (dd bL_law dL_law_697) (Nat.le_of_ble_eq_true rfl) (L2 := [(1, 2), (1, 3), (0, pl), (0, 1), (0, T), (0, t), (0, x), (0, y), (0, de), (0, p), (0, li), (0, si), (0, pc), (0, 0), v14, v15, v16, v17]) rfl) ?_
    refine ru (rn_iload (pc := 699) (dd bL_law dL_law_699) rfl) ?_
    refine ru (rn_bipush (pc := 701) (dd bL_law dL_law_701) (by decide)) ?_
    refine ru ((rn_icmp_eq (t := 718) (pc := 703) (dd bL_law dL_law_703) rfl).trans (if_neg (by decide))) ?_
    refine ru (rn_iload (pc := 706) (dd bL_law dL_law_706) rfl) ?_
    refine ru ((rn_if_lt (t := 722) (pc := 708) (dd bL_law dL_law_708) rfl).trans (if_neg (by decide))) ?_
    refine ru (rn_iload (pc := 711) (dd bL_law dL_law_711) rfl) ?_
    refine ru (rn_bipush (pc := 713) (dd bL_law dL_law_713) (by decide)) ?_
    refine ru ((rn_icmp_ge (t := 722) (pc := 715) (dd bL_law dL_law_715) rfl).trans (if_neg (by decide))) ?_
    refine ru (rn_iconst (pc := 718) (dd bL_law dL_law_718) (by decide)) ?_
    refine ru (rn_goto (t := 723) (pc := 719) (dd bL_law dL_law_719) rfl) ?_
    refine ru (rn_istore_n (pc := 723) (dd bL_law dL_law_723) (Nat.le_of_ble_eq_true rfl) (L2 := [(1, 2), (1, 3), (0, pl), (0, 1), (0, T), (0, t), (0, x), (0, y), (0, de), (0, p), (0, li), (0, si), (0, pc), (0, 0), v14, v15, v16, v17]) rfl) ?_
    refine ru (rn_goto (t := 1474) (pc := 724) (dd bL_law dL_law_724) rfl) ?_
    exact K (JG_le j (by omega) (by omega)) (by omega)
  · refine ru ((rn_icmp_ge (t := 696) (pc := 662) (dd bL_law dL_law_662) rfl).trans (if_neg c1)) ?_
    refine ru (rn_aload_n (pc := 665) (dd bL_law dL_law_665) rfl) ?_
    refine ru (rn_bipush (pc := 666) (dd bL_law dL_law_666) (by decide)) ?_
    refine ru (rn_iload (pc := 668) (dd bL_law dL_law_668) rfl) ?_
    refine ru (rn_iload (pc := 670) (dd bL_law dL_law_670) rfl) ?_
    refine ru (rn_iload (pc := 672) (dd bL_law dL_law_672) rfl) ?_
    refine ru (rn_iload (pc := 674) (dd bL_law dL_law_674) rfl) ?_
    refine ru (rn_iconst (pc := 676) (dd bL_law dL_law_676) (by decide)) ?_
    refine ru (rg_iadd (pc := 677) (dd bL_law dL_law_677) (by omega) (by omega)) ?_
    refine ru (rn_iload (pc := 678) (dd bL_law dL_law_678) rfl) ?_
    refine ru (rn_bipush (pc := 680) (dd bL_law dL_law_680) (by decide)) ?_
    refine ab_ishr (pc := 682) (dd bL_law dL_law_682) (by unfold c32; omega) (fun t1 ht1 gt1 => ?_)
    have kt1 := gt1 (by omega)
    unfold c32 at ht1
    refine ru (rn_iload (pc := 683) (dd bL_law dL_law_683) rfl) ?_
    refine ru (rn_iload (pc := 685) (dd bL_law dL_law_685) rfl) ?_
    refine ru (rg_isub (pc := 687) (dd bL_law dL_law_687) (by omega) (by omega)) ?_
    refine ab_irem (pc := 688) (dd bL_law dL_law_688) (by omega) (by omega) (fun t2 ht2 => ?_)
    refine ru (rg_iadd (pc := 689) (dd bL_law dL_law_689) (by omega) (by omega)) ?_
    obtain ⟨h3, a6, v7, e4, J5, f8⟩ := O_hide (p := p) (l := li) (f := pc) (u := ((pc + 1) + t2)) j (by omega) hp hl (by omega) (by omega)
    refine ru ((rg_static (pc := 690) (dd bL_law dL_law_690) rfl (by decide) (Nat.le_of_ble_eq_true rfl) (as := [(1, 3), (0, 7), (0, p), (0, li), (0, pc), (0, ((pc + 1) + t2))]) rfl rfl ⟨Nat.le_of_ble_eq_true rfl, Nat.le_of_ble_eq_true rfl, Nat.le_of_ble_eq_true rfl, Nat.le_of_ble_eq_true rfl⟩).trans (vret_v e4)) ?_
    refine ru (rn_goto (t := 697) (pc := 693) (dd bL_law dL_law_693) rfl) ?_
    refine ru (rn_istore (pc := 697) (dd bL_law dL_law_697) (Nat.le_of_ble_eq_true rfl) (L2 := [(1, 2), (1, 3), (0, pl), (0, 1), (0, T), (0, t), (0, x), (0, y), (0, de), (0, p), (0, li), (0, si), (0, pc), (0, v7), v14, v15, v16, v17]) rfl) ?_
    refine ru (rn_iload (pc := 699) (dd bL_law dL_law_699) rfl) ?_
    refine ru (rn_bipush (pc := 701) (dd bL_law dL_law_701) (by decide)) ?_
    by_cases c2 : v7 = (-13)
    · refine ru ((rn_icmp_eq (t := 718) (pc := 703) (dd bL_law dL_law_703) rfl).trans (if_pos c2)) ?_
      refine ru (rn_iconst (pc := 718) (dd bL_law dL_law_718) (by decide)) ?_
      refine ru (rn_goto (t := 723) (pc := 719) (dd bL_law dL_law_719) rfl) ?_
      refine ru (rn_istore_n (pc := 723) (dd bL_law dL_law_723) (Nat.le_of_ble_eq_true rfl) (L2 := [(1, 2), (1, 3), (0, pl), (0, 1), (0, T), (0, t), (0, x), (0, y), (0, de), (0, p), (0, li), (0, si), (0, pc), (0, v7), v14, v15, v16, v17]) rfl) ?_
      refine ru (rn_goto (t := 1474) (pc := 724) (dd bL_law dL_law_724) rfl) ?_
      exact K (JG_le J5 (by omega) (by omega)) (by omega)
    · refine ru ((rn_icmp_eq (t := 718) (pc := 703) (dd bL_law dL_law_703) rfl).trans (if_neg c2)) ?_
      refine ru (rn_iload (pc := 706) (dd bL_law dL_law_706) rfl) ?_
      refine ru ((rn_if_lt (t := 722) (pc := 708) (dd bL_law dL_law_708) rfl).trans (if_neg (by omega))) ?_
      refine ru (rn_iload (pc := 711) (dd bL_law dL_law_711) rfl) ?_
      refine ru (rn_bipush (pc := 713) (dd bL_law dL_law_713) (by decide)) ?_
      refine ru ((rn_icmp_ge (t := 722) (pc := 715) (dd bL_law dL_law_715) rfl).trans (if_neg (by omega))) ?_
      refine ru (rn_iconst (pc := 718) (dd bL_law dL_law_718) (by decide)) ?_
      refine ru (rn_goto (t := 723) (pc := 719) (dd bL_law dL_law_719) rfl) ?_
      refine ru (rn_istore_n (pc := 723) (dd bL_law dL_law_723) (Nat.le_of_ble_eq_true rfl) (L2 := [(1, 2), (1, 3), (0, pl), (0, 1), (0, T), (0, t), (0, x), (0, y), (0, de), (0, p), (0, li), (0, si), (0, pc), (0, v7), v14, v15, v16, v17]) rfl) ?_
      refine ru (rn_goto (t := 1474) (pc := 724) (dd bL_law dL_law_724) rfl) ?_
      exact K (JG_le J5 (by omega) (by omega)) (by omega)
theorem lw_d7 {h a : vH} {n m : Int} {pl T t x y de p li si pc : Int} {v13 v14 v15 v16 v17 : vv} {Q : vR → vH → Prop} (j : JG n m h a) (hn : 0 ≤ n ∧ n ≤ 8000) (hpl : 0 ≤ pl ∧ pl ≤ 4) (hp : 0 ≤ p ∧ p < 4) (hy : 0 ≤ y ∧ y ≤ 268435455) (hl : 0 ≤ li ∧ li < a 1504 282 0) (hsi : si = a 2 284 li) (hx : 0 ≤ pc ∧ pc ≤ si) (hd : de = 7) (K : ∀ {h1 a1 : vH} {pl1 : Int} {v13 v14 v15 v16 v17 : vv}, JG (n + 8) (m + 60) h1 a1 → 0 ≤ pl1 ∧ pl1 ≤ 4 → Ru Q (vrun mL_law 1474 [(1, 2), (1, 3), (0, pl1), (0, 1), (0, T), (0, t), (0, x), (0, y), (0, de), (0, p), (0, li), (0, si), (0, pc), v13, v14, v15, v16, v17] [] h1)) : Ru Q (vrun mL_law 180 [(1, 2), (1, 3), (0, pl), (0, 1), (0, T), (0, t), (0, x), (0, y), (0, de), (0, p), (0, li), (0, si), (0, pc), v13, v14, v15, v16, v17] [] h) := by
  have gl := j.2.1.1.1.1.1.2.1
  have gn := j.2.1.1.1.1.1.2.2.1 li hl.1 (by omega)
  refine ru (rn_iload (pc := 180) (dd bL_law dL_law_180) rfl) ?_
  refine ru (rn_iconst (pc := 182) (dd bL_law dL_law_182) (by decide)) ?_
  refine ru ((rn_icmp_ge (t := 346) (pc := 183) (dd bL_law dL_law_183) rfl).trans (if_pos (by omega))) ?_
  refine ru (rn_iload (pc := 346) (dd bL_law dL_law_346) rfl) ?_
  refine ru (rn_iconst (pc := 348) (dd bL_law dL_law_348) (by decide)) ?_
  refine ru ((rn_icmp_ne (t := 504) (pc := 349) (dd bL_law dL_law_349) rfl).trans (if_pos (by omega))) ?_
  refine ru (rn_iload (pc := 504) (dd bL_law dL_law_504) rfl) ?_
  refine ru (rn_iconst (pc := 506) (dd bL_law dL_law_506) (by decide)) ?_
  refine ru ((rn_icmp_ne (t := 582) (pc := 507) (dd bL_law dL_law_507) rfl).trans (if_pos (by omega))) ?_
  refine ru (rn_iload (pc := 582) (dd bL_law dL_law_582) rfl) ?_
  refine ru (rn_iconst (pc := 584) (dd bL_law dL_law_584) (by decide)) ?_
  refine ru ((rn_icmp_ne (t := 651) (pc := 585) (dd bL_law dL_law_585) rfl).trans (if_pos (by omega))) ?_
  refine ru (rn_iload (pc := 651) (dd bL_law dL_law_651) rfl) ?_
  refine ru (rn_bipush (pc := 653) (dd bL_law dL_law_653) (by decide)) ?_
  refine ru ((rn_icmp_ne (t := 727) (pc := 655) (dd bL_law dL_law_655) rfl).trans (if_pos (by omega))) ?_
  refine ru (rn_iload (pc := 727) (dd bL_law dL_law_727) rfl) ?_
  refine ru (rn_bipush (pc := 729) (dd bL_law dL_law_729) (by decide)) ?_
  refine ru ((rn_icmp_ne (t := 788) (pc := 731) (dd bL_law dL_law_731) rfl).trans (if_neg (by omega))) ?_
  refine ru (rn_aload_n (pc := 734) (dd bL_law dL_law_734) rfl) ?_
  refine ru (rn_iload (pc := 735) (dd bL_law dL_law_735) rfl) ?_
  refine ru (rn_iload (pc := 737) (dd bL_law dL_law_737) rfl) ?_
  refine ru (rn_iload (pc := 739) (dd bL_law dL_law_739) rfl) ?_
  refine ru (rn_ldc2_w (pc := 741) (dd bL_law dL_law_741) (z := 826371681) rfl) ?_
  refine ru (rn_bipush (pc := 744) (dd bL_law dL_law_744) (by decide)) ?_
  refine ru (rn_iload (pc := 746) (dd bL_law dL_law_746) rfl) ?_
  refine ru (rn_bipush (pc := 748) (dd bL_law dL_law_748) (by decide)) ?_
  refine ab_ishr (pc := 750) (dd bL_law dL_law_750) (by unfold c32; omega) (fun t1 ht1 gt1 => ?_)
  have kt1 := gt1 (by omega)
  unfold c32 at ht1
  refine ru (rn_iconst (pc := 751) (dd bL_law dL_law_751) (by decide)) ?_
  refine ab_iand (pc := 752) (dd bL_law dL_law_752) (by decide) (fun t2 ht2 => ?_)
  have vt := vt_ok ht2
  refine ru (rg_imul (pc := 753) (dd bL_law dL_law_753) (by omega) (by omega)) ?_
  refine ru (rg_lshr (pc := 754) (dd bL_law dL_law_754)) ?_
  obtain ⟨h3, a6, v7, e4, J5, f8⟩ := V_virtual (p := p) (l := li) (f := pc) (u := blshr 826371681 (8 * t2)) j (by omega) hp hl (by omega) vt.1 vt.2
  refine ru ((rg_static (pc := 755) (dd bL_law dL_law_755) rfl (by decide) (Nat.le_of_ble_eq_true rfl) (as := [(1, 3), (0, p), (0, li), (0, pc), (2, blshr 826371681 (8 * t2))]) rfl rfl ⟨Nat.le_of_ble_eq_true rfl, Nat.le_of_ble_eq_true rfl, Nat.le_of_ble_eq_true rfl, Nat.le_of_ble_eq_true rfl⟩).trans (vret_v e4)) ?_
  refine ru (rn_istore (pc := 758) (dd bL_law dL_law_758) (Nat.le_of_ble_eq_true rfl) (L2 := [(1, 2), (1, 3), (0, pl), (0, 1), (0, T), (0, t), (0, x), (0, y), (0, de), (0, p), (0, li), (0, si), (0, pc), (0, v7), v14, v15, v16, v17]) rfl) ?_
  refine ru (rn_iload (pc := 760) (dd bL_law dL_law_760) rfl) ?_
  refine ru (rn_bipush (pc := 762) (dd bL_law dL_law_762) (by decide)) ?_
  by_cases c2 : v7 = (-13)
  · refine ru ((rn_icmp_eq (t := 779) (pc := 764) (dd bL_law dL_law_764) rfl).trans (if_pos c2)) ?_
    refine ru (rn_iconst (pc := 779) (dd bL_law dL_law_779) (by decide)) ?_
    refine ru (rn_goto (t := 784) (pc := 780) (dd bL_law dL_law_780) rfl) ?_
    refine ru (rn_istore_n (pc := 784) (dd bL_law dL_law_784) (Nat.le_of_ble_eq_true rfl) (L2 := [(1, 2), (1, 3), (0, pl), (0, 1), (0, T), (0, t), (0, x), (0, y), (0, de), (0, p), (0, li), (0, si), (0, pc), (0, v7), v14, v15, v16, v17]) rfl) ?_
    refine ru (rn_goto (t := 1474) (pc := 785) (dd bL_law dL_law_785) rfl) ?_
    exact K (JG_le J5 (by omega) (by omega)) (by omega)
  · refine ru ((rn_icmp_eq (t := 779) (pc := 764) (dd bL_law dL_law_764) rfl).trans (if_neg c2)) ?_
    refine ru (rn_iload (pc := 767) (dd bL_law dL_law_767) rfl) ?_
    refine ru ((rn_if_le (t := 783) (pc := 769) (dd bL_law dL_law_769) rfl).trans (if_neg (by omega))) ?_
    refine ru (rn_iload (pc := 772) (dd bL_law dL_law_772) rfl) ?_
    refine ru (rn_bipush (pc := 774) (dd bL_law dL_law_774) (by decide)) ?_
    refine ru ((rn_icmp_ge (t := 783) (pc := 776) (dd bL_law dL_law_776) rfl).trans (if_neg (by omega))) ?_
    refine ru (rn_iconst (pc := 779) (dd bL_law dL_law_779) (by decide)) ?_
    refine ru (rn_goto (t := 784) (pc := 780) (dd bL_law dL_law_780) rfl) ?_
    refine ru (rn_istore_n (pc := 784) (dd bL_law dL_law_784) (Nat.le_of_ble_eq_true rfl) (L2 := [(1, 2), (1, 3), (0, pl), (0, 1), (0, T), (0, t), (0, x), (0, y), (0, de), (0, p), (0, li), (0, si), (0, pc), (0, v7), v14, v15, v16, v17]) rfl) ?_
    refine ru (rn_goto (t := 1474) (pc := 785) (dd bL_law dL_law_785) rfl) ?_
    exact K (JG_le J5 (by omega) (by omega)) (by omega)
theorem lw_d8 {h a : vH} {n m : Int} {pl T t x y de p li si pc : Int} {v13 v14 v15 v16 v17 : vv} {Q : vR → vH → Prop} (j : JG n m h a) (hn : 0 ≤ n ∧ n ≤ 8000) (hpl : 0 ≤ pl ∧ pl ≤ 4) (hp : 0 ≤ p ∧ p < 4) (hy : 0 ≤ y ∧ y ≤ 268435455) (hl : 0 ≤ li ∧ li < a 1504 282 0) (hsi : si = a 2 284 li) (hx : 0 ≤ pc ∧ pc ≤ si) (hd : de = 8) (K : ∀ {h1 a1 : vH} {pl1 : Int} {v13 v14 v15 v16 v17 : vv}, JG (n + 8) (m + 60) h1 a1 → 0 ≤ pl1 ∧ pl1 ≤ 4 → Ru Q (vrun mL_law 1474 [(1, 2), (1, 3), (0, pl1), (0, 1), (0, T), (0, t), (0, x), (0, y), (0, de), (0, p), (0, li), (0, si), (0, pc), v13, v14, v15, v16, v17] [] h1)) : Ru Q (vrun mL_law 180 [(1, 2), (1, 3), (0, pl), (0, 1), (0, T), (0, t), (0, x), (0, y), (0, de), (0, p), (0, li), (0, si), (0, pc), v13, v14, v15, v16, v17] [] h) := by
  have gl := j.2.1.1.1.1.1.2.1
  have gn := j.2.1.1.1.1.1.2.2.1 li hl.1 (by omega)
  refine ru (rn_iload (pc := 180) (dd bL_law dL_law_180) rfl) ?_
  refine ru (rn_iconst (pc := 182) (dd bL_law dL_law_182) (by decide)) ?_
  refine ru ((rn_icmp_ge (t := 346) (pc := 183) (dd bL_law dL_law_183) rfl).trans (if_pos (by omega))) ?_
  refine ru (rn_iload (pc := 346) (dd bL_law dL_law_346) rfl) ?_
  refine ru (rn_iconst (pc := 348) (dd bL_law dL_law_348) (by decide)) ?_
  refine ru ((rn_icmp_ne (t := 504) (pc := 349) (dd bL_law dL_law_349) rfl).trans (if_pos (by omega))) ?_
  refine ru (rn_iload (pc := 504) (dd bL_law dL_law_504) rfl) ?_
  refine ru (rn_iconst (pc := 506) (dd bL_law dL_law_506) (by decide)) ?_
  refine ru ((rn_icmp_ne (t := 582) (pc := 507) (dd bL_law dL_law_507) rfl).trans (if_pos (by omega))) ?_
  refine ru (rn_iload (pc := 582) (dd bL_law dL_law_582) rfl) ?_
  refine ru (rn_iconst (pc := 584) (dd bL_law dL_law_584) (by decide)) ?_
  refine ru ((rn_icmp_ne (t := 651) (pc := 585) (dd bL_law dL_law_585) rfl).trans (if_pos (by omega))) ?_
  refine ru (rn_iload (pc := 651) (dd bL_law dL_law_651) rfl) ?_
  refine ru (rn_bipush (pc := 653) (dd bL_law dL_law_653) (by decide)) ?_
  refine ru ((rn_icmp_ne (t := 727) (pc := 655) (dd bL_law dL_law_655) rfl).trans (if_pos (by omega))) ?_
  refine ru (rn_iload (pc := 727) (dd bL_law dL_law_727) rfl) ?_
  refine ru (rn_bipush (pc := 729) (dd bL_law dL_law_729) (by decide)) ?_
  refine ru ((rn_icmp_ne (t := 788) (pc := 731) (dd bL_law dL_law_731) rfl).trans (if_pos (by omega))) ?_
  refine ru (rn_iload (pc := 788) (dd bL_law dL_law_788) rfl) ?_
  refine ru (rn_bipush (pc := 790) (dd bL_law dL_law_790) (by decide)) ?_
  refine ru ((rn_icmp_ne (t := 907) (pc := 792) (dd bL_law dL_law_792) rfl).trans (if_neg (by omega))) ?_
  refine ru (rn_iload (pc := 795) (dd bL_law dL_law_795) rfl) ?_
  refine ru (rn_iconst (pc := 797) (dd bL_law dL_law_797) (by decide)) ?_
  refine ru (rg_iadd (pc := 798) (dd bL_law dL_law_798) (by omega) (by omega)) ?_
  refine ru (rn_aload_n (pc := 799) (dd bL_law dL_law_799) rfl) ?_
  obtain ⟨h1, e2, J3⟩ := S_lines j
  refine ru ((rg_virtual (pc := 800) (dd bL_law dL_law_800) rfl rfl (by decide) (kc := 33) rfl (jPL j) (as := [(1, 3)]) rfl ⟨Nat.le_of_ble_eq_true rfl, Nat.le_of_ble_eq_true rfl, Nat.le_of_ble_eq_true rfl, Nat.le_of_ble_eq_true rfl⟩).trans (vret_v e2)) ?_
  by_cases c1 : a 1504 282 0 ≤ (li + 1)
  · refine ru ((rn_icmp_ge (t := 840) (pc := 803) (dd bL_law dL_law_803) rfl).trans (if_pos c1)) ?_
    refine ru (rn_iconst (pc := 840) (dd bL_law dL_law_840) (by decide)) ?_
    refine ru (rn_istore (pc := 841) (dd bL_law dL_law_841) (Nat.le_of_ble_eq_true rfl) (L2 := [(1, 2), (1, 3), (0, pl), (0, 1), (0, T), (0, t), (0, x), (0, y), (0, de), (0, p), (0, li), (0, si), (0, pc), (0, 0), v14, v15, v16, v17]) rfl) ?_
    refine ru (rn_aload_n (pc := 843) (dd bL_law dL_law_843) rfl) ?_
    refine ru (rn_iload (pc := 844) (dd bL_law dL_law_844) rfl) ?_
    refine ru (rn_iload (pc := 846) (dd bL_law dL_law_846) rfl) ?_
    refine ru (rn_bipush (pc := 848) (dd bL_law dL_law_848) (by decide)) ?_
    refine ab_ishr (pc := 850) (dd bL_law dL_law_850) (by unfold c32; omega) (fun t4 ht4 gt4 => ?_)
    have kt4 := gt4 (by omega)
    unfold c32 at ht4
    refine ru (rn_iconst (pc := 851) (dd bL_law dL_law_851) (by decide)) ?_
    refine ab_irem (pc := 852) (dd bL_law dL_law_852) (by omega) (by omega) (fun t5 ht5 => ?_)
    refine ru (rn_iload (pc := 853) (dd bL_law dL_law_853) rfl) ?_
    refine ru (rn_bipush (pc := 855) (dd bL_law dL_law_855) (by decide)) ?_
    refine ab_ishr (pc := 857) (dd bL_law dL_law_857) (by unfold c32; omega) (fun t6 ht6 gt6 => ?_)
    have kt6 := gt6 (by omega)
    unfold c32 at ht6
    refine ru (rn_iconst (pc := 858) (dd bL_law dL_law_858) (by decide)) ?_
    refine ab_iand (pc := 859) (dd bL_law dL_law_859) (by decide) (fun t7 ht7 => ?_)
    by_cases c2 : t7 ≤ 0
    · refine ru ((rn_if_le (t := 867) (pc := 860) (dd bL_law dL_law_860) rfl).trans (if_pos c2)) ?_
      refine ru (rn_iconst (pc := 867) (dd bL_law dL_law_867) (by decide)) ?_
      obtain ⟨h8, a11, v12, e9, J10, f13⟩ := C_close9 (p := p) (x := t5) (v := 0) J3 hp (by omega) (by decide)
      refine ru ((rg_static (pc := 868) (dd bL_law dL_law_868) rfl (by decide) (Nat.le_of_ble_eq_true rfl) (as := [(1, 3), (0, p), (0, t5), (0, 0)]) rfl rfl ⟨Nat.le_of_ble_eq_true rfl, Nat.le_of_ble_eq_true rfl, Nat.le_of_ble_eq_true rfl, Nat.le_of_ble_eq_true rfl⟩).trans (vret_v e9)) ?_
      refine ru (rn_istore (pc := 871) (dd bL_law dL_law_871) (Nat.le_of_ble_eq_true rfl) (L2 := [(1, 2), (1, 3), (0, pl), (0, 1), (0, T), (0, t), (0, x), (0, y), (0, de), (0, p), (0, li), (0, si), (0, pc), (0, 0), (0, v12), v15, v16, v17]) rfl) ?_
      refine ru (rn_iload (pc := 873) (dd bL_law dL_law_873) rfl) ?_
      refine ru (rn_bipush (pc := 875) (dd bL_law dL_law_875) (by decide)) ?_
      refine ru ((rn_icmp_eq (t := 892) (pc := 877) (dd bL_law dL_law_877) rfl).trans (if_neg (by decide))) ?_
      refine ru (rn_iload (pc := 880) (dd bL_law dL_law_880) rfl) ?_
      refine ru ((rn_if_lt (t := 902) (pc := 882) (dd bL_law dL_law_882) rfl).trans (if_neg (by decide))) ?_
      refine ru (rn_iload (pc := 885) (dd bL_law dL_law_885) rfl) ?_
      refine ru (rn_bipush (pc := 887) (dd bL_law dL_law_887) (by decide)) ?_
      refine ru ((rn_icmp_ge (t := 902) (pc := 889) (dd bL_law dL_law_889) rfl).trans (if_neg (by decide))) ?_
      refine ru (rn_iload (pc := 892) (dd bL_law dL_law_892) rfl) ?_
      refine ru (rn_iconst (pc := 894) (dd bL_law dL_law_894) (by decide)) ?_
      refine ru ((rn_icmp_ge (t := 902) (pc := 895) (dd bL_law dL_law_895) rfl).trans (if_neg (by omega))) ?_
      refine ru (rn_iconst (pc := 898) (dd bL_law dL_law_898) (by decide)) ?_
      refine ru (rn_goto (t := 903) (pc := 899) (dd bL_law dL_law_899) rfl) ?_
      refine ru (rn_istore_n (pc := 903) (dd bL_law dL_law_903) (Nat.le_of_ble_eq_true rfl) (L2 := [(1, 2), (1, 3), (0, pl), (0, 1), (0, T), (0, t), (0, x), (0, y), (0, de), (0, p), (0, li), (0, si), (0, pc), (0, 0), (0, v12), v15, v16, v17]) rfl) ?_
      refine ru (rn_goto (t := 1474) (pc := 904) (dd bL_law dL_law_904) rfl) ?_
      exact K (JG_le J10 (by omega) (by omega)) (by omega)
    · refine ru ((rn_if_le (t := 867) (pc := 860) (dd bL_law dL_law_860) rfl).trans (if_neg c2)) ?_
      refine ru (rn_iconst (pc := 863) (dd bL_law dL_law_863) (by decide)) ?_
      refine ru (rn_goto (t := 868) (pc := 864) (dd bL_law dL_law_864) rfl) ?_
      obtain ⟨h14, a17, v18, e15, J16, f19⟩ := C_close9 (p := p) (x := t5) (v := 1) J3 hp (by omega) (by decide)
      refine ru ((rg_static (pc := 868) (dd bL_law dL_law_868) rfl (by decide) (Nat.le_of_ble_eq_true rfl) (as := [(1, 3), (0, p), (0, t5), (0, 1)]) rfl rfl ⟨Nat.le_of_ble_eq_true rfl, Nat.le_of_ble_eq_true rfl, Nat.le_of_ble_eq_true rfl, Nat.le_of_ble_eq_true rfl⟩).trans (vret_v e15)) ?_
      refine ru (rn_istore (pc := 871) (dd bL_law dL_law_871) (Nat.le_of_ble_eq_true rfl) (L2 := [(1, 2), (1, 3), (0, pl), (0, 1), (0, T), (0, t), (0, x), (0, y), (0, de), (0, p), (0, li), (0, si), (0, pc), (0, 0), (0, v18), v15, v16, v17]) rfl) ?_
      refine ru (rn_iload (pc := 873) (dd bL_law dL_law_873) rfl) ?_
      refine ru (rn_bipush (pc := 875) (dd bL_law dL_law_875) (by decide)) ?_
      refine ru ((rn_icmp_eq (t := 892) (pc := 877) (dd bL_law dL_law_877) rfl).trans (if_neg (by decide))) ?_
      refine ru (rn_iload (pc := 880) (dd bL_law dL_law_880) rfl) ?_
      refine ru ((rn_if_lt (t := 902) (pc := 882) (dd bL_law dL_law_882) rfl).trans (if_neg (by decide))) ?_
      refine ru (rn_iload (pc := 885) (dd bL_law dL_law_885) rfl) ?_
      refine ru (rn_bipush (pc := 887) (dd bL_law dL_law_887) (by decide)) ?_
      refine ru ((rn_icmp_ge (t := 902) (pc := 889) (dd bL_law dL_law_889) rfl).trans (if_neg (by decide))) ?_
      refine ru (rn_iload (pc := 892) (dd bL_law dL_law_892) rfl) ?_
      refine ru (rn_iconst (pc := 894) (dd bL_law dL_law_894) (by decide)) ?_
      refine ru ((rn_icmp_ge (t := 902) (pc := 895) (dd bL_law dL_law_895) rfl).trans (if_neg (by omega))) ?_
      refine ru (rn_iconst (pc := 898) (dd bL_law dL_law_898) (by decide)) ?_
      refine ru (rn_goto (t := 903) (pc := 899) (dd bL_law dL_law_899) rfl) ?_
      refine ru (rn_istore_n (pc := 903) (dd bL_law dL_law_903) (Nat.le_of_ble_eq_true rfl) (L2 := [(1, 2), (1, 3), (0, pl), (0, 1), (0, T), (0, t), (0, x), (0, y), (0, de), (0, p), (0, li), (0, si), (0, pc), (0, 0), (0, v18), v15, v16, v17]) rfl) ?_
      refine ru (rn_goto (t := 1474) (pc := 904) (dd bL_law dL_law_904) rfl) ?_
      exact K (JG_le J16 (by omega) (by omega)) (by omega)
  · refine ru ((rn_icmp_ge (t := 840) (pc := 803) (dd bL_law dL_law_803) rfl).trans (if_neg c1)) ?_
    refine ru (rn_aload_n (pc := 806) (dd bL_law dL_law_806) rfl) ?_
    refine ru (rn_bipush (pc := 807) (dd bL_law dL_law_807) (by decide)) ?_
    refine ru (rn_iload (pc := 809) (dd bL_law dL_law_809) rfl) ?_
    refine ru (rn_iload (pc := 811) (dd bL_law dL_law_811) rfl) ?_
    refine ru (rn_iload (pc := 813) (dd bL_law dL_law_813) rfl) ?_
    refine ru (rn_iconst (pc := 815) (dd bL_law dL_law_815) (by decide)) ?_
    refine ru (rg_iadd (pc := 816) (dd bL_law dL_law_816) (by omega) (by omega)) ?_
    refine ru (rn_iload (pc := 817) (dd bL_law dL_law_817) rfl) ?_
    refine ru (rn_bipush (pc := 819) (dd bL_law dL_law_819) (by decide)) ?_
    refine ab_ishr (pc := 821) (dd bL_law dL_law_821) (by unfold c32; omega) (fun t20 ht20 gt20 => ?_)
    have kt20 := gt20 (by omega)
    unfold c32 at ht20
    refine ru (rn_aload_n (pc := 822) (dd bL_law dL_law_822) rfl) ?_
    obtain ⟨h21, e22, J23⟩ := S_lines J3
    refine ru ((rg_virtual (pc := 823) (dd bL_law dL_law_823) rfl rfl (by decide) (kc := 33) rfl (jPL J3) (as := [(1, 3)]) rfl ⟨Nat.le_of_ble_eq_true rfl, Nat.le_of_ble_eq_true rfl, Nat.le_of_ble_eq_true rfl, Nat.le_of_ble_eq_true rfl⟩).trans (vret_v e22)) ?_
    refine ru (rn_iload (pc := 826) (dd bL_law dL_law_826) rfl) ?_
    refine ru (rg_isub (pc := 828) (dd bL_law dL_law_828) (by omega) (by omega)) ?_
    refine ru (rn_iconst (pc := 829) (dd bL_law dL_law_829) (by decide)) ?_
    refine ru (rg_isub (pc := 830) (dd bL_law dL_law_830) (by omega) (by omega)) ?_
    refine ab_irem (pc := 831) (dd bL_law dL_law_831) (by omega) (by omega) (fun t24 ht24 => ?_)
    refine ru (rg_iadd (pc := 832) (dd bL_law dL_law_832) (by omega) (by omega)) ?_
    refine ru (rn_iconst (pc := 833) (dd bL_law dL_law_833) (by decide)) ?_
    obtain ⟨h25, a28, v29, e26, J27, f30⟩ := O_fold (p := p) (f := li) (u := ((li + 1) + t24)) J23 (by omega) hp (by omega) (by omega)
    refine ru ((rg_static (pc := 834) (dd bL_law dL_law_834) rfl (by decide) (Nat.le_of_ble_eq_true rfl) (as := [(1, 3), (0, 8), (0, p), (0, li), (0, ((li + 1) + t24)), (0, 0)]) rfl rfl ⟨Nat.le_of_ble_eq_true rfl, Nat.le_of_ble_eq_true rfl, Nat.le_of_ble_eq_true rfl, Nat.le_of_ble_eq_true rfl⟩).trans (vret_v e26)) ?_
    refine ru (rn_goto (t := 841) (pc := 837) (dd bL_law dL_law_837) rfl) ?_
    refine ru (rn_istore (pc := 841) (dd bL_law dL_law_841) (Nat.le_of_ble_eq_true rfl) (L2 := [(1, 2), (1, 3), (0, pl), (0, 1), (0, T), (0, t), (0, x), (0, y), (0, de), (0, p), (0, li), (0, si), (0, pc), (0, v29), v14, v15, v16, v17]) rfl) ?_
    refine ru (rn_aload_n (pc := 843) (dd bL_law dL_law_843) rfl) ?_
    refine ru (rn_iload (pc := 844) (dd bL_law dL_law_844) rfl) ?_
    refine ru (rn_iload (pc := 846) (dd bL_law dL_law_846) rfl) ?_
    refine ru (rn_bipush (pc := 848) (dd bL_law dL_law_848) (by decide)) ?_
    refine ab_ishr (pc := 850) (dd bL_law dL_law_850) (by unfold c32; omega) (fun t31 ht31 gt31 => ?_)
    have kt31 := gt31 (by omega)
    unfold c32 at ht31
    refine ru (rn_iconst (pc := 851) (dd bL_law dL_law_851) (by decide)) ?_
    refine ab_irem (pc := 852) (dd bL_law dL_law_852) (by omega) (by omega) (fun t32 ht32 => ?_)
    refine ru (rn_iload (pc := 853) (dd bL_law dL_law_853) rfl) ?_
    refine ru (rn_bipush (pc := 855) (dd bL_law dL_law_855) (by decide)) ?_
    refine ab_ishr (pc := 857) (dd bL_law dL_law_857) (by unfold c32; omega) (fun t33 ht33 gt33 => ?_)
    have kt33 := gt33 (by omega)
    unfold c32 at ht33
    refine ru (rn_iconst (pc := 858) (dd bL_law dL_law_858) (by decide)) ?_
    refine ab_iand (pc := 859) (dd bL_law dL_law_859) (by decide) (fun t34 ht34 => ?_)
    by_cases c2 : t34 ≤ 0
    · refine ru ((rn_if_le (t := 867) (pc := 860) (dd bL_law dL_law_860) rfl).trans (if_pos c2)) ?_
      refine ru (rn_iconst (pc := 867) (dd bL_law dL_law_867) (by decide)) ?_
      obtain ⟨h35, a38, v39, e36, J37, f40⟩ := C_close9 (p := p) (x := t32) (v := 0) J27 hp (by omega) (by decide)
      refine ru ((rg_static (pc := 868) (dd bL_law dL_law_868) rfl (by decide) (Nat.le_of_ble_eq_true rfl) (as := [(1, 3), (0, p), (0, t32), (0, 0)]) rfl rfl ⟨Nat.le_of_ble_eq_true rfl, Nat.le_of_ble_eq_true rfl, Nat.le_of_ble_eq_true rfl, Nat.le_of_ble_eq_true rfl⟩).trans (vret_v e36)) ?_
      refine ru (rn_istore (pc := 871) (dd bL_law dL_law_871) (Nat.le_of_ble_eq_true rfl) (L2 := [(1, 2), (1, 3), (0, pl), (0, 1), (0, T), (0, t), (0, x), (0, y), (0, de), (0, p), (0, li), (0, si), (0, pc), (0, v29), (0, v39), v15, v16, v17]) rfl) ?_
      refine ru (rn_iload (pc := 873) (dd bL_law dL_law_873) rfl) ?_
      refine ru (rn_bipush (pc := 875) (dd bL_law dL_law_875) (by decide)) ?_
      by_cases c3 : v29 = (-13)
      · refine ru ((rn_icmp_eq (t := 892) (pc := 877) (dd bL_law dL_law_877) rfl).trans (if_pos c3)) ?_
        refine ru (rn_iload (pc := 892) (dd bL_law dL_law_892) rfl) ?_
        refine ru (rn_iconst (pc := 894) (dd bL_law dL_law_894) (by decide)) ?_
        refine ru ((rn_icmp_ge (t := 902) (pc := 895) (dd bL_law dL_law_895) rfl).trans (if_neg (by omega))) ?_
        refine ru (rn_iconst (pc := 898) (dd bL_law dL_law_898) (by decide)) ?_
        refine ru (rn_goto (t := 903) (pc := 899) (dd bL_law dL_law_899) rfl) ?_
        refine ru (rn_istore_n (pc := 903) (dd bL_law dL_law_903) (Nat.le_of_ble_eq_true rfl) (L2 := [(1, 2), (1, 3), (0, pl), (0, 1), (0, T), (0, t), (0, x), (0, y), (0, de), (0, p), (0, li), (0, si), (0, pc), (0, v29), (0, v39), v15, v16, v17]) rfl) ?_
        refine ru (rn_goto (t := 1474) (pc := 904) (dd bL_law dL_law_904) rfl) ?_
        exact K (JG_le J37 (by omega) (by omega)) (by omega)
      · refine ru ((rn_icmp_eq (t := 892) (pc := 877) (dd bL_law dL_law_877) rfl).trans (if_neg c3)) ?_
        refine ru (rn_iload (pc := 880) (dd bL_law dL_law_880) rfl) ?_
        refine ru ((rn_if_lt (t := 902) (pc := 882) (dd bL_law dL_law_882) rfl).trans (if_neg (by omega))) ?_
        refine ru (rn_iload (pc := 885) (dd bL_law dL_law_885) rfl) ?_
        refine ru (rn_bipush (pc := 887) (dd bL_law dL_law_887) (by decide)) ?_
        refine ru ((rn_icmp_ge (t := 902) (pc := 889) (dd bL_law dL_law_889) rfl).trans (if_neg (by omega))) ?_
        refine ru (rn_iload (pc := 892) (dd bL_law dL_law_892) rfl) ?_
        refine ru (rn_iconst (pc := 894) (dd bL_law dL_law_894) (by decide)) ?_
        refine ru ((rn_icmp_ge (t := 902) (pc := 895) (dd bL_law dL_law_895) rfl).trans (if_neg (by omega))) ?_
        refine ru (rn_iconst (pc := 898) (dd bL_law dL_law_898) (by decide)) ?_
        refine ru (rn_goto (t := 903) (pc := 899) (dd bL_law dL_law_899) rfl) ?_
        refine ru (rn_istore_n (pc := 903) (dd bL_law dL_law_903) (Nat.le_of_ble_eq_true rfl) (L2 := [(1, 2), (1, 3), (0, pl), (0, 1), (0, T), (0, t), (0, x), (0, y), (0, de), (0, p), (0, li), (0, si), (0, pc), (0, v29), (0, v39), v15, v16, v17]) rfl) ?_
        refine ru (rn_goto (t := 1474) (pc := 904) (dd bL_law dL_law_904) rfl) ?_
        exact K (JG_le J37 (by omega) (by omega)) (by omega)
    · refine ru ((rn_if_le (t := 867) (pc := 860) (dd bL_law dL_law_860) rfl).trans (if_neg c2)) ?_
      refine ru (rn_iconst (pc := 863) (dd bL_law dL_law_863) (by decide)) ?_
      refine ru (rn_goto (t := 868) (pc := 864) (dd bL_law dL_law_864) rfl) ?_
      obtain ⟨h41, a44, v45, e42, J43, f46⟩ := C_close9 (p := p) (x := t32) (v := 1) J27 hp (by omega) (by decide)
      refine ru ((rg_static (pc := 868) (dd bL_law dL_law_868) rfl (by decide) (Nat.le_of_ble_eq_true rfl) (as := [(1, 3), (0, p), (0, t32), (0, 1)]) rfl rfl ⟨Nat.le_of_ble_eq_true rfl, Nat.le_of_ble_eq_true rfl, Nat.le_of_ble_eq_true rfl, Nat.le_of_ble_eq_true rfl⟩).trans (vret_v e42)) ?_
      refine ru (rn_istore (pc := 871) (dd bL_law dL_law_871) (Nat.le_of_ble_eq_true rfl) (L2 := [(1, 2), (1, 3), (0, pl), (0, 1), (0, T), (0, t), (0, x), (0, y), (0, de), (0, p), (0, li), (0, si), (0, pc), (0, v29), (0, v45), v15, v16, v17]) rfl) ?_
      refine ru (rn_iload (pc := 873) (dd bL_law dL_law_873) rfl) ?_
      refine ru (rn_bipush (pc := 875) (dd bL_law dL_law_875) (by decide)) ?_
      by_cases c3 : v29 = (-13)
      · refine ru ((rn_icmp_eq (t := 892) (pc := 877) (dd bL_law dL_law_877) rfl).trans (if_pos c3)) ?_
        refine ru (rn_iload (pc := 892) (dd bL_law dL_law_892) rfl) ?_
        refine ru (rn_iconst (pc := 894) (dd bL_law dL_law_894) (by decide)) ?_
        refine ru ((rn_icmp_ge (t := 902) (pc := 895) (dd bL_law dL_law_895) rfl).trans (if_neg (by omega))) ?_
        refine ru (rn_iconst (pc := 898) (dd bL_law dL_law_898) (by decide)) ?_
        refine ru (rn_goto (t := 903) (pc := 899) (dd bL_law dL_law_899) rfl) ?_
        refine ru (rn_istore_n (pc := 903) (dd bL_law dL_law_903) (Nat.le_of_ble_eq_true rfl) (L2 := [(1, 2), (1, 3), (0, pl), (0, 1), (0, T), (0, t), (0, x), (0, y), (0, de), (0, p), (0, li), (0, si), (0, pc), (0, v29), (0, v45), v15, v16, v17]) rfl) ?_
        refine ru (rn_goto (t := 1474) (pc := 904) (dd bL_law dL_law_904) rfl) ?_
        exact K (JG_le J43 (by omega) (by omega)) (by omega)
      · refine ru ((rn_icmp_eq (t := 892) (pc := 877) (dd bL_law dL_law_877) rfl).trans (if_neg c3)) ?_
        refine ru (rn_iload (pc := 880) (dd bL_law dL_law_880) rfl) ?_
        refine ru ((rn_if_lt (t := 902) (pc := 882) (dd bL_law dL_law_882) rfl).trans (if_neg (by omega))) ?_
        refine ru (rn_iload (pc := 885) (dd bL_law dL_law_885) rfl) ?_
        refine ru (rn_bipush (pc := 887) (dd bL_law dL_law_887) (by decide)) ?_
        refine ru ((rn_icmp_ge (t := 902) (pc := 889) (dd bL_law dL_law_889) rfl).trans (if_neg (by omega))) ?_
        refine ru (rn_iload (pc := 892) (dd bL_law dL_law_892) rfl) ?_
        refine ru (rn_iconst (pc := 894) (dd bL_law dL_law_894) (by decide)) ?_
        refine ru ((rn_icmp_ge (t := 902) (pc := 895) (dd bL_law dL_law_895) rfl).trans (if_neg (by omega))) ?_
        refine ru (rn_iconst (pc := 898) (dd bL_law dL_law_898) (by decide)) ?_
        refine ru (rn_goto (t := 903) (pc := 899) (dd bL_law dL_law_899) rfl) ?_
        refine ru (rn_istore_n (pc := 903) (dd bL_law dL_law_903) (Nat.le_of_ble_eq_true rfl) (L2 := [(1, 2), (1, 3), (0, pl), (0, 1), (0, T), (0, t), (0, x), (0, y), (0, de), (0, p), (0, li), (0, si), (0, pc), (0, v29), (0, v45), v15, v16, v17]) rfl) ?_
        refine ru (rn_goto (t := 1474) (pc := 904) (dd bL_law dL_law_904) rfl) ?_
        exact K (JG_le J43 (by omega) (by omega)) (by omega)
theorem lw_d9 {h a : vH} {n m : Int} {pl T t x y de p li si pc : Int} {v13 v14 v15 v16 v17 : vv} {Q : vR → vH → Prop} (j : JG n m h a) (hn : 0 ≤ n ∧ n ≤ 8000) (hpl : 0 ≤ pl ∧ pl ≤ 4) (hp : 0 ≤ p ∧ p < 4) (hy : 0 ≤ y ∧ y ≤ 268435455) (hl : 0 ≤ li ∧ li < a 1504 282 0) (hsi : si = a 2 284 li) (hx : 0 ≤ pc ∧ pc ≤ si) (hd : de = 9) (K : ∀ {h1 a1 : vH} {pl1 : Int} {v13 v14 v15 v16 v17 : vv}, JG (n + 8) (m + 60) h1 a1 → 0 ≤ pl1 ∧ pl1 ≤ 4 → Ru Q (vrun mL_law 1474 [(1, 2), (1, 3), (0, pl1), (0, 1), (0, T), (0, t), (0, x), (0, y), (0, de), (0, p), (0, li), (0, si), (0, pc), v13, v14, v15, v16, v17] [] h1)) : Ru Q (vrun mL_law 180 [(1, 2), (1, 3), (0, pl), (0, 1), (0, T), (0, t), (0, x), (0, y), (0, de), (0, p), (0, li), (0, si), (0, pc), v13, v14, v15, v16, v17] [] h) := by
  have gl := j.2.1.1.1.1.1.2.1
  have gn := j.2.1.1.1.1.1.2.2.1 li hl.1 (by omega)
  refine ru (rn_iload (pc := 180) (dd bL_law dL_law_180) rfl) ?_
  refine ru (rn_iconst (pc := 182) (dd bL_law dL_law_182) (by decide)) ?_
  refine ru ((rn_icmp_ge (t := 346) (pc := 183) (dd bL_law dL_law_183) rfl).trans (if_pos (by omega))) ?_
  refine ru (rn_iload (pc := 346) (dd bL_law dL_law_346) rfl) ?_
  refine ru (rn_iconst (pc := 348) (dd bL_law dL_law_348) (by decide)) ?_
  refine ru ((rn_icmp_ne (t := 504) (pc := 349) (dd bL_law dL_law_349) rfl).trans (if_pos (by omega))) ?_
  refine ru (rn_iload (pc := 504) (dd bL_law dL_law_504) rfl) ?_
  refine ru (rn_iconst (pc := 506) (dd bL_law dL_law_506) (by decide)) ?_
  refine ru ((rn_icmp_ne (t := 582) (pc := 507) (dd bL_law dL_law_507) rfl).trans (if_pos (by omega))) ?_
  refine ru (rn_iload (pc := 582) (dd bL_law dL_law_582) rfl) ?_
  refine ru (rn_iconst (pc := 584) (dd bL_law dL_law_584) (by decide)) ?_
  refine ru ((rn_icmp_ne (t := 651) (pc := 585) (dd bL_law dL_law_585) rfl).trans (if_pos (by omega))) ?_
  refine ru (rn_iload (pc := 651) (dd bL_law dL_law_651) rfl) ?_
  refine ru (rn_bipush (pc := 653) (dd bL_law dL_law_653) (by decide)) ?_
  refine ru ((rn_icmp_ne (t := 727) (pc := 655) (dd bL_law dL_law_655) rfl).trans (if_pos (by omega))) ?_
  refine ru (rn_iload (pc := 727) (dd bL_law dL_law_727) rfl) ?_
  refine ru (rn_bipush (pc := 729) (dd bL_law dL_law_729) (by decide)) ?_
  refine ru ((rn_icmp_ne (t := 788) (pc := 731) (dd bL_law dL_law_731) rfl).trans (if_pos (by omega))) ?_
  refine ru (rn_iload (pc := 788) (dd bL_law dL_law_788) rfl) ?_
  refine ru (rn_bipush (pc := 790) (dd bL_law dL_law_790) (by decide)) ?_
  refine ru ((rn_icmp_ne (t := 907) (pc := 792) (dd bL_law dL_law_792) rfl).trans (if_pos (by omega))) ?_
  refine ru (rn_iload (pc := 907) (dd bL_law dL_law_907) rfl) ?_
  refine ru (rn_bipush (pc := 909) (dd bL_law dL_law_909) (by decide)) ?_
  refine ru ((rn_icmp_ne (t := 976) (pc := 911) (dd bL_law dL_law_911) rfl).trans (if_neg (by omega))) ?_
  refine ru (rn_iload (pc := 914) (dd bL_law dL_law_914) rfl) ?_
  refine ru (rn_iconst (pc := 916) (dd bL_law dL_law_916) (by decide)) ?_
  refine ab_ishr (pc := 917) (dd bL_law dL_law_917) (by unfold c32; omega) (fun t1 ht1 gt1 => ?_)
  have kt1 := gt1 (by omega)
  unfold c32 at ht1
  refine ru (rn_iconst (pc := 918) (dd bL_law dL_law_918) (by decide)) ?_
  refine ab_iand (pc := 919) (dd bL_law dL_law_919) (by decide) (fun t2 ht2 => ?_)
  by_cases c1 : t2 ≠ 0
  · refine ru ((rn_if_ne (t := 936) (pc := 920) (dd bL_law dL_law_920) rfl).trans (if_pos c1)) ?_
    refine ru (rn_aload_n (pc := 936) (dd bL_law dL_law_936) rfl) ?_
    refine ru (rn_iconst (pc := 937) (dd bL_law dL_law_937) (by decide)) ?_
    refine ru (rn_iload (pc := 938) (dd bL_law dL_law_938) rfl) ?_
    refine ru (rn_iconst (pc := 940) (dd bL_law dL_law_940) (by decide)) ?_
    refine ru (rn_iconst (pc := 941) (dd bL_law dL_law_941) (by decide)) ?_
    refine ru (rn_iconst (pc := 942) (dd bL_law dL_law_942) (by decide)) ?_
    obtain ⟨h3, a6, v7, e4, J5, f8⟩ := O_close (p := p) j hp
    refine ru ((rg_static (pc := 943) (dd bL_law dL_law_943) rfl (by decide) (Nat.le_of_ble_eq_true rfl) (as := [(1, 3), (0, 4), (0, p), (0, 0), (0, 0), (0, 0)]) rfl rfl ⟨Nat.le_of_ble_eq_true rfl, Nat.le_of_ble_eq_true rfl, Nat.le_of_ble_eq_true rfl, Nat.le_of_ble_eq_true rfl⟩).trans (vret_v e4)) ?_
    refine ru (rn_istore (pc := 946) (dd bL_law dL_law_946) (Nat.le_of_ble_eq_true rfl) (L2 := [(1, 2), (1, 3), (0, pl), (0, 1), (0, T), (0, t), (0, x), (0, y), (0, de), (0, p), (0, li), (0, si), (0, pc), (0, v7), v14, v15, v16, v17]) rfl) ?_
    refine ru (rn_iload (pc := 948) (dd bL_law dL_law_948) rfl) ?_
    refine ru (rn_bipush (pc := 950) (dd bL_law dL_law_950) (by decide)) ?_
    by_cases c2 : v7 = (-13)
    · refine ru ((rn_icmp_eq (t := 967) (pc := 952) (dd bL_law dL_law_952) rfl).trans (if_pos c2)) ?_
      refine ru (rn_iconst (pc := 967) (dd bL_law dL_law_967) (by decide)) ?_
      refine ru (rn_goto (t := 972) (pc := 968) (dd bL_law dL_law_968) rfl) ?_
      refine ru (rn_istore_n (pc := 972) (dd bL_law dL_law_972) (Nat.le_of_ble_eq_true rfl) (L2 := [(1, 2), (1, 3), (0, pl), (0, 1), (0, T), (0, t), (0, x), (0, y), (0, de), (0, p), (0, li), (0, si), (0, pc), (0, v7), v14, v15, v16, v17]) rfl) ?_
      refine ru (rn_goto (t := 1474) (pc := 973) (dd bL_law dL_law_973) rfl) ?_
      exact K (JG_le J5 (by omega) (by omega)) (by omega)
    · refine ru ((rn_icmp_eq (t := 967) (pc := 952) (dd bL_law dL_law_952) rfl).trans (if_neg c2)) ?_
      refine ru (rn_iload (pc := 955) (dd bL_law dL_law_955) rfl) ?_
      refine ru ((rn_if_le (t := 971) (pc := 957) (dd bL_law dL_law_957) rfl).trans (if_neg (by omega))) ?_
      refine ru (rn_iload (pc := 960) (dd bL_law dL_law_960) rfl) ?_
      refine ru (rn_bipush (pc := 962) (dd bL_law dL_law_962) (by decide)) ?_
      refine ru ((rn_icmp_gt (t := 971) (pc := 964) (dd bL_law dL_law_964) rfl).trans (if_neg (by omega))) ?_
      refine ru (rn_iconst (pc := 967) (dd bL_law dL_law_967) (by decide)) ?_
      refine ru (rn_goto (t := 972) (pc := 968) (dd bL_law dL_law_968) rfl) ?_
      refine ru (rn_istore_n (pc := 972) (dd bL_law dL_law_972) (Nat.le_of_ble_eq_true rfl) (L2 := [(1, 2), (1, 3), (0, pl), (0, 1), (0, T), (0, t), (0, x), (0, y), (0, de), (0, p), (0, li), (0, si), (0, pc), (0, v7), v14, v15, v16, v17]) rfl) ?_
      refine ru (rn_goto (t := 1474) (pc := 973) (dd bL_law dL_law_973) rfl) ?_
      exact K (JG_le J5 (by omega) (by omega)) (by omega)
  · refine ru ((rn_if_ne (t := 936) (pc := 920) (dd bL_law dL_law_920) rfl).trans (if_neg c1)) ?_
    refine ru (rn_aload_n (pc := 923) (dd bL_law dL_law_923) rfl) ?_
    refine ru (rn_iconst (pc := 924) (dd bL_law dL_law_924) (by decide)) ?_
    refine ru (rn_iload (pc := 925) (dd bL_law dL_law_925) rfl) ?_
    refine ru (rn_iconst (pc := 927) (dd bL_law dL_law_927) (by decide)) ?_
    refine ru (rn_iconst (pc := 928) (dd bL_law dL_law_928) (by decide)) ?_
    refine ru (rn_iconst (pc := 929) (dd bL_law dL_law_929) (by decide)) ?_
    obtain ⟨h9, a12, v13, e10, J11, f14⟩ := O_open (p := p) j hp
    refine ru ((rg_static (pc := 930) (dd bL_law dL_law_930) rfl (by decide) (Nat.le_of_ble_eq_true rfl) (as := [(1, 3), (0, 3), (0, p), (0, 0), (0, 0), (0, 0)]) rfl rfl ⟨Nat.le_of_ble_eq_true rfl, Nat.le_of_ble_eq_true rfl, Nat.le_of_ble_eq_true rfl, Nat.le_of_ble_eq_true rfl⟩).trans (vret_v e10)) ?_
    refine ru (rn_goto (t := 946) (pc := 933) (dd bL_law dL_law_933) rfl) ?_
    refine ru (rn_istore (pc := 946) (dd bL_law dL_law_946) (Nat.le_of_ble_eq_true rfl) (L2 := [(1, 2), (1, 3), (0, pl), (0, 1), (0, T), (0, t), (0, x), (0, y), (0, de), (0, p), (0, li), (0, si), (0, pc), (0, v13), v14, v15, v16, v17]) rfl) ?_
    refine ru (rn_iload (pc := 948) (dd bL_law dL_law_948) rfl) ?_
    refine ru (rn_bipush (pc := 950) (dd bL_law dL_law_950) (by decide)) ?_
    by_cases c2 : v13 = (-13)
    · refine ru ((rn_icmp_eq (t := 967) (pc := 952) (dd bL_law dL_law_952) rfl).trans (if_pos c2)) ?_
      refine ru (rn_iconst (pc := 967) (dd bL_law dL_law_967) (by decide)) ?_
      refine ru (rn_goto (t := 972) (pc := 968) (dd bL_law dL_law_968) rfl) ?_
      refine ru (rn_istore_n (pc := 972) (dd bL_law dL_law_972) (Nat.le_of_ble_eq_true rfl) (L2 := [(1, 2), (1, 3), (0, pl), (0, 1), (0, T), (0, t), (0, x), (0, y), (0, de), (0, p), (0, li), (0, si), (0, pc), (0, v13), v14, v15, v16, v17]) rfl) ?_
      refine ru (rn_goto (t := 1474) (pc := 973) (dd bL_law dL_law_973) rfl) ?_
      exact K (JG_le J11 (by omega) (by omega)) (by omega)
    · refine ru ((rn_icmp_eq (t := 967) (pc := 952) (dd bL_law dL_law_952) rfl).trans (if_neg c2)) ?_
      refine ru (rn_iload (pc := 955) (dd bL_law dL_law_955) rfl) ?_
      refine ru ((rn_if_le (t := 971) (pc := 957) (dd bL_law dL_law_957) rfl).trans (if_neg (by omega))) ?_
      refine ru (rn_iload (pc := 960) (dd bL_law dL_law_960) rfl) ?_
      refine ru (rn_bipush (pc := 962) (dd bL_law dL_law_962) (by decide)) ?_
      refine ru ((rn_icmp_gt (t := 971) (pc := 964) (dd bL_law dL_law_964) rfl).trans (if_neg (by omega))) ?_
      refine ru (rn_iconst (pc := 967) (dd bL_law dL_law_967) (by decide)) ?_
      refine ru (rn_goto (t := 972) (pc := 968) (dd bL_law dL_law_968) rfl) ?_
      refine ru (rn_istore_n (pc := 972) (dd bL_law dL_law_972) (Nat.le_of_ble_eq_true rfl) (L2 := [(1, 2), (1, 3), (0, pl), (0, 1), (0, T), (0, t), (0, x), (0, y), (0, de), (0, p), (0, li), (0, si), (0, pc), (0, v13), v14, v15, v16, v17]) rfl) ?_
      refine ru (rn_goto (t := 1474) (pc := 973) (dd bL_law dL_law_973) rfl) ?_
      exact K (JG_le J11 (by omega) (by omega)) (by omega)
theorem lw_d10 {h a : vH} {n m : Int} {pl T t x y de p li si pc : Int} {v13 v14 v15 v16 v17 : vv} {Q : vR → vH → Prop} (j : JG n m h a) (hn : 0 ≤ n ∧ n ≤ 8000) (hpl : 0 ≤ pl ∧ pl ≤ 4) (hp : 0 ≤ p ∧ p < 4) (hy : 0 ≤ y ∧ y ≤ 268435455) (hl : 0 ≤ li ∧ li < a 1504 282 0) (hsi : si = a 2 284 li) (hx : 0 ≤ pc ∧ pc ≤ si) (hd : de = 10) (K : ∀ {h1 a1 : vH} {pl1 : Int} {v13 v14 v15 v16 v17 : vv}, JG (n + 8) (m + 60) h1 a1 → 0 ≤ pl1 ∧ pl1 ≤ 4 → Ru Q (vrun mL_law 1474 [(1, 2), (1, 3), (0, pl1), (0, 1), (0, T), (0, t), (0, x), (0, y), (0, de), (0, p), (0, li), (0, si), (0, pc), v13, v14, v15, v16, v17] [] h1)) : Ru Q (vrun mL_law 180 [(1, 2), (1, 3), (0, pl), (0, 1), (0, T), (0, t), (0, x), (0, y), (0, de), (0, p), (0, li), (0, si), (0, pc), v13, v14, v15, v16, v17] [] h) := by
  have gl := j.2.1.1.1.1.1.2.1
  have gn := j.2.1.1.1.1.1.2.2.1 li hl.1 (by omega)
  refine ru (rn_iload (pc := 180) (dd bL_law dL_law_180) rfl) ?_
  refine ru (rn_iconst (pc := 182) (dd bL_law dL_law_182) (by decide)) ?_
  refine ru ((rn_icmp_ge (t := 346) (pc := 183) (dd bL_law dL_law_183) rfl).trans (if_pos (by omega))) ?_
  refine ru (rn_iload (pc := 346) (dd bL_law dL_law_346) rfl) ?_
  refine ru (rn_iconst (pc := 348) (dd bL_law dL_law_348) (by decide)) ?_
  refine ru ((rn_icmp_ne (t := 504) (pc := 349) (dd bL_law dL_law_349) rfl).trans (if_pos (by omega))) ?_
  refine ru (rn_iload (pc := 504) (dd bL_law dL_law_504) rfl) ?_
  refine ru (rn_iconst (pc := 506) (dd bL_law dL_law_506) (by decide)) ?_
  refine ru ((rn_icmp_ne (t := 582) (pc := 507) (dd bL_law dL_law_507) rfl).trans (if_pos (by omega))) ?_
  refine ru (rn_iload (pc := 582) (dd bL_law dL_law_582) rfl) ?_
  refine ru (rn_iconst (pc := 584) (dd bL_law dL_law_584) (by decide)) ?_
  refine ru ((rn_icmp_ne (t := 651) (pc := 585) (dd bL_law dL_law_585) rfl).trans (if_pos (by omega))) ?_
  refine ru (rn_iload (pc := 651) (dd bL_law dL_law_651) rfl) ?_
  refine ru (rn_bipush (pc := 653) (dd bL_law dL_law_653) (by decide)) ?_
  refine ru ((rn_icmp_ne (t := 727) (pc := 655) (dd bL_law dL_law_655) rfl).trans (if_pos (by omega))) ?_
  refine ru (rn_iload (pc := 727) (dd bL_law dL_law_727) rfl) ?_
  refine ru (rn_bipush (pc := 729) (dd bL_law dL_law_729) (by decide)) ?_
  refine ru ((rn_icmp_ne (t := 788) (pc := 731) (dd bL_law dL_law_731) rfl).trans (if_pos (by omega))) ?_
  refine ru (rn_iload (pc := 788) (dd bL_law dL_law_788) rfl) ?_
  refine ru (rn_bipush (pc := 790) (dd bL_law dL_law_790) (by decide)) ?_
  refine ru ((rn_icmp_ne (t := 907) (pc := 792) (dd bL_law dL_law_792) rfl).trans (if_pos (by omega))) ?_
  refine ru (rn_iload (pc := 907) (dd bL_law dL_law_907) rfl) ?_
  refine ru (rn_bipush (pc := 909) (dd bL_law dL_law_909) (by decide)) ?_
  refine ru ((rn_icmp_ne (t := 976) (pc := 911) (dd bL_law dL_law_911) rfl).trans (if_pos (by omega))) ?_
  refine ru (rn_iload (pc := 976) (dd bL_law dL_law_976) rfl) ?_
  refine ru (rn_bipush (pc := 978) (dd bL_law dL_law_978) (by decide)) ?_
  refine ru ((rn_icmp_ne (t := 1062) (pc := 980) (dd bL_law dL_law_980) rfl).trans (if_neg (by omega))) ?_
  refine ru (rn_aload_n (pc := 983) (dd bL_law dL_law_983) rfl) ?_
  refine ru (rn_iconst (pc := 984) (dd bL_law dL_law_984) (by decide)) ?_
  refine ru (rn_iload (pc := 985) (dd bL_law dL_law_985) rfl) ?_
  refine ru (rn_iconst (pc := 987) (dd bL_law dL_law_987) (by decide)) ?_
  refine ru (rn_iload (pc := 988) (dd bL_law dL_law_988) rfl) ?_
  refine ru (rn_iconst (pc := 990) (dd bL_law dL_law_990) (by decide)) ?_
  refine ab_ishr (pc := 991) (dd bL_law dL_law_991) (by unfold c32; omega) (fun t1 ht1 gt1 => ?_)
  have kt1 := gt1 (by omega)
  unfold c32 at ht1
  refine ru (rn_bipush (pc := 992) (dd bL_law dL_law_992) (by decide)) ?_
  refine ab_irem (pc := 994) (dd bL_law dL_law_994) (by omega) (by omega) (fun t2 ht2 => ?_)
  refine ru (rg_iadd (pc := 995) (dd bL_law dL_law_995) (by omega) (by omega)) ?_
  refine ru (rn_iconst (pc := 996) (dd bL_law dL_law_996) (by decide)) ?_
  refine ru (rn_iload (pc := 997) (dd bL_law dL_law_997) rfl) ?_
  refine ru (rn_bipush (pc := 999) (dd bL_law dL_law_999) (by decide)) ?_
  refine ab_ishr (pc := 1001) (dd bL_law dL_law_1001) (by unfold c32; omega) (fun t3 ht3 gt3 => ?_)
  have kt3 := gt3 (by omega)
  unfold c32 at ht3
  refine ru (rn_bipush (pc := 1002) (dd bL_law dL_law_1002) (by decide)) ?_
  refine ab_irem (pc := 1004) (dd bL_law dL_law_1004) (by omega) (by omega) (fun t4 ht4 => ?_)
  refine ru (rg_iadd (pc := 1005) (dd bL_law dL_law_1005) (by omega) (by omega)) ?_
  refine ru (rn_iload (pc := 1006) (dd bL_law dL_law_1006) rfl) ?_
  refine ru (rn_bipush (pc := 1008) (dd bL_law dL_law_1008) (by decide)) ?_
  refine ab_ishr (pc := 1010) (dd bL_law dL_law_1010) (by unfold c32; omega) (fun t5 ht5 gt5 => ?_)
  have kt5 := gt5 (by omega)
  unfold c32 at ht5
  refine ru (rn_iconst (pc := 1011) (dd bL_law dL_law_1011) (by decide)) ?_
  refine ab_iand (pc := 1012) (dd bL_law dL_law_1012) (by decide) (fun t6 ht6 => ?_)
  by_cases c1 : t6 ≠ 0
  · refine ru ((rn_if_ne (t := 1020) (pc := 1013) (dd bL_law dL_law_1013) rfl).trans (if_pos c1)) ?_
    refine ru (rn_iconst (pc := 1020) (dd bL_law dL_law_1020) (by decide)) ?_
    refine ru (rn_iload (pc := 1021) (dd bL_law dL_law_1021) rfl) ?_
    refine ru (rn_bipush (pc := 1023) (dd bL_law dL_law_1023) (by decide)) ?_
    refine ab_ishr (pc := 1025) (dd bL_law dL_law_1025) (by unfold c32; omega) (fun t7 ht7 gt7 => ?_)
    have kt7 := gt7 (by omega)
    unfold c32 at ht7
    refine ru (rn_bipush (pc := 1026) (dd bL_law dL_law_1026) (by decide)) ?_
    refine ab_irem (pc := 1028) (dd bL_law dL_law_1028) (by omega) (by omega) (fun t8 ht8 => ?_)
    refine ru (rg_iadd (pc := 1029) (dd bL_law dL_law_1029) (by omega) (by omega)) ?_
    obtain ⟨h9, a12, v13, e10, J11, f14⟩ := O_share (p := p) (w := (1 + t2)) (l := (1 + t4)) (s := (1 + t8)) j hp (by omega) (by omega) (by omega)
    refine ru ((rg_static (pc := 1030) (dd bL_law dL_law_1030) rfl (by decide) (Nat.le_of_ble_eq_true rfl) (as := [(1, 3), (0, 5), (0, p), (0, (1 + t2)), (0, (1 + t4)), (0, (1 + t8))]) rfl rfl ⟨Nat.le_of_ble_eq_true rfl, Nat.le_of_ble_eq_true rfl, Nat.le_of_ble_eq_true rfl, Nat.le_of_ble_eq_true rfl⟩).trans (vret_v e10)) ?_
    refine ru (rn_istore (pc := 1033) (dd bL_law dL_law_1033) (Nat.le_of_ble_eq_true rfl) (L2 := [(1, 2), (1, 3), (0, pl), (0, 1), (0, T), (0, t), (0, x), (0, y), (0, de), (0, p), (0, li), (0, si), (0, pc), (0, v13), v14, v15, v16, v17]) rfl) ?_
    refine ru (rn_iload (pc := 1035) (dd bL_law dL_law_1035) rfl) ?_
    refine ru (rn_bipush (pc := 1037) (dd bL_law dL_law_1037) (by decide)) ?_
    by_cases c2 : v13 = (-13)
    · refine ru ((rn_icmp_eq (t := 1053) (pc := 1039) (dd bL_law dL_law_1039) rfl).trans (if_pos c2)) ?_
      refine ru (rn_iconst (pc := 1053) (dd bL_law dL_law_1053) (by decide)) ?_
      refine ru (rn_goto (t := 1058) (pc := 1054) (dd bL_law dL_law_1054) rfl) ?_
      refine ru (rn_istore_n (pc := 1058) (dd bL_law dL_law_1058) (Nat.le_of_ble_eq_true rfl) (L2 := [(1, 2), (1, 3), (0, pl), (0, 1), (0, T), (0, t), (0, x), (0, y), (0, de), (0, p), (0, li), (0, si), (0, pc), (0, v13), v14, v15, v16, v17]) rfl) ?_
      refine ru (rn_goto (t := 1474) (pc := 1059) (dd bL_law dL_law_1059) rfl) ?_
      exact K (JG_le J11 (by omega) (by omega)) (by omega)
    · refine ru ((rn_icmp_eq (t := 1053) (pc := 1039) (dd bL_law dL_law_1039) rfl).trans (if_neg c2)) ?_
      refine ru (rn_iload (pc := 1042) (dd bL_law dL_law_1042) rfl) ?_
      refine ru (rn_aload_n (pc := 1044) (dd bL_law dL_law_1044) rfl) ?_
      refine ru (rn_iload (pc := 1045) (dd bL_law dL_law_1045) rfl) ?_
      obtain ⟨h15, e16, J17⟩ := S_height (p := p) J11 (by omega)
      refine ru ((rg_virtual (pc := 1047) (dd bL_law dL_law_1047) rfl rfl (by decide) (kc := 33) rfl (jPL J11) (as := [(1, 3), (0, p)]) rfl ⟨Nat.le_of_ble_eq_true rfl, Nat.le_of_ble_eq_true rfl, Nat.le_of_ble_eq_true rfl, Nat.le_of_ble_eq_true rfl⟩).trans (vret_v e16)) ?_
      refine ru ((rn_icmp_ne (t := 1057) (pc := 1050) (dd bL_law dL_law_1050) rfl).trans (if_neg (by omega))) ?_
      refine ru (rn_iconst (pc := 1053) (dd bL_law dL_law_1053) (by decide)) ?_
      refine ru (rn_goto (t := 1058) (pc := 1054) (dd bL_law dL_law_1054) rfl) ?_
      refine ru (rn_istore_n (pc := 1058) (dd bL_law dL_law_1058) (Nat.le_of_ble_eq_true rfl) (L2 := [(1, 2), (1, 3), (0, pl), (0, 1), (0, T), (0, t), (0, x), (0, y), (0, de), (0, p), (0, li), (0, si), (0, pc), (0, v13), v14, v15, v16, v17]) rfl) ?_
      refine ru (rn_goto (t := 1474) (pc := 1059) (dd bL_law dL_law_1059) rfl) ?_
      exact K (JG_le J17 (by omega) (by omega)) (by omega)
  · refine ru ((rn_if_ne (t := 1020) (pc := 1013) (dd bL_law dL_law_1013) rfl).trans (if_neg c1)) ?_
    refine ru (rn_iconst (pc := 1016) (dd bL_law dL_law_1016) (by decide)) ?_
    refine ru (rn_goto (t := 1030) (pc := 1017) (dd bL_law dL_law_1017) rfl) ?_
    obtain ⟨h18, a21, v22, e19, J20, f23⟩ := O_share (p := p) (w := (1 + t2)) (l := (1 + t4)) (s := (-1)) j hp (by omega) (by omega) (by omega)
    refine ru ((rg_static (pc := 1030) (dd bL_law dL_law_1030) rfl (by decide) (Nat.le_of_ble_eq_true rfl) (as := [(1, 3), (0, 5), (0, p), (0, (1 + t2)), (0, (1 + t4)), (0, (-1))]) rfl rfl ⟨Nat.le_of_ble_eq_true rfl, Nat.le_of_ble_eq_true rfl, Nat.le_of_ble_eq_true rfl, Nat.le_of_ble_eq_true rfl⟩).trans (vret_v e19)) ?_
    refine ru (rn_istore (pc := 1033) (dd bL_law dL_law_1033) (Nat.le_of_ble_eq_true rfl) (L2 := [(1, 2), (1, 3), (0, pl), (0, 1), (0, T), (0, t), (0, x), (0, y), (0, de), (0, p), (0, li), (0, si), (0, pc), (0, v22), v14, v15, v16, v17]) rfl) ?_
    refine ru (rn_iload (pc := 1035) (dd bL_law dL_law_1035) rfl) ?_
    refine ru (rn_bipush (pc := 1037) (dd bL_law dL_law_1037) (by decide)) ?_
    by_cases c2 : v22 = (-13)
    · refine ru ((rn_icmp_eq (t := 1053) (pc := 1039) (dd bL_law dL_law_1039) rfl).trans (if_pos c2)) ?_
      refine ru (rn_iconst (pc := 1053) (dd bL_law dL_law_1053) (by decide)) ?_
      refine ru (rn_goto (t := 1058) (pc := 1054) (dd bL_law dL_law_1054) rfl) ?_
      refine ru (rn_istore_n (pc := 1058) (dd bL_law dL_law_1058) (Nat.le_of_ble_eq_true rfl) (L2 := [(1, 2), (1, 3), (0, pl), (0, 1), (0, T), (0, t), (0, x), (0, y), (0, de), (0, p), (0, li), (0, si), (0, pc), (0, v22), v14, v15, v16, v17]) rfl) ?_
      refine ru (rn_goto (t := 1474) (pc := 1059) (dd bL_law dL_law_1059) rfl) ?_
      exact K (JG_le J20 (by omega) (by omega)) (by omega)
    · refine ru ((rn_icmp_eq (t := 1053) (pc := 1039) (dd bL_law dL_law_1039) rfl).trans (if_neg c2)) ?_
      refine ru (rn_iload (pc := 1042) (dd bL_law dL_law_1042) rfl) ?_
      refine ru (rn_aload_n (pc := 1044) (dd bL_law dL_law_1044) rfl) ?_
      refine ru (rn_iload (pc := 1045) (dd bL_law dL_law_1045) rfl) ?_
      obtain ⟨h24, e25, J26⟩ := S_height (p := p) J20 (by omega)
      refine ru ((rg_virtual (pc := 1047) (dd bL_law dL_law_1047) rfl rfl (by decide) (kc := 33) rfl (jPL J20) (as := [(1, 3), (0, p)]) rfl ⟨Nat.le_of_ble_eq_true rfl, Nat.le_of_ble_eq_true rfl, Nat.le_of_ble_eq_true rfl, Nat.le_of_ble_eq_true rfl⟩).trans (vret_v e25)) ?_
      refine ru ((rn_icmp_ne (t := 1057) (pc := 1050) (dd bL_law dL_law_1050) rfl).trans (if_neg (by omega))) ?_
      refine ru (rn_iconst (pc := 1053) (dd bL_law dL_law_1053) (by decide)) ?_
      refine ru (rn_goto (t := 1058) (pc := 1054) (dd bL_law dL_law_1054) rfl) ?_
      refine ru (rn_istore_n (pc := 1058) (dd bL_law dL_law_1058) (Nat.le_of_ble_eq_true rfl) (L2 := [(1, 2), (1, 3), (0, pl), (0, 1), (0, T), (0, t), (0, x), (0, y), (0, de), (0, p), (0, li), (0, si), (0, pc), (0, v22), v14, v15, v16, v17]) rfl) ?_
      refine ru (rn_goto (t := 1474) (pc := 1059) (dd bL_law dL_law_1059) rfl) ?_
      exact K (JG_le J26 (by omega) (by omega)) (by omega)
theorem lw_d11 {h a : vH} {n m : Int} {pl T t x y de p li si pc : Int} {v13 v14 v15 v16 v17 : vv} {Q : vR → vH → Prop} (j : JG n m h a) (hn : 0 ≤ n ∧ n ≤ 8000) (hpl : 0 ≤ pl ∧ pl ≤ 4) (hp : 0 ≤ p ∧ p < 4) (hy : 0 ≤ y ∧ y ≤ 268435455) (hl : 0 ≤ li ∧ li < a 1504 282 0) (hsi : si = a 2 284 li) (hx : 0 ≤ pc ∧ pc ≤ si) (hd : de = 11) (K : ∀ {h1 a1 : vH} {pl1 : Int} {v13 v14 v15 v16 v17 : vv}, JG (n + 8) (m + 60) h1 a1 → 0 ≤ pl1 ∧ pl1 ≤ 4 → Ru Q (vrun mL_law 1474 [(1, 2), (1, 3), (0, pl1), (0, 1), (0, T), (0, t), (0, x), (0, y), (0, de), (0, p), (0, li), (0, si), (0, pc), v13, v14, v15, v16, v17] [] h1)) : Ru Q (vrun mL_law 180 [(1, 2), (1, 3), (0, pl), (0, 1), (0, T), (0, t), (0, x), (0, y), (0, de), (0, p), (0, li), (0, si), (0, pc), v13, v14, v15, v16, v17] [] h) := by
  have gl := j.2.1.1.1.1.1.2.1
  have gn := j.2.1.1.1.1.1.2.2.1 li hl.1 (by omega)
  refine ru (rn_iload (pc := 180) (dd bL_law dL_law_180) rfl) ?_
  refine ru (rn_iconst (pc := 182) (dd bL_law dL_law_182) (by decide)) ?_
  refine ru ((rn_icmp_ge (t := 346) (pc := 183) (dd bL_law dL_law_183) rfl).trans (if_pos (by omega))) ?_
  refine ru (rn_iload (pc := 346) (dd bL_law dL_law_346) rfl) ?_
  refine ru (rn_iconst (pc := 348) (dd bL_law dL_law_348) (by decide)) ?_
  refine ru ((rn_icmp_ne (t := 504) (pc := 349) (dd bL_law dL_law_349) rfl).trans (if_pos (by omega))) ?_
  refine ru (rn_iload (pc := 504) (dd bL_law dL_law_504) rfl) ?_
  refine ru (rn_iconst (pc := 506) (dd bL_law dL_law_506) (by decide)) ?_
  refine ru ((rn_icmp_ne (t := 582) (pc := 507) (dd bL_law dL_law_507) rfl).trans (if_pos (by omega))) ?_
  refine ru (rn_iload (pc := 582) (dd bL_law dL_law_582) rfl) ?_
  refine ru (rn_iconst (pc := 584) (dd bL_law dL_law_584) (by decide)) ?_
  refine ru ((rn_icmp_ne (t := 651) (pc := 585) (dd bL_law dL_law_585) rfl).trans (if_pos (by omega))) ?_
  refine ru (rn_iload (pc := 651) (dd bL_law dL_law_651) rfl) ?_
  refine ru (rn_bipush (pc := 653) (dd bL_law dL_law_653) (by decide)) ?_
  refine ru ((rn_icmp_ne (t := 727) (pc := 655) (dd bL_law dL_law_655) rfl).trans (if_pos (by omega))) ?_
  refine ru (rn_iload (pc := 727) (dd bL_law dL_law_727) rfl) ?_
  refine ru (rn_bipush (pc := 729) (dd bL_law dL_law_729) (by decide)) ?_
  refine ru ((rn_icmp_ne (t := 788) (pc := 731) (dd bL_law dL_law_731) rfl).trans (if_pos (by omega))) ?_
  refine ru (rn_iload (pc := 788) (dd bL_law dL_law_788) rfl) ?_
  refine ru (rn_bipush (pc := 790) (dd bL_law dL_law_790) (by decide)) ?_
  refine ru ((rn_icmp_ne (t := 907) (pc := 792) (dd bL_law dL_law_792) rfl).trans (if_pos (by omega))) ?_
  refine ru (rn_iload (pc := 907) (dd bL_law dL_law_907) rfl) ?_
  refine ru (rn_bipush (pc := 909) (dd bL_law dL_law_909) (by decide)) ?_
  refine ru ((rn_icmp_ne (t := 976) (pc := 911) (dd bL_law dL_law_911) rfl).trans (if_pos (by omega))) ?_
  refine ru (rn_iload (pc := 976) (dd bL_law dL_law_976) rfl) ?_
  refine ru (rn_bipush (pc := 978) (dd bL_law dL_law_978) (by decide)) ?_
  refine ru ((rn_icmp_ne (t := 1062) (pc := 980) (dd bL_law dL_law_980) rfl).trans (if_pos (by omega))) ?_
  refine ru (rn_iload (pc := 1062) (dd bL_law dL_law_1062) rfl) ?_
  refine ru (rn_bipush (pc := 1064) (dd bL_law dL_law_1064) (by decide)) ?_
  refine ru ((rn_icmp_ne (t := 1102) (pc := 1066) (dd bL_law dL_law_1066) rfl).trans (if_neg (by omega))) ?_
  refine ru (rn_aload_n (pc := 1069) (dd bL_law dL_law_1069) rfl) ?_
  refine ru (rn_iload (pc := 1070) (dd bL_law dL_law_1070) rfl) ?_
  refine ru (rn_bipush (pc := 1072) (dd bL_law dL_law_1072) (by decide)) ?_
  refine ru (rn_iload (pc := 1074) (dd bL_law dL_law_1074) rfl) ?_
  refine ru (rn_iconst (pc := 1076) (dd bL_law dL_law_1076) (by decide)) ?_
  refine ab_ishr (pc := 1077) (dd bL_law dL_law_1077) (by unfold c32; omega) (fun t1 ht1 gt1 => ?_)
  have kt1 := gt1 (by omega)
  unfold c32 at ht1
  refine ru (rn_bipush (pc := 1078) (dd bL_law dL_law_1078) (by decide)) ?_
  refine ab_irem (pc := 1080) (dd bL_law dL_law_1080) (by omega) (by omega) (fun t2 ht2 => ?_)
  refine ru (rg_iadd (pc := 1081) (dd bL_law dL_law_1081) (by omega) (by omega)) ?_
  refine ru (rn_iload (pc := 1082) (dd bL_law dL_law_1082) rfl) ?_
  refine ru (rn_bipush (pc := 1084) (dd bL_law dL_law_1084) (by decide)) ?_
  refine ab_ishr (pc := 1086) (dd bL_law dL_law_1086) (by unfold c32; omega) (fun t3 ht3 gt3 => ?_)
  have kt3 := gt3 (by omega)
  unfold c32 at ht3
  refine ru (rn_iconst (pc := 1087) (dd bL_law dL_law_1087) (by decide)) ?_
  refine ab_irem (pc := 1088) (dd bL_law dL_law_1088) (by omega) (by omega) (fun t4 ht4 => ?_)
  refine ru (rn_iload (pc := 1089) (dd bL_law dL_law_1089) rfl) ?_
  refine ru (rn_bipush (pc := 1091) (dd bL_law dL_law_1091) (by decide)) ?_
  refine ab_ishr (pc := 1093) (dd bL_law dL_law_1093) (by unfold c32; omega) (fun t5 ht5 gt5 => ?_)
  have kt5 := gt5 (by omega)
  unfold c32 at ht5
  refine ru (rn_iconst (pc := 1094) (dd bL_law dL_law_1094) (by decide)) ?_
  refine ab_irem (pc := 1095) (dd bL_law dL_law_1095) (by omega) (by omega) (fun t6 ht6 => ?_)
  obtain ⟨h7, a10, e8, J9⟩ := S_shape (p := p) (w := (10 + t2)) (d := t4) (s := t6) j hp (by omega) (by omega) (by omega)
  refine ru ((rg_virtual (pc := 1096) (dd bL_law dL_law_1096) rfl rfl (by decide) (kc := 33) rfl (jPL j) (as := [(1, 3), (0, p), (0, (10 + t2)), (0, t4), (0, t6)]) rfl ⟨Nat.le_of_ble_eq_true rfl, Nat.le_of_ble_eq_true rfl, Nat.le_of_ble_eq_true rfl, Nat.le_of_ble_eq_true rfl⟩).trans (vret_n e8)) ?_
  refine ru (rn_goto (t := 1474) (pc := 1099) (dd bL_law dL_law_1099) rfl) ?_
  exact K (JG_le J9 (by omega) (by omega)) (by omega)
theorem lw_d12 {h a : vH} {n m : Int} {pl T t x y de p li si pc : Int} {v13 v14 v15 v16 v17 : vv} {Q : vR → vH → Prop} (j : JG n m h a) (hn : 0 ≤ n ∧ n ≤ 8000) (hpl : 0 ≤ pl ∧ pl ≤ 4) (hp : 0 ≤ p ∧ p < 4) (hy : 0 ≤ y ∧ y ≤ 268435455) (hl : 0 ≤ li ∧ li < a 1504 282 0) (hsi : si = a 2 284 li) (hx : 0 ≤ pc ∧ pc ≤ si) (hd : de = 12) (K : ∀ {h1 a1 : vH} {pl1 : Int} {v13 v14 v15 v16 v17 : vv}, JG (n + 8) (m + 60) h1 a1 → 0 ≤ pl1 ∧ pl1 ≤ 4 → Ru Q (vrun mL_law 1474 [(1, 2), (1, 3), (0, pl1), (0, 1), (0, T), (0, t), (0, x), (0, y), (0, de), (0, p), (0, li), (0, si), (0, pc), v13, v14, v15, v16, v17] [] h1)) : Ru Q (vrun mL_law 180 [(1, 2), (1, 3), (0, pl), (0, 1), (0, T), (0, t), (0, x), (0, y), (0, de), (0, p), (0, li), (0, si), (0, pc), v13, v14, v15, v16, v17] [] h) := by
  have gl := j.2.1.1.1.1.1.2.1
  have gn := j.2.1.1.1.1.1.2.2.1 li hl.1 (by omega)
  refine ru (rn_iload (pc := 180) (dd bL_law dL_law_180) rfl) ?_
  refine ru (rn_iconst (pc := 182) (dd bL_law dL_law_182) (by decide)) ?_
  refine ru ((rn_icmp_ge (t := 346) (pc := 183) (dd bL_law dL_law_183) rfl).trans (if_pos (by omega))) ?_
  refine ru (rn_iload (pc := 346) (dd bL_law dL_law_346) rfl) ?_
  refine ru (rn_iconst (pc := 348) (dd bL_law dL_law_348) (by decide)) ?_
  refine ru ((rn_icmp_ne (t := 504) (pc := 349) (dd bL_law dL_law_349) rfl).trans (if_pos (by omega))) ?_
  refine ru (rn_iload (pc := 504) (dd bL_law dL_law_504) rfl) ?_
  refine ru (rn_iconst (pc := 506) (dd bL_law dL_law_506) (by decide)) ?_
  refine ru ((rn_icmp_ne (t := 582) (pc := 507) (dd bL_law dL_law_507) rfl).trans (if_pos (by omega))) ?_
  refine ru (rn_iload (pc := 582) (dd bL_law dL_law_582) rfl) ?_
  refine ru (rn_iconst (pc := 584) (dd bL_law dL_law_584) (by decide)) ?_
  refine ru ((rn_icmp_ne (t := 651) (pc := 585) (dd bL_law dL_law_585) rfl).trans (if_pos (by omega))) ?_
  refine ru (rn_iload (pc := 651) (dd bL_law dL_law_651) rfl) ?_
  refine ru (rn_bipush (pc := 653) (dd bL_law dL_law_653) (by decide)) ?_
  refine ru ((rn_icmp_ne (t := 727) (pc := 655) (dd bL_law dL_law_655) rfl).trans (if_pos (by omega))) ?_
  refine ru (rn_iload (pc := 727) (dd bL_law dL_law_727) rfl) ?_
  refine ru (rn_bipush (pc := 729) (dd bL_law dL_law_729) (by decide)) ?_
  refine ru ((rn_icmp_ne (t := 788) (pc := 731) (dd bL_law dL_law_731) rfl).trans (if_pos (by omega))) ?_
  refine ru (rn_iload (pc := 788) (dd bL_law dL_law_788) rfl) ?_
  refine ru (rn_bipush (pc := 790) (dd bL_law dL_law_790) (by decide)) ?_
  refine ru ((rn_icmp_ne (t := 907) (pc := 792) (dd bL_law dL_law_792) rfl).trans (if_pos (by omega))) ?_
  refine ru (rn_iload (pc := 907) (dd bL_law dL_law_907) rfl) ?_
  refine ru (rn_bipush (pc := 909) (dd bL_law dL_law_909) (by decide)) ?_
  refine ru ((rn_icmp_ne (t := 976) (pc := 911) (dd bL_law dL_law_911) rfl).trans (if_pos (by omega))) ?_
  refine ru (rn_iload (pc := 976) (dd bL_law dL_law_976) rfl) ?_
  refine ru (rn_bipush (pc := 978) (dd bL_law dL_law_978) (by decide)) ?_
  refine ru ((rn_icmp_ne (t := 1062) (pc := 980) (dd bL_law dL_law_980) rfl).trans (if_pos (by omega))) ?_
  refine ru (rn_iload (pc := 1062) (dd bL_law dL_law_1062) rfl) ?_
  refine ru (rn_bipush (pc := 1064) (dd bL_law dL_law_1064) (by decide)) ?_
  refine ru ((rn_icmp_ne (t := 1102) (pc := 1066) (dd bL_law dL_law_1066) rfl).trans (if_pos (by omega))) ?_
  refine ru (rn_iload (pc := 1102) (dd bL_law dL_law_1102) rfl) ?_
  refine ru (rn_bipush (pc := 1104) (dd bL_law dL_law_1104) (by decide)) ?_
  refine ru ((rn_icmp_ne (t := 1221) (pc := 1106) (dd bL_law dL_law_1106) rfl).trans (if_neg (by omega))) ?_
  refine ru (rn_aload_n (pc := 1109) (dd bL_law dL_law_1109) rfl) ?_
  refine ru (rn_bipush (pc := 1110) (dd bL_law dL_law_1110) (by decide)) ?_
  refine ru (rn_iload (pc := 1112) (dd bL_law dL_law_1112) rfl) ?_
  refine ru (rn_iload (pc := 1114) (dd bL_law dL_law_1114) rfl) ?_
  refine ru (rn_iload (pc := 1116) (dd bL_law dL_law_1116) rfl) ?_
  refine ru (rn_iconst (pc := 1118) (dd bL_law dL_law_1118) (by decide)) ?_
  obtain ⟨h1, a4, v5, e2, J3, f6⟩ := O_put (p := p) (l := li) (x := pc) j hp hl (by omega)
  refine ru ((rg_static (pc := 1119) (dd bL_law dL_law_1119) rfl (by decide) (Nat.le_of_ble_eq_true rfl) (as := [(1, 3), (0, 6), (0, p), (0, li), (0, pc), (0, 0)]) rfl rfl ⟨Nat.le_of_ble_eq_true rfl, Nat.le_of_ble_eq_true rfl, Nat.le_of_ble_eq_true rfl, Nat.le_of_ble_eq_true rfl⟩).trans (vret_v e2)) ?_
  refine ru (rn_istore (pc := 1122) (dd bL_law dL_law_1122) (Nat.le_of_ble_eq_true rfl) (L2 := [(1, 2), (1, 3), (0, pl), (0, 1), (0, T), (0, t), (0, x), (0, y), (0, de), (0, p), (0, li), (0, si), (0, pc), (0, v5), v14, v15, v16, v17]) rfl) ?_
  refine ru (rn_iload (pc := 1124) (dd bL_law dL_law_1124) rfl) ?_
  refine ru (rn_bipush (pc := 1126) (dd bL_law dL_law_1126) (by decide)) ?_
  by_cases c1 : v5 ≠ (-13)
  · refine ru ((rn_icmp_ne (t := 1159) (pc := 1128) (dd bL_law dL_law_1128) rfl).trans (if_pos c1)) ?_
    refine ru (rn_iload (pc := 1159) (dd bL_law dL_law_1159) rfl) ?_
    refine ru (rn_aload_n (pc := 1161) (dd bL_law dL_law_1161) rfl) ?_
    refine ru (rn_iload (pc := 1162) (dd bL_law dL_law_1162) rfl) ?_
    refine ru (rn_iconst (pc := 1164) (dd bL_law dL_law_1164) (by decide)) ?_
    obtain ⟨h7, e8, J9⟩ := S_c2 J3 hp
    refine ru ((rg_virtual (pc := 1165) (dd bL_law dL_law_1165) rfl rfl (by decide) (kc := 33) rfl (jPL J3) (as := [(1, 3), (0, p), (0, 2)]) rfl ⟨Nat.le_of_ble_eq_true rfl, Nat.le_of_ble_eq_true rfl, Nat.le_of_ble_eq_true rfl, Nat.le_of_ble_eq_true rfl⟩).trans (vret_v e8)) ?_
    refine ru ((rn_icmp_ne (t := 1216) (pc := 1168) (dd bL_law dL_law_1168) rfl).trans (if_neg (by omega))) ?_
    refine ru (rn_aload_n (pc := 1171) (dd bL_law dL_law_1171) rfl) ?_
    refine ru (rn_iload (pc := 1172) (dd bL_law dL_law_1172) rfl) ?_
    refine ru (rn_iconst (pc := 1174) (dd bL_law dL_law_1174) (by decide)) ?_
    obtain ⟨h10, e11, J12⟩ := S_c0 J9 hp
    refine ru ((rg_virtual (pc := 1175) (dd bL_law dL_law_1175) rfl rfl (by decide) (kc := 33) rfl (jPL J9) (as := [(1, 3), (0, p), (0, 0)]) rfl ⟨Nat.le_of_ble_eq_true rfl, Nat.le_of_ble_eq_true rfl, Nat.le_of_ble_eq_true rfl, Nat.le_of_ble_eq_true rfl⟩).trans (vret_v e11)) ?_
    refine ru (rn_iload (pc := 1178) (dd bL_law dL_law_1178) rfl) ?_
    refine ru ((rn_icmp_ne (t := 1216) (pc := 1180) (dd bL_law dL_law_1180) rfl).trans (if_neg (by omega))) ?_
    refine ru (rn_aload_n (pc := 1183) (dd bL_law dL_law_1183) rfl) ?_
    refine ru (rn_iload (pc := 1184) (dd bL_law dL_law_1184) rfl) ?_
    refine ru (rn_iconst (pc := 1186) (dd bL_law dL_law_1186) (by decide)) ?_
    obtain ⟨h13, e14, J15⟩ := S_c1 J12 hp
    refine ru ((rg_virtual (pc := 1187) (dd bL_law dL_law_1187) rfl rfl (by decide) (kc := 33) rfl (jPL J12) (as := [(1, 3), (0, p), (0, 1)]) rfl ⟨Nat.le_of_ble_eq_true rfl, Nat.le_of_ble_eq_true rfl, Nat.le_of_ble_eq_true rfl, Nat.le_of_ble_eq_true rfl⟩).trans (vret_v e14)) ?_
    refine ru (rn_iload (pc := 1190) (dd bL_law dL_law_1190) rfl) ?_
    refine ru ((rn_icmp_ne (t := 1216) (pc := 1192) (dd bL_law dL_law_1192) rfl).trans (if_neg (by omega))) ?_
    refine ru (rn_aload_n (pc := 1195) (dd bL_law dL_law_1195) rfl) ?_
    refine ru (rn_iload (pc := 1196) (dd bL_law dL_law_1196) rfl) ?_
    refine ru (rn_iconst (pc := 1198) (dd bL_law dL_law_1198) (by decide)) ?_
    obtain ⟨h16, e17, J18⟩ := S_c4 J15 hp
    refine ru ((rg_virtual (pc := 1199) (dd bL_law dL_law_1199) rfl rfl (by decide) (kc := 33) rfl (jPL J15) (as := [(1, 3), (0, p), (0, 4)]) rfl ⟨Nat.le_of_ble_eq_true rfl, Nat.le_of_ble_eq_true rfl, Nat.le_of_ble_eq_true rfl, Nat.le_of_ble_eq_true rfl⟩).trans (vret_v e17)) ?_
    refine ru (rn_aload_n (pc := 1202) (dd bL_law dL_law_1202) rfl) ?_
    refine ru (rn_iload (pc := 1203) (dd bL_law dL_law_1203) rfl) ?_
    refine ru (rn_iconst (pc := 1205) (dd bL_law dL_law_1205) (by decide)) ?_
    obtain ⟨h19, e20, J21⟩ := S_c3 J18 hp
    refine ru ((rg_virtual (pc := 1206) (dd bL_law dL_law_1206) rfl rfl (by decide) (kc := 33) rfl (jPL J18) (as := [(1, 3), (0, p), (0, 3)]) rfl ⟨Nat.le_of_ble_eq_true rfl, Nat.le_of_ble_eq_true rfl, Nat.le_of_ble_eq_true rfl, Nat.le_of_ble_eq_true rfl⟩).trans (vret_v e20)) ?_
    refine ru ((rn_icmp_ne (t := 1216) (pc := 1209) (dd bL_law dL_law_1209) rfl).trans (if_neg (by omega))) ?_
    refine ru (rn_iconst (pc := 1212) (dd bL_law dL_law_1212) (by decide)) ?_
    refine ru (rn_goto (t := 1217) (pc := 1213) (dd bL_law dL_law_1213) rfl) ?_
    refine ru (rn_istore_n (pc := 1217) (dd bL_law dL_law_1217) (Nat.le_of_ble_eq_true rfl) (L2 := [(1, 2), (1, 3), (0, pl), (0, 1), (0, T), (0, t), (0, x), (0, y), (0, de), (0, p), (0, li), (0, si), (0, pc), (0, v5), v14, v15, v16, v17]) rfl) ?_
    refine ru (rn_goto (t := 1474) (pc := 1218) (dd bL_law dL_law_1218) rfl) ?_
    exact K (JG_le J21 (by omega) (by omega)) (by omega)
  · refine ru ((rn_icmp_ne (t := 1159) (pc := 1128) (dd bL_law dL_law_1128) rfl).trans (if_neg c1)) ?_
    refine ru (rn_aload_n (pc := 1131) (dd bL_law dL_law_1131) rfl) ?_
    refine ru (rn_iload (pc := 1132) (dd bL_law dL_law_1132) rfl) ?_
    obtain ⟨h22, e23, J24⟩ := S_height (p := p) J3 (by omega)
    refine ru ((rg_virtual (pc := 1134) (dd bL_law dL_law_1134) rfl rfl (by decide) (kc := 33) rfl (jPL J3) (as := [(1, 3), (0, p)]) rfl ⟨Nat.le_of_ble_eq_true rfl, Nat.le_of_ble_eq_true rfl, Nat.le_of_ble_eq_true rfl, Nat.le_of_ble_eq_true rfl⟩).trans (vret_v e23)) ?_
    by_cases c2 : a4 2 310 p = 0
    · refine ru ((rn_if_eq (t := 1151) (pc := 1137) (dd bL_law dL_law_1137) rfl).trans (if_pos c2)) ?_
      refine ru (rn_iconst (pc := 1151) (dd bL_law dL_law_1151) (by decide)) ?_
      refine ru (rn_goto (t := 1217) (pc := 1152) (dd bL_law dL_law_1152) rfl) ?_
      refine ru (rn_istore_n (pc := 1217) (dd bL_law dL_law_1217) (Nat.le_of_ble_eq_true rfl) (L2 := [(1, 2), (1, 3), (0, pl), (0, 1), (0, T), (0, t), (0, x), (0, y), (0, de), (0, p), (0, li), (0, si), (0, pc), (0, v5), v14, v15, v16, v17]) rfl) ?_
      refine ru (rn_goto (t := 1474) (pc := 1218) (dd bL_law dL_law_1218) rfl) ?_
      exact K (JG_le J24 (by omega) (by omega)) (by omega)
    · refine ru ((rn_if_eq (t := 1151) (pc := 1137) (dd bL_law dL_law_1137) rfl).trans (if_neg c2)) ?_
      refine ru (rn_aload_n (pc := 1140) (dd bL_law dL_law_1140) rfl) ?_
      refine ru (rn_iload (pc := 1141) (dd bL_law dL_law_1141) rfl) ?_
      refine ru (rn_iload (pc := 1143) (dd bL_law dL_law_1143) rfl) ?_
      obtain ⟨h25, e26, J27⟩ := S_rowsOf (l := li) J24 hp (by omega)
      refine ru ((rg_virtual (pc := 1145) (dd bL_law dL_law_1145) rfl rfl (by decide) (kc := 33) rfl (jPL J24) (as := [(1, 3), (0, p), (0, li)]) rfl ⟨Nat.le_of_ble_eq_true rfl, Nat.le_of_ble_eq_true rfl, Nat.le_of_ble_eq_true rfl, Nat.le_of_ble_eq_true rfl⟩).trans (vret_v e26)) ?_
      refine ru ((rn_if_ne (t := 1155) (pc := 1148) (dd bL_law dL_law_1148) rfl).trans (if_neg (by omega))) ?_
      refine ru (rn_iconst (pc := 1151) (dd bL_law dL_law_1151) (by decide)) ?_
      refine ru (rn_goto (t := 1217) (pc := 1152) (dd bL_law dL_law_1152) rfl) ?_
      refine ru (rn_istore_n (pc := 1217) (dd bL_law dL_law_1217) (Nat.le_of_ble_eq_true rfl) (L2 := [(1, 2), (1, 3), (0, pl), (0, 1), (0, T), (0, t), (0, x), (0, y), (0, de), (0, p), (0, li), (0, si), (0, pc), (0, v5), v14, v15, v16, v17]) rfl) ?_
      refine ru (rn_goto (t := 1474) (pc := 1218) (dd bL_law dL_law_1218) rfl) ?_
      exact K (JG_le J27 (by omega) (by omega)) (by omega)
theorem lw_mv {h a : vH} {n m : Int} {pl T t x y de p li si pc : Int} {v13 v14 v15 v16 v17 : vv} {Q : vR → vH → Prop} (j : JG n m h a) (hn : 0 ≤ n ∧ n ≤ 8000) (hpl : 0 ≤ pl ∧ pl ≤ 4) (hp : 0 ≤ p ∧ p < 4) (hy : 0 ≤ y ∧ y ≤ 268435455) (hl : 0 ≤ li ∧ li < a 1504 282 0) (hsi : si = a 2 284 li) (hx : 0 ≤ pc ∧ pc ≤ si) (hd : de < 15) (K : ∀ {h1 a1 : vH} {pl1 : Int} {v13 v14 v15 v16 v17 : vv}, JG (n + 8) (m + 60) h1 a1 → 0 ≤ pl1 ∧ pl1 ≤ 4 → Ru Q (vrun mL_law 1474 [(1, 2), (1, 3), (0, pl1), (0, 1), (0, T), (0, t), (0, x), (0, y), (0, de), (0, p), (0, li), (0, si), (0, pc), v13, v14, v15, v16, v17] [] h1)) : Ru Q (vrun mL_law 1221 [(1, 2), (1, 3), (0, pl), (0, 1), (0, T), (0, t), (0, x), (0, y), (0, de), (0, p), (0, li), (0, si), (0, pc), v13, v14, v15, v16, v17] [] h) := by
  have gl := j.2.1.1.1.1.1.2.1
  have gn := j.2.1.1.1.1.1.2.2.1 li hl.1 (by omega)
  refine ru (rn_iload (pc := 1221) (dd bL_law dL_law_1221) rfl) ?_
  refine ru (rn_bipush (pc := 1223) (dd bL_law dL_law_1223) (by decide)) ?_
  refine ru ((rn_icmp_ge (t := 1262) (pc := 1225) (dd bL_law dL_law_1225) rfl).trans (if_neg (by omega))) ?_
  refine ru (rn_aload_n (pc := 1228) (dd bL_law dL_law_1228) rfl) ?_
  refine ru (rn_iload (pc := 1229) (dd bL_law dL_law_1229) rfl) ?_
  obtain ⟨h1, e2, J3⟩ := S_height (p := p) j (by omega)
  refine ru ((rg_virtual (pc := 1231) (dd bL_law dL_law_1231) rfl rfl (by decide) (kc := 33) rfl (jPL j) (as := [(1, 3), (0, p)]) rfl ⟨Nat.le_of_ble_eq_true rfl, Nat.le_of_ble_eq_true rfl, Nat.le_of_ble_eq_true rfl, Nat.le_of_ble_eq_true rfl⟩).trans (vret_v e2)) ?_
  by_cases c1 : a 2 310 p = 0
  · refine ru ((rn_if_eq (t := 1253) (pc := 1234) (dd bL_law dL_law_1234) rfl).trans (if_pos c1)) ?_
    refine ru (rn_iconst (pc := 1253) (dd bL_law dL_law_1253) (by decide)) ?_
    refine ru (rn_goto (t := 1258) (pc := 1254) (dd bL_law dL_law_1254) rfl) ?_
    refine ru (rn_istore_n (pc := 1258) (dd bL_law dL_law_1258) (Nat.le_of_ble_eq_true rfl) (L2 := [(1, 2), (1, 3), (0, pl), (0, 1), (0, T), (0, t), (0, x), (0, y), (0, de), (0, p), (0, li), (0, si), (0, pc), v13, v14, v15, v16, v17]) rfl) ?_
    refine ru (rn_goto (t := 1474) (pc := 1259) (dd bL_law dL_law_1259) rfl) ?_
    exact K (JG_le J3 (by omega) (by omega)) (by omega)
  · refine ru ((rn_if_eq (t := 1253) (pc := 1234) (dd bL_law dL_law_1234) rfl).trans (if_neg c1)) ?_
    refine ru (rn_aload_n (pc := 1237) (dd bL_law dL_law_1237) rfl) ?_
    refine ru (rn_iload (pc := 1238) (dd bL_law dL_law_1238) rfl) ?_
    refine ru (rn_iload (pc := 1240) (dd bL_law dL_law_1240) rfl) ?_
    refine ru (rn_iconst (pc := 1242) (dd bL_law dL_law_1242) (by decide)) ?_
    refine ab_ishr (pc := 1243) (dd bL_law dL_law_1243) (by unfold c32; omega) (fun t4 ht4 gt4 => ?_)
    have kt4 := gt4 (by omega)
    unfold c32 at ht4
    refine ru (rn_bipush (pc := 1244) (dd bL_law dL_law_1244) (by decide)) ?_
    refine ab_irem (pc := 1246) (dd bL_law dL_law_1246) (by omega) (by omega) (fun t5 ht5 => ?_)
    obtain ⟨h6, a9, e7, J8⟩ := L_move (p := p) (mv := t5) J3 hp (by omega) (fun z => c1 (j.2.1.2.1.1 p hp.1 hp.2 z))
    refine ru ((rg_static (pc := 1247) (dd bL_law dL_law_1247) rfl (by decide) (Nat.le_of_ble_eq_true rfl) (as := [(1, 3), (0, p), (0, t5)]) rfl rfl ⟨Nat.le_of_ble_eq_true rfl, Nat.le_of_ble_eq_true rfl, Nat.le_of_ble_eq_true rfl, Nat.le_of_ble_eq_true rfl⟩).trans (vret_v e7)) ?_
    refine ru ((rn_if_eq (t := 1257) (pc := 1250) (dd bL_law dL_law_1250) rfl).trans (if_neg (by decide))) ?_
    refine ru (rn_iconst (pc := 1253) (dd bL_law dL_law_1253) (by decide)) ?_
    refine ru (rn_goto (t := 1258) (pc := 1254) (dd bL_law dL_law_1254) rfl) ?_
    refine ru (rn_istore_n (pc := 1258) (dd bL_law dL_law_1258) (Nat.le_of_ble_eq_true rfl) (L2 := [(1, 2), (1, 3), (0, pl), (0, 1), (0, T), (0, t), (0, x), (0, y), (0, de), (0, p), (0, li), (0, si), (0, pc), v13, v14, v15, v16, v17]) rfl) ?_
    refine ru (rn_goto (t := 1474) (pc := 1259) (dd bL_law dL_law_1259) rfl) ?_
    exact K (JG_le J8 (by omega) (by omega)) (by omega)
theorem lw_d3m {h a : vH} {n m : Int} {pl T t x y de p li si pc : Int} {v13 v14 v15 v16 v17 : vv} {Q : vR → vH → Prop} (j : JG n m h a) (hn : 0 ≤ n ∧ n ≤ 8000) (hpl : 0 ≤ pl ∧ pl ≤ 4) (hp : 0 ≤ p ∧ p < 4) (hy : 0 ≤ y ∧ y ≤ 268435455) (hl : 0 ≤ li ∧ li < a 1504 282 0) (hsi : si = a 2 284 li) (hx : 0 ≤ pc ∧ pc ≤ si) (hd : de = 3) (h8 : 8 ≤ a 1504 282 0) (K : ∀ {h1 a1 : vH} {pl1 : Int} {v13 v14 v15 v16 v17 : vv}, JG (n + 8) (m + 62) h1 a1 → 0 ≤ pl1 ∧ pl1 ≤ 4 → Ru Q (vrun mL_law 1474 [(1, 2), (1, 3), (0, pl1), (0, 1), (0, T), (0, t), (0, x), (0, y), (0, de), (0, p), (0, li), (0, si), (0, pc), v13, v14, v15, v16, v17] [] h1)) : Ru Q (vrun mL_law 180 [(1, 2), (1, 3), (0, pl), (0, 1), (0, T), (0, t), (0, x), (0, y), (0, de), (0, p), (0, li), (0, si), (0, pc), v13, v14, v15, v16, v17] [] h) := by
  have gl := j.2.1.1.1.1.1.2.1
  have gn := j.2.1.1.1.1.1.2.2.1 li hl.1 (by omega)
  refine ru (rn_iload (pc := 180) (dd bL_law dL_law_180) rfl) ?_
  refine ru (rn_iconst (pc := 182) (dd bL_law dL_law_182) (by decide)) ?_
  refine ru ((rn_icmp_ge (t := 346) (pc := 183) (dd bL_law dL_law_183) rfl).trans (if_pos (by omega))) ?_
  refine ru (rn_iload (pc := 346) (dd bL_law dL_law_346) rfl) ?_
  refine ru (rn_iconst (pc := 348) (dd bL_law dL_law_348) (by decide)) ?_
  refine ru ((rn_icmp_ne (t := 504) (pc := 349) (dd bL_law dL_law_349) rfl).trans (if_neg (by omega))) ?_
  refine ru (rn_aload_n (pc := 352) (dd bL_law dL_law_352) rfl) ?_
  obtain ⟨h1, e2, J3⟩ := S_lines j
  refine ru ((rg_virtual (pc := 353) (dd bL_law dL_law_353) rfl rfl (by decide) (kc := 33) rfl (jPL j) (as := [(1, 3)]) rfl ⟨Nat.le_of_ble_eq_true rfl, Nat.le_of_ble_eq_true rfl, Nat.le_of_ble_eq_true rfl, Nat.le_of_ble_eq_true rfl⟩).trans (vret_v e2)) ?_
  refine ru (rn_bipush (pc := 356) (dd bL_law dL_law_356) (by decide)) ?_
  refine ru ((rn_icmp_ge (t := 504) (pc := 358) (dd bL_law dL_law_358) rfl).trans (if_pos (by omega))) ?_
  refine ru (rn_iload (pc := 504) (dd bL_law dL_law_504) rfl) ?_
  refine ru (rn_iconst (pc := 506) (dd bL_law dL_law_506) (by decide)) ?_
  refine ru ((rn_icmp_ne (t := 582) (pc := 507) (dd bL_law dL_law_507) rfl).trans (if_pos (by omega))) ?_
  refine ru (rn_iload (pc := 582) (dd bL_law dL_law_582) rfl) ?_
  refine ru (rn_iconst (pc := 584) (dd bL_law dL_law_584) (by decide)) ?_
  refine ru ((rn_icmp_ne (t := 651) (pc := 585) (dd bL_law dL_law_585) rfl).trans (if_pos (by omega))) ?_
  refine ru (rn_iload (pc := 651) (dd bL_law dL_law_651) rfl) ?_
  refine ru (rn_bipush (pc := 653) (dd bL_law dL_law_653) (by decide)) ?_
  refine ru ((rn_icmp_ne (t := 727) (pc := 655) (dd bL_law dL_law_655) rfl).trans (if_pos (by omega))) ?_
  refine ru (rn_iload (pc := 727) (dd bL_law dL_law_727) rfl) ?_
  refine ru (rn_bipush (pc := 729) (dd bL_law dL_law_729) (by decide)) ?_
  refine ru ((rn_icmp_ne (t := 788) (pc := 731) (dd bL_law dL_law_731) rfl).trans (if_pos (by omega))) ?_
  refine ru (rn_iload (pc := 788) (dd bL_law dL_law_788) rfl) ?_
  refine ru (rn_bipush (pc := 790) (dd bL_law dL_law_790) (by decide)) ?_
  refine ru ((rn_icmp_ne (t := 907) (pc := 792) (dd bL_law dL_law_792) rfl).trans (if_pos (by omega))) ?_
  refine ru (rn_iload (pc := 907) (dd bL_law dL_law_907) rfl) ?_
  refine ru (rn_bipush (pc := 909) (dd bL_law dL_law_909) (by decide)) ?_
  refine ru ((rn_icmp_ne (t := 976) (pc := 911) (dd bL_law dL_law_911) rfl).trans (if_pos (by omega))) ?_
  refine ru (rn_iload (pc := 976) (dd bL_law dL_law_976) rfl) ?_
  refine ru (rn_bipush (pc := 978) (dd bL_law dL_law_978) (by decide)) ?_
  refine ru ((rn_icmp_ne (t := 1062) (pc := 980) (dd bL_law dL_law_980) rfl).trans (if_pos (by omega))) ?_
  refine ru (rn_iload (pc := 1062) (dd bL_law dL_law_1062) rfl) ?_
  refine ru (rn_bipush (pc := 1064) (dd bL_law dL_law_1064) (by decide)) ?_
  refine ru ((rn_icmp_ne (t := 1102) (pc := 1066) (dd bL_law dL_law_1066) rfl).trans (if_pos (by omega))) ?_
  refine ru (rn_iload (pc := 1102) (dd bL_law dL_law_1102) rfl) ?_
  refine ru (rn_bipush (pc := 1104) (dd bL_law dL_law_1104) (by decide)) ?_
  refine ru ((rn_icmp_ne (t := 1221) (pc := 1106) (dd bL_law dL_law_1106) rfl).trans (if_pos (by omega))) ?_
  exact lw_mv (JG_le J3 (n2 := n) (m2 := m + 2) (by omega) (by omega)) hn hpl hp hy hl hsi hx (by omega) (fun jj pp => K (JG_le jj (by omega) (by omega)) pp)
theorem lw_d4m {h a : vH} {n m : Int} {pl T t x y de p li si pc : Int} {v13 v14 v15 v16 v17 : vv} {Q : vR → vH → Prop} (j : JG n m h a) (hn : 0 ≤ n ∧ n ≤ 8000) (hpl : 0 ≤ pl ∧ pl ≤ 4) (hp : 0 ≤ p ∧ p < 4) (hy : 0 ≤ y ∧ y ≤ 268435455) (hl : 0 ≤ li ∧ li < a 1504 282 0) (hsi : si = a 2 284 li) (hx : 0 ≤ pc ∧ pc ≤ si) (hd : de = 4) (h4 : si ≤ pc) (K : ∀ {h1 a1 : vH} {pl1 : Int} {v13 v14 v15 v16 v17 : vv}, JG (n + 8) (m + 62) h1 a1 → 0 ≤ pl1 ∧ pl1 ≤ 4 → Ru Q (vrun mL_law 1474 [(1, 2), (1, 3), (0, pl1), (0, 1), (0, T), (0, t), (0, x), (0, y), (0, de), (0, p), (0, li), (0, si), (0, pc), v13, v14, v15, v16, v17] [] h1)) : Ru Q (vrun mL_law 180 [(1, 2), (1, 3), (0, pl), (0, 1), (0, T), (0, t), (0, x), (0, y), (0, de), (0, p), (0, li), (0, si), (0, pc), v13, v14, v15, v16, v17] [] h) := by
  have gl := j.2.1.1.1.1.1.2.1
  have gn := j.2.1.1.1.1.1.2.2.1 li hl.1 (by omega)
  refine ru (rn_iload (pc := 180) (dd bL_law dL_law_180) rfl) ?_
  refine ru (rn_iconst (pc := 182) (dd bL_law dL_law_182) (by decide)) ?_
  refine ru ((rn_icmp_ge (t := 346) (pc := 183) (dd bL_law dL_law_183) rfl).trans (if_pos (by omega))) ?_
  refine ru (rn_iload (pc := 346) (dd bL_law dL_law_346) rfl) ?_
  refine ru (rn_iconst (pc := 348) (dd bL_law dL_law_348) (by decide)) ?_
  refine ru ((rn_icmp_ne (t := 504) (pc := 349) (dd bL_law dL_law_349) rfl).trans (if_pos (by omega))) ?_
  refine ru (rn_iload (pc := 504) (dd bL_law dL_law_504) rfl) ?_
  refine ru (rn_iconst (pc := 506) (dd bL_law dL_law_506) (by decide)) ?_
  refine ru ((rn_icmp_ne (t := 582) (pc := 507) (dd bL_law dL_law_507) rfl).trans (if_neg (by omega))) ?_
  refine ru (rn_iload (pc := 510) (dd bL_law dL_law_510) rfl) ?_
  refine ru (rn_iload (pc := 512) (dd bL_law dL_law_512) rfl) ?_
  refine ru ((rn_icmp_ge (t := 582) (pc := 514) (dd bL_law dL_law_514) rfl).trans (if_pos (by omega))) ?_
  refine ru (rn_iload (pc := 582) (dd bL_law dL_law_582) rfl) ?_
  refine ru (rn_iconst (pc := 584) (dd bL_law dL_law_584) (by decide)) ?_
  refine ru ((rn_icmp_ne (t := 651) (pc := 585) (dd bL_law dL_law_585) rfl).trans (if_pos (by omega))) ?_
  refine ru (rn_iload (pc := 651) (dd bL_law dL_law_651) rfl) ?_
  refine ru (rn_bipush (pc := 653) (dd bL_law dL_law_653) (by decide)) ?_
  refine ru ((rn_icmp_ne (t := 727) (pc := 655) (dd bL_law dL_law_655) rfl).trans (if_pos (by omega))) ?_
  refine ru (rn_iload (pc := 727) (dd bL_law dL_law_727) rfl) ?_
  refine ru (rn_bipush (pc := 729) (dd bL_law dL_law_729) (by decide)) ?_
  refine ru ((rn_icmp_ne (t := 788) (pc := 731) (dd bL_law dL_law_731) rfl).trans (if_pos (by omega))) ?_
  refine ru (rn_iload (pc := 788) (dd bL_law dL_law_788) rfl) ?_
  refine ru (rn_bipush (pc := 790) (dd bL_law dL_law_790) (by decide)) ?_
  refine ru ((rn_icmp_ne (t := 907) (pc := 792) (dd bL_law dL_law_792) rfl).trans (if_pos (by omega))) ?_
  refine ru (rn_iload (pc := 907) (dd bL_law dL_law_907) rfl) ?_
  refine ru (rn_bipush (pc := 909) (dd bL_law dL_law_909) (by decide)) ?_
  refine ru ((rn_icmp_ne (t := 976) (pc := 911) (dd bL_law dL_law_911) rfl).trans (if_pos (by omega))) ?_
  refine ru (rn_iload (pc := 976) (dd bL_law dL_law_976) rfl) ?_
  refine ru (rn_bipush (pc := 978) (dd bL_law dL_law_978) (by decide)) ?_
  refine ru ((rn_icmp_ne (t := 1062) (pc := 980) (dd bL_law dL_law_980) rfl).trans (if_pos (by omega))) ?_
  refine ru (rn_iload (pc := 1062) (dd bL_law dL_law_1062) rfl) ?_
  refine ru (rn_bipush (pc := 1064) (dd bL_law dL_law_1064) (by decide)) ?_
  refine ru ((rn_icmp_ne (t := 1102) (pc := 1066) (dd bL_law dL_law_1066) rfl).trans (if_pos (by omega))) ?_
  refine ru (rn_iload (pc := 1102) (dd bL_law dL_law_1102) rfl) ?_
  refine ru (rn_bipush (pc := 1104) (dd bL_law dL_law_1104) (by decide)) ?_
  refine ru ((rn_icmp_ne (t := 1221) (pc := 1106) (dd bL_law dL_law_1106) rfl).trans (if_pos (by omega))) ?_
  exact lw_mv (JG_le j (n2 := n) (m2 := m + 2) (by omega) (by omega)) hn hpl hp hy hl hsi hx (by omega) (fun jj pp => K (JG_le jj (by omega) (by omega)) pp)
theorem lw_d13 {h a : vH} {n m : Int} {pl T t x y de p li si pc : Int} {v13 v14 v15 v16 v17 : vv} {Q : vR → vH → Prop} (j : JG n m h a) (hn : 0 ≤ n ∧ n ≤ 8000) (hpl : 0 ≤ pl ∧ pl ≤ 4) (hp : 0 ≤ p ∧ p < 4) (hy : 0 ≤ y ∧ y ≤ 268435455) (hl : 0 ≤ li ∧ li < a 1504 282 0) (hsi : si = a 2 284 li) (hx : 0 ≤ pc ∧ pc ≤ si) (hd : de = 13) (K : ∀ {h1 a1 : vH} {pl1 : Int} {v13 v14 v15 v16 v17 : vv}, JG (n + 8) (m + 62) h1 a1 → 0 ≤ pl1 ∧ pl1 ≤ 4 → Ru Q (vrun mL_law 1474 [(1, 2), (1, 3), (0, pl1), (0, 1), (0, T), (0, t), (0, x), (0, y), (0, de), (0, p), (0, li), (0, si), (0, pc), v13, v14, v15, v16, v17] [] h1)) : Ru Q (vrun mL_law 180 [(1, 2), (1, 3), (0, pl), (0, 1), (0, T), (0, t), (0, x), (0, y), (0, de), (0, p), (0, li), (0, si), (0, pc), v13, v14, v15, v16, v17] [] h) := by
  have gl := j.2.1.1.1.1.1.2.1
  have gn := j.2.1.1.1.1.1.2.2.1 li hl.1 (by omega)
  refine ru (rn_iload (pc := 180) (dd bL_law dL_law_180) rfl) ?_
  refine ru (rn_iconst (pc := 182) (dd bL_law dL_law_182) (by decide)) ?_
  refine ru ((rn_icmp_ge (t := 346) (pc := 183) (dd bL_law dL_law_183) rfl).trans (if_pos (by omega))) ?_
  refine ru (rn_iload (pc := 346) (dd bL_law dL_law_346) rfl) ?_
  refine ru (rn_iconst (pc := 348) (dd bL_law dL_law_348) (by decide)) ?_
  refine ru ((rn_icmp_ne (t := 504) (pc := 349) (dd bL_law dL_law_349) rfl).trans (if_pos (by omega))) ?_
  refine ru (rn_iload (pc := 504) (dd bL_law dL_law_504) rfl) ?_
  refine ru (rn_iconst (pc := 506) (dd bL_law dL_law_506) (by decide)) ?_
  refine ru ((rn_icmp_ne (t := 582) (pc := 507) (dd bL_law dL_law_507) rfl).trans (if_pos (by omega))) ?_
  refine ru (rn_iload (pc := 582) (dd bL_law dL_law_582) rfl) ?_
  refine ru (rn_iconst (pc := 584) (dd bL_law dL_law_584) (by decide)) ?_
  refine ru ((rn_icmp_ne (t := 651) (pc := 585) (dd bL_law dL_law_585) rfl).trans (if_pos (by omega))) ?_
  refine ru (rn_iload (pc := 651) (dd bL_law dL_law_651) rfl) ?_
  refine ru (rn_bipush (pc := 653) (dd bL_law dL_law_653) (by decide)) ?_
  refine ru ((rn_icmp_ne (t := 727) (pc := 655) (dd bL_law dL_law_655) rfl).trans (if_pos (by omega))) ?_
  refine ru (rn_iload (pc := 727) (dd bL_law dL_law_727) rfl) ?_
  refine ru (rn_bipush (pc := 729) (dd bL_law dL_law_729) (by decide)) ?_
  refine ru ((rn_icmp_ne (t := 788) (pc := 731) (dd bL_law dL_law_731) rfl).trans (if_pos (by omega))) ?_
  refine ru (rn_iload (pc := 788) (dd bL_law dL_law_788) rfl) ?_
  refine ru (rn_bipush (pc := 790) (dd bL_law dL_law_790) (by decide)) ?_
  refine ru ((rn_icmp_ne (t := 907) (pc := 792) (dd bL_law dL_law_792) rfl).trans (if_pos (by omega))) ?_
  refine ru (rn_iload (pc := 907) (dd bL_law dL_law_907) rfl) ?_
  refine ru (rn_bipush (pc := 909) (dd bL_law dL_law_909) (by decide)) ?_
  refine ru ((rn_icmp_ne (t := 976) (pc := 911) (dd bL_law dL_law_911) rfl).trans (if_pos (by omega))) ?_
  refine ru (rn_iload (pc := 976) (dd bL_law dL_law_976) rfl) ?_
  refine ru (rn_bipush (pc := 978) (dd bL_law dL_law_978) (by decide)) ?_
  refine ru ((rn_icmp_ne (t := 1062) (pc := 980) (dd bL_law dL_law_980) rfl).trans (if_pos (by omega))) ?_
  refine ru (rn_iload (pc := 1062) (dd bL_law dL_law_1062) rfl) ?_
  refine ru (rn_bipush (pc := 1064) (dd bL_law dL_law_1064) (by decide)) ?_
  refine ru ((rn_icmp_ne (t := 1102) (pc := 1066) (dd bL_law dL_law_1066) rfl).trans (if_pos (by omega))) ?_
  refine ru (rn_iload (pc := 1102) (dd bL_law dL_law_1102) rfl) ?_
  refine ru (rn_bipush (pc := 1104) (dd bL_law dL_law_1104) (by decide)) ?_
  refine ru ((rn_icmp_ne (t := 1221) (pc := 1106) (dd bL_law dL_law_1106) rfl).trans (if_pos (by omega))) ?_
  exact lw_mv (JG_le j (n2 := n) (m2 := m + 2) (by omega) (by omega)) hn hpl hp hy hl hsi hx (by omega) (fun jj pp => K (JG_le jj (by omega) (by omega)) pp)
theorem lw_d14 {h a : vH} {n m : Int} {pl T t x y de p li si pc : Int} {v13 v14 v15 v16 v17 : vv} {Q : vR → vH → Prop} (j : JG n m h a) (hn : 0 ≤ n ∧ n ≤ 8000) (hpl : 0 ≤ pl ∧ pl ≤ 4) (hp : 0 ≤ p ∧ p < 4) (hy : 0 ≤ y ∧ y ≤ 268435455) (hl : 0 ≤ li ∧ li < a 1504 282 0) (hsi : si = a 2 284 li) (hx : 0 ≤ pc ∧ pc ≤ si) (hd : de = 14) (K : ∀ {h1 a1 : vH} {pl1 : Int} {v13 v14 v15 v16 v17 : vv}, JG (n + 8) (m + 62) h1 a1 → 0 ≤ pl1 ∧ pl1 ≤ 4 → Ru Q (vrun mL_law 1474 [(1, 2), (1, 3), (0, pl1), (0, 1), (0, T), (0, t), (0, x), (0, y), (0, de), (0, p), (0, li), (0, si), (0, pc), v13, v14, v15, v16, v17] [] h1)) : Ru Q (vrun mL_law 180 [(1, 2), (1, 3), (0, pl), (0, 1), (0, T), (0, t), (0, x), (0, y), (0, de), (0, p), (0, li), (0, si), (0, pc), v13, v14, v15, v16, v17] [] h) := by
  have gl := j.2.1.1.1.1.1.2.1
  have gn := j.2.1.1.1.1.1.2.2.1 li hl.1 (by omega)
  refine ru (rn_iload (pc := 180) (dd bL_law dL_law_180) rfl) ?_
  refine ru (rn_iconst (pc := 182) (dd bL_law dL_law_182) (by decide)) ?_
  refine ru ((rn_icmp_ge (t := 346) (pc := 183) (dd bL_law dL_law_183) rfl).trans (if_pos (by omega))) ?_
  refine ru (rn_iload (pc := 346) (dd bL_law dL_law_346) rfl) ?_
  refine ru (rn_iconst (pc := 348) (dd bL_law dL_law_348) (by decide)) ?_
  refine ru ((rn_icmp_ne (t := 504) (pc := 349) (dd bL_law dL_law_349) rfl).trans (if_pos (by omega))) ?_
  refine ru (rn_iload (pc := 504) (dd bL_law dL_law_504) rfl) ?_
  refine ru (rn_iconst (pc := 506) (dd bL_law dL_law_506) (by decide)) ?_
  refine ru ((rn_icmp_ne (t := 582) (pc := 507) (dd bL_law dL_law_507) rfl).trans (if_pos (by omega))) ?_
  refine ru (rn_iload (pc := 582) (dd bL_law dL_law_582) rfl) ?_
  refine ru (rn_iconst (pc := 584) (dd bL_law dL_law_584) (by decide)) ?_
  refine ru ((rn_icmp_ne (t := 651) (pc := 585) (dd bL_law dL_law_585) rfl).trans (if_pos (by omega))) ?_
  refine ru (rn_iload (pc := 651) (dd bL_law dL_law_651) rfl) ?_
  refine ru (rn_bipush (pc := 653) (dd bL_law dL_law_653) (by decide)) ?_
  refine ru ((rn_icmp_ne (t := 727) (pc := 655) (dd bL_law dL_law_655) rfl).trans (if_pos (by omega))) ?_
  refine ru (rn_iload (pc := 727) (dd bL_law dL_law_727) rfl) ?_
  refine ru (rn_bipush (pc := 729) (dd bL_law dL_law_729) (by decide)) ?_
  refine ru ((rn_icmp_ne (t := 788) (pc := 731) (dd bL_law dL_law_731) rfl).trans (if_pos (by omega))) ?_
  refine ru (rn_iload (pc := 788) (dd bL_law dL_law_788) rfl) ?_
  refine ru (rn_bipush (pc := 790) (dd bL_law dL_law_790) (by decide)) ?_
  refine ru ((rn_icmp_ne (t := 907) (pc := 792) (dd bL_law dL_law_792) rfl).trans (if_pos (by omega))) ?_
  refine ru (rn_iload (pc := 907) (dd bL_law dL_law_907) rfl) ?_
  refine ru (rn_bipush (pc := 909) (dd bL_law dL_law_909) (by decide)) ?_
  refine ru ((rn_icmp_ne (t := 976) (pc := 911) (dd bL_law dL_law_911) rfl).trans (if_pos (by omega))) ?_
  refine ru (rn_iload (pc := 976) (dd bL_law dL_law_976) rfl) ?_
  refine ru (rn_bipush (pc := 978) (dd bL_law dL_law_978) (by decide)) ?_
  refine ru ((rn_icmp_ne (t := 1062) (pc := 980) (dd bL_law dL_law_980) rfl).trans (if_pos (by omega))) ?_
  refine ru (rn_iload (pc := 1062) (dd bL_law dL_law_1062) rfl) ?_
  refine ru (rn_bipush (pc := 1064) (dd bL_law dL_law_1064) (by decide)) ?_
  refine ru ((rn_icmp_ne (t := 1102) (pc := 1066) (dd bL_law dL_law_1066) rfl).trans (if_pos (by omega))) ?_
  refine ru (rn_iload (pc := 1102) (dd bL_law dL_law_1102) rfl) ?_
  refine ru (rn_bipush (pc := 1104) (dd bL_law dL_law_1104) (by decide)) ?_
  refine ru ((rn_icmp_ne (t := 1221) (pc := 1106) (dd bL_law dL_law_1106) rfl).trans (if_pos (by omega))) ?_
  exact lw_mv (JG_le j (n2 := n) (m2 := m + 2) (by omega) (by omega)) hn hpl hp hy hl hsi hx (by omega) (fun jj pp => K (JG_le jj (by omega) (by omega)) pp)
theorem lw_d15a {h a : vH} {n m : Int} {pl T t x y de p li si pc : Int} {v13 v14 v15 v16 v17 : vv} {Q : vR → vH → Prop} (j : JG n m h a) (hn : 0 ≤ n ∧ n ≤ 8000) (hpl : 0 ≤ pl ∧ pl ≤ 4) (hp : 0 ≤ p ∧ p < 4) (hy : 0 ≤ y ∧ y ≤ 268435455) (hl : 0 ≤ li ∧ li < a 1504 282 0) (hsi : si = a 2 284 li) (hx : 0 ≤ pc ∧ pc ≤ si) (P : ∀ {h1 : vH}, JG n (m + 1) h1 a → Ru Q (vrun mL_law 1406 [(1, 2), (1, 3), (0, pl), (0, 1), (0, T), (0, t), (0, x), (0, y), (0, de), (0, p), (0, li), (0, si), (0, pc), v13, v14, v15, v16, v17] [] h1)) (K : ∀ {h1 a1 : vH} {pl1 : Int} {v13 v14 v15 v16 v17 : vv}, JG (n + 8) (m + 60) h1 a1 → 0 ≤ pl1 ∧ pl1 ≤ 4 → Ru Q (vrun mL_law 1474 [(1, 2), (1, 3), (0, pl1), (0, 1), (0, T), (0, t), (0, x), (0, y), (0, de), (0, p), (0, li), (0, si), (0, pc), v13, v14, v15, v16, v17] [] h1)) : Ru Q (vrun mL_law 1262 [(1, 2), (1, 3), (0, pl), (0, 1), (0, T), (0, t), (0, x), (0, y), (0, de), (0, p), (0, li), (0, si), (0, pc), v13, v14, v15, v16, v17] [] h) := by
  have gl := j.2.1.1.1.1.1.2.1
  have gn := j.2.1.1.1.1.1.2.2.1 li hl.1 (by omega)
  refine ru (rn_iload (pc := 1262) (dd bL_law dL_law_1262) rfl) ?_
  refine ru (rn_iconst (pc := 1264) (dd bL_law dL_law_1264) (by decide)) ?_
  refine ab_ishr (pc := 1265) (dd bL_law dL_law_1265) (by unfold c32; omega) (fun t1 ht1 gt1 => ?_)
  have kt1 := gt1 (by omega)
  unfold c32 at ht1
  refine ru (rn_iconst (pc := 1266) (dd bL_law dL_law_1266) (by decide)) ?_
  refine ab_iand (pc := 1267) (dd bL_law dL_law_1267) (by decide) (fun t2 ht2 => ?_)
  by_cases c1 : t2 ≠ 0
  · refine ru ((rn_if_ne (t := 1406) (pc := 1268) (dd bL_law dL_law_1268) rfl).trans (if_pos c1)) ?_
    exact P (JG_le j (by omega) (by omega))
  · refine ru ((rn_if_ne (t := 1406) (pc := 1268) (dd bL_law dL_law_1268) rfl).trans (if_neg c1)) ?_
    refine ru (rn_aload_n (pc := 1271) (dd bL_law dL_law_1271) rfl) ?_
    refine ru (rn_iload (pc := 1272) (dd bL_law dL_law_1272) rfl) ?_
    refine ru (rn_iconst (pc := 1274) (dd bL_law dL_law_1274) (by decide)) ?_
    obtain ⟨h3, e4, J5⟩ := S_c1 j hp
    refine ru ((rg_virtual (pc := 1275) (dd bL_law dL_law_1275) rfl rfl (by decide) (kc := 33) rfl (jPL j) (as := [(1, 3), (0, p), (0, 1)]) rfl ⟨Nat.le_of_ble_eq_true rfl, Nat.le_of_ble_eq_true rfl, Nat.le_of_ble_eq_true rfl, Nat.le_of_ble_eq_true rfl⟩).trans (vret_v e4)) ?_
    refine ru (rn_istore (pc := 1278) (dd bL_law dL_law_1278) (Nat.le_of_ble_eq_true rfl) (L2 := [(1, 2), (1, 3), (0, pl), (0, 1), (0, T), (0, t), (0, x), (0, y), (0, de), (0, p), (0, li), (0, si), (0, pc), (0, cuX a p), v14, v15, v16, v17]) rfl) ?_
    refine ru (rn_aload_n (pc := 1280) (dd bL_law dL_law_1280) rfl) ?_
    refine ru (rn_iload (pc := 1281) (dd bL_law dL_law_1281) rfl) ?_
    refine ru (rn_iconst (pc := 1283) (dd bL_law dL_law_1283) (by decide)) ?_
    obtain ⟨h6, e7, J8⟩ := S_c0 J5 hp
    refine ru ((rg_virtual (pc := 1284) (dd bL_law dL_law_1284) rfl rfl (by decide) (kc := 33) rfl (jPL J5) (as := [(1, 3), (0, p), (0, 0)]) rfl ⟨Nat.le_of_ble_eq_true rfl, Nat.le_of_ble_eq_true rfl, Nat.le_of_ble_eq_true rfl, Nat.le_of_ble_eq_true rfl⟩).trans (vret_v e7)) ?_
    refine ru (rn_istore (pc := 1287) (dd bL_law dL_law_1287) (Nat.le_of_ble_eq_true rfl) (L2 := [(1, 2), (1, 3), (0, pl), (0, 1), (0, T), (0, t), (0, x), (0, y), (0, de), (0, p), (0, li), (0, si), (0, pc), (0, cuX a p), (0, cuL a p), v15, v16, v17]) rfl) ?_
    have cu := cu_in j.2.1.1.1.1 hp
    refine ru (rn_aload_n (pc := 1289) (dd bL_law dL_law_1289) rfl) ?_
    refine ru (rn_iload (pc := 1290) (dd bL_law dL_law_1290) rfl) ?_
    obtain ⟨h9, e10, J11⟩ := S_length (l := cuL a p) J8 (by omega)
    refine ru ((rg_virtual (pc := 1292) (dd bL_law dL_law_1292) rfl rfl (by decide) (kc := 33) rfl (jPL J8) (as := [(1, 3), (0, cuL a p)]) rfl ⟨Nat.le_of_ble_eq_true rfl, Nat.le_of_ble_eq_true rfl, Nat.le_of_ble_eq_true rfl, Nat.le_of_ble_eq_true rfl⟩).trans (vret_v e10)) ?_
    have cu := cu_in j.2.1.1.1.1 hp
    have gc := j.2.1.1.1.1.1.2.2.1 (cuL a p) (by omega) (by omega)
    refine ru (rn_bipush (pc := 1295) (dd bL_law dL_law_1295) (by decide)) ?_
    by_cases c2 : 24 ≤ a 2 284 (cuL a p)
    · refine ru ((rn_icmp_ge (t := 1323) (pc := 1297) (dd bL_law dL_law_1297) rfl).trans (if_pos c2)) ?_
      refine ru (rn_bipush (pc := 1323) (dd bL_law dL_law_1323) (by decide)) ?_
      refine ru (rn_istore (pc := 1325) (dd bL_law dL_law_1325) (Nat.le_of_ble_eq_true rfl) (L2 := [(1, 2), (1, 3), (0, pl), (0, 1), (0, T), (0, t), (0, x), (0, y), (0, de), (0, p), (0, li), (0, si), (0, pc), (0, cuX a p), (0, cuL a p), (0, (-13)), v16, v17]) rfl) ?_
      refine ru (rn_iload (pc := 1327) (dd bL_law dL_law_1327) rfl) ?_
      refine ru (rn_bipush (pc := 1329) (dd bL_law dL_law_1329) (by decide)) ?_
      refine ru ((rn_icmp_ne (t := 1362) (pc := 1331) (dd bL_law dL_law_1331) rfl).trans (if_neg (by decide))) ?_
      refine ru (rn_aload_n (pc := 1334) (dd bL_law dL_law_1334) rfl) ?_
      refine ru (rn_iload (pc := 1335) (dd bL_law dL_law_1335) rfl) ?_
      obtain ⟨h12, e13, J14⟩ := S_height (p := p) J11 (by omega)
      refine ru ((rg_virtual (pc := 1337) (dd bL_law dL_law_1337) rfl rfl (by decide) (kc := 33) rfl (jPL J11) (as := [(1, 3), (0, p)]) rfl ⟨Nat.le_of_ble_eq_true rfl, Nat.le_of_ble_eq_true rfl, Nat.le_of_ble_eq_true rfl, Nat.le_of_ble_eq_true rfl⟩).trans (vret_v e13)) ?_
      by_cases c4 : a 2 310 p = 0
      · refine ru ((rn_if_eq (t := 1354) (pc := 1340) (dd bL_law dL_law_1340) rfl).trans (if_pos c4)) ?_
        refine ru (rn_iconst (pc := 1354) (dd bL_law dL_law_1354) (by decide)) ?_
        refine ru (rn_goto (t := 1402) (pc := 1355) (dd bL_law dL_law_1355) rfl) ?_
        refine ru (rn_istore_n (pc := 1402) (dd bL_law dL_law_1402) (Nat.le_of_ble_eq_true rfl) (L2 := [(1, 2), (1, 3), (0, pl), (0, 1), (0, T), (0, t), (0, x), (0, y), (0, de), (0, p), (0, li), (0, si), (0, pc), (0, cuX a p), (0, cuL a p), (0, (-13)), v16, v17]) rfl) ?_
        refine ru (rn_goto (t := 1474) (pc := 1403) (dd bL_law dL_law_1403) rfl) ?_
        exact K (JG_le J14 (by omega) (by omega)) (by omega)
      · refine ru ((rn_if_eq (t := 1354) (pc := 1340) (dd bL_law dL_law_1340) rfl).trans (if_neg c4)) ?_
        refine ru (rn_aload_n (pc := 1343) (dd bL_law dL_law_1343) rfl) ?_
        refine ru (rn_iload (pc := 1344) (dd bL_law dL_law_1344) rfl) ?_
        obtain ⟨h15, e16, J17⟩ := S_length (l := cuL a p) J14 (by omega)
        refine ru ((rg_virtual (pc := 1346) (dd bL_law dL_law_1346) rfl rfl (by decide) (kc := 33) rfl (jPL J14) (as := [(1, 3), (0, cuL a p)]) rfl ⟨Nat.le_of_ble_eq_true rfl, Nat.le_of_ble_eq_true rfl, Nat.le_of_ble_eq_true rfl, Nat.le_of_ble_eq_true rfl⟩).trans (vret_v e16)) ?_
        refine ru (rn_bipush (pc := 1349) (dd bL_law dL_law_1349) (by decide)) ?_
        refine ru ((rn_icmp_lt (t := 1358) (pc := 1351) (dd bL_law dL_law_1351) rfl).trans (if_neg (by omega))) ?_
        refine ru (rn_iconst (pc := 1354) (dd bL_law dL_law_1354) (by decide)) ?_
        refine ru (rn_goto (t := 1402) (pc := 1355) (dd bL_law dL_law_1355) rfl) ?_
        refine ru (rn_istore_n (pc := 1402) (dd bL_law dL_law_1402) (Nat.le_of_ble_eq_true rfl) (L2 := [(1, 2), (1, 3), (0, pl), (0, 1), (0, T), (0, t), (0, x), (0, y), (0, de), (0, p), (0, li), (0, si), (0, pc), (0, cuX a p), (0, cuL a p), (0, (-13)), v16, v17]) rfl) ?_
        refine ru (rn_goto (t := 1474) (pc := 1403) (dd bL_law dL_law_1403) rfl) ?_
        exact K (JG_le J17 (by omega) (by omega)) (by omega)
    · refine ru ((rn_icmp_ge (t := 1323) (pc := 1297) (dd bL_law dL_law_1297) rfl).trans (if_neg c2)) ?_
      refine ru (rn_aload_n (pc := 1300) (dd bL_law dL_law_1300) rfl) ?_
      refine ru (rn_bipush (pc := 1301) (dd bL_law dL_law_1301) (by decide)) ?_
      refine ru (rn_iload (pc := 1303) (dd bL_law dL_law_1303) rfl) ?_
      refine ru (rn_bipush (pc := 1305) (dd bL_law dL_law_1305) (by decide)) ?_
      refine ru (rn_iload (pc := 1307) (dd bL_law dL_law_1307) rfl) ?_
      refine ru (rn_iconst (pc := 1309) (dd bL_law dL_law_1309) (by decide)) ?_
      refine ab_ishr (pc := 1310) (dd bL_law dL_law_1310) (by unfold c32; omega) (fun t18 ht18 gt18 => ?_)
      have kt18 := gt18 (by omega)
      unfold c32 at ht18
      refine ru (rn_bipush (pc := 1311) (dd bL_law dL_law_1311) (by decide)) ?_
      refine ab_irem (pc := 1313) (dd bL_law dL_law_1313) (by omega) (by omega) (fun t19 ht19 => ?_)
      refine ru (rg_iadd (pc := 1314) (dd bL_law dL_law_1314) (by omega) (by omega)) ?_
      refine ru (rn_iconst (pc := 1315) (dd bL_law dL_law_1315) (by decide)) ?_
      refine ru (rn_iconst (pc := 1316) (dd bL_law dL_law_1316) (by decide)) ?_
      obtain ⟨h20, a23, v24, e21, J22, f25⟩ := O_type (p := p) (s := (32 + t19)) J11 (by omega) hp (by unfold sgOk; omega) (by omega)
      refine ru ((rg_static (pc := 1317) (dd bL_law dL_law_1317) rfl (by decide) (Nat.le_of_ble_eq_true rfl) (as := [(1, 3), (0, 9), (0, p), (0, (32 + t19)), (0, 0), (0, 0)]) rfl rfl ⟨Nat.le_of_ble_eq_true rfl, Nat.le_of_ble_eq_true rfl, Nat.le_of_ble_eq_true rfl, Nat.le_of_ble_eq_true rfl⟩).trans (vret_v e21)) ?_
      refine ru (rn_goto (t := 1325) (pc := 1320) (dd bL_law dL_law_1320) rfl) ?_
      refine ru (rn_istore (pc := 1325) (dd bL_law dL_law_1325) (Nat.le_of_ble_eq_true rfl) (L2 := [(1, 2), (1, 3), (0, pl), (0, 1), (0, T), (0, t), (0, x), (0, y), (0, de), (0, p), (0, li), (0, si), (0, pc), (0, cuX a p), (0, cuL a p), (0, v24), v16, v17]) rfl) ?_
      refine ru (rn_iload (pc := 1327) (dd bL_law dL_law_1327) rfl) ?_
      refine ru (rn_bipush (pc := 1329) (dd bL_law dL_law_1329) (by decide)) ?_
      by_cases c3 : v24 ≠ (-13)
      · refine ru ((rn_icmp_ne (t := 1362) (pc := 1331) (dd bL_law dL_law_1331) rfl).trans (if_pos c3)) ?_
        refine ru (rn_iload (pc := 1362) (dd bL_law dL_law_1362) rfl) ?_
        refine ru (rn_iload (pc := 1364) (dd bL_law dL_law_1364) rfl) ?_
        refine ru (rn_iconst (pc := 1366) (dd bL_law dL_law_1366) (by decide)) ?_
        refine ru (rg_iadd (pc := 1367) (dd bL_law dL_law_1367) (by omega) (by omega)) ?_
        refine ru ((rn_icmp_ne (t := 1401) (pc := 1368) (dd bL_law dL_law_1368) rfl).trans (if_neg (by omega))) ?_
        refine ru (rn_aload_n (pc := 1371) (dd bL_law dL_law_1371) rfl) ?_
        refine ru (rn_iload (pc := 1372) (dd bL_law dL_law_1372) rfl) ?_
        refine ru (rn_iconst (pc := 1374) (dd bL_law dL_law_1374) (by decide)) ?_
        obtain ⟨h26, e27, J28⟩ := S_c1 J22 hp
        refine ru ((rg_virtual (pc := 1375) (dd bL_law dL_law_1375) rfl rfl (by decide) (kc := 33) rfl (jPL J22) (as := [(1, 3), (0, p), (0, 1)]) rfl ⟨Nat.le_of_ble_eq_true rfl, Nat.le_of_ble_eq_true rfl, Nat.le_of_ble_eq_true rfl, Nat.le_of_ble_eq_true rfl⟩).trans (vret_v e27)) ?_
        refine ru (rn_iload (pc := 1378) (dd bL_law dL_law_1378) rfl) ?_
        refine ru (rn_iconst (pc := 1380) (dd bL_law dL_law_1380) (by decide)) ?_
        refine ru (rg_iadd (pc := 1381) (dd bL_law dL_law_1381) (by omega) (by omega)) ?_
        refine ru ((rn_icmp_ne (t := 1401) (pc := 1382) (dd bL_law dL_law_1382) rfl).trans (if_neg (by omega))) ?_
        refine ru (rn_aload_n (pc := 1385) (dd bL_law dL_law_1385) rfl) ?_
        refine ru (rn_iload (pc := 1386) (dd bL_law dL_law_1386) rfl) ?_
        refine ru (rn_iconst (pc := 1388) (dd bL_law dL_law_1388) (by decide)) ?_
        obtain ⟨h29, e30, J31⟩ := S_c0 J28 hp
        refine ru ((rg_virtual (pc := 1389) (dd bL_law dL_law_1389) rfl rfl (by decide) (kc := 33) rfl (jPL J28) (as := [(1, 3), (0, p), (0, 0)]) rfl ⟨Nat.le_of_ble_eq_true rfl, Nat.le_of_ble_eq_true rfl, Nat.le_of_ble_eq_true rfl, Nat.le_of_ble_eq_true rfl⟩).trans (vret_v e30)) ?_
        refine ru (rn_iload (pc := 1392) (dd bL_law dL_law_1392) rfl) ?_
        refine ru ((rn_icmp_ne (t := 1401) (pc := 1394) (dd bL_law dL_law_1394) rfl).trans (if_neg (by omega))) ?_
        refine ru (rn_iconst (pc := 1397) (dd bL_law dL_law_1397) (by decide)) ?_
        refine ru (rn_goto (t := 1402) (pc := 1398) (dd bL_law dL_law_1398) rfl) ?_
        refine ru (rn_istore_n (pc := 1402) (dd bL_law dL_law_1402) (Nat.le_of_ble_eq_true rfl) (L2 := [(1, 2), (1, 3), (0, pl), (0, 1), (0, T), (0, t), (0, x), (0, y), (0, de), (0, p), (0, li), (0, si), (0, pc), (0, cuX a p), (0, cuL a p), (0, v24), v16, v17]) rfl) ?_
        refine ru (rn_goto (t := 1474) (pc := 1403) (dd bL_law dL_law_1403) rfl) ?_
        exact K (JG_le J31 (by omega) (by omega)) (by omega)
      · refine ru ((rn_icmp_ne (t := 1362) (pc := 1331) (dd bL_law dL_law_1331) rfl).trans (if_neg c3)) ?_
        refine ru (rn_aload_n (pc := 1334) (dd bL_law dL_law_1334) rfl) ?_
        refine ru (rn_iload (pc := 1335) (dd bL_law dL_law_1335) rfl) ?_
        obtain ⟨h32, e33, J34⟩ := S_height (p := p) J22 (by omega)
        refine ru ((rg_virtual (pc := 1337) (dd bL_law dL_law_1337) rfl rfl (by decide) (kc := 33) rfl (jPL J22) (as := [(1, 3), (0, p)]) rfl ⟨Nat.le_of_ble_eq_true rfl, Nat.le_of_ble_eq_true rfl, Nat.le_of_ble_eq_true rfl, Nat.le_of_ble_eq_true rfl⟩).trans (vret_v e33)) ?_
        refine ru ((rn_if_eq (t := 1354) (pc := 1340) (dd bL_law dL_law_1340) rfl).trans (if_pos (by omega))) ?_
        refine ru (rn_iconst (pc := 1354) (dd bL_law dL_law_1354) (by decide)) ?_
        refine ru (rn_goto (t := 1402) (pc := 1355) (dd bL_law dL_law_1355) rfl) ?_
        refine ru (rn_istore_n (pc := 1402) (dd bL_law dL_law_1402) (Nat.le_of_ble_eq_true rfl) (L2 := [(1, 2), (1, 3), (0, pl), (0, 1), (0, T), (0, t), (0, x), (0, y), (0, de), (0, p), (0, li), (0, si), (0, pc), (0, cuX a p), (0, cuL a p), (0, v24), v16, v17]) rfl) ?_
        refine ru (rn_goto (t := 1474) (pc := 1403) (dd bL_law dL_law_1403) rfl) ?_
        exact K (JG_le J34 (by omega) (by omega)) (by omega)
theorem lw_d15b {h a : vH} {n m : Int} {pl T t x y de p li si pc : Int} {v13 v14 v15 v16 v17 : vv} {Q : vR → vH → Prop} (j : JG n m h a) (hn : 0 ≤ n ∧ n ≤ 8000) (hpl : 0 ≤ pl ∧ pl ≤ 4) (hp : 0 ≤ p ∧ p < 4) (hy : 0 ≤ y ∧ y ≤ 268435455) (hl : 0 ≤ li ∧ li < a 1504 282 0) (hsi : si = a 2 284 li) (hx : 0 ≤ pc ∧ pc ≤ si) (K : ∀ {h1 a1 : vH} {pl1 : Int} {v13 v14 v15 v16 v17 : vv}, JG (n + 8) (m + 60) h1 a1 → 0 ≤ pl1 ∧ pl1 ≤ 4 → Ru Q (vrun mL_law 1474 [(1, 2), (1, 3), (0, pl1), (0, 1), (0, T), (0, t), (0, x), (0, y), (0, de), (0, p), (0, li), (0, si), (0, pc), v13, v14, v15, v16, v17] [] h1)) : Ru Q (vrun mL_law 1406 [(1, 2), (1, 3), (0, pl), (0, 1), (0, T), (0, t), (0, x), (0, y), (0, de), (0, p), (0, li), (0, si), (0, pc), v13, v14, v15, v16, v17] [] h) := by
  have gl := j.2.1.1.1.1.1.2.1
  have gn := j.2.1.1.1.1.1.2.2.1 li hl.1 (by omega)
  refine ru (rn_iload_n (pc := 1406) (dd bL_law dL_law_1406) rfl) ?_
  refine ru (rn_iconst (pc := 1407) (dd bL_law dL_law_1407) (by decide)) ?_
  by_cases c1 : 4 ≤ pl
  · refine ru ((rn_icmp_ge (t := 1474) (pc := 1408) (dd bL_law dL_law_1408) rfl).trans (if_pos c1)) ?_
    exact K (JG_le j (by omega) (by omega)) (by omega)
  · refine ru ((rn_icmp_ge (t := 1474) (pc := 1408) (dd bL_law dL_law_1408) rfl).trans (if_neg c1)) ?_
    refine ru (rg_iinc (pc := 1411) (dd bL_law dL_law_1411) rfl (Nat.le_of_ble_eq_true rfl) (by omega) (by omega) (L2 := [(1, 2), (1, 3), (0, (pl + 1)), (0, 1), (0, T), (0, t), (0, x), (0, y), (0, de), (0, p), (0, li), (0, si), (0, pc), v13, v14, v15, v16, v17]) rfl) ?_
    refine ru (rn_aload_n (pc := 1414) (dd bL_law dL_law_1414) rfl) ?_
    refine ru (rn_bipush (pc := 1415) (dd bL_law dL_law_1415) (by decide)) ?_
    refine ru (rn_iload (pc := 1417) (dd bL_law dL_law_1417) rfl) ?_
    refine ru (rn_iconst (pc := 1419) (dd bL_law dL_law_1419) (by decide)) ?_
    refine ab_ishr (pc := 1420) (dd bL_law dL_law_1420) (by unfold c32; omega) (fun t1 ht1 gt1 => ?_)
    have kt1 := gt1 (by omega)
    unfold c32 at ht1
    refine ru (rn_iconst (pc := 1421) (dd bL_law dL_law_1421) (by decide)) ?_
    refine ab_iand (pc := 1422) (dd bL_law dL_law_1422) (by decide) (fun t2 ht2 => ?_)
    refine ru (rn_iload (pc := 1423) (dd bL_law dL_law_1423) rfl) ?_
    refine ru (rn_iconst (pc := 1425) (dd bL_law dL_law_1425) (by decide)) ?_
    refine ru (rn_iconst (pc := 1426) (dd bL_law dL_law_1426) (by decide)) ?_
    obtain ⟨h3, a6, v7, e4, J5, f8⟩ := O_play (q := t2) (p := p) j (by omega) hp
    refine ru ((rg_static (pc := 1427) (dd bL_law dL_law_1427) rfl (by decide) (Nat.le_of_ble_eq_true rfl) (as := [(1, 3), (0, 10), (0, t2), (0, p), (0, 0), (0, 0)]) rfl rfl ⟨Nat.le_of_ble_eq_true rfl, Nat.le_of_ble_eq_true rfl, Nat.le_of_ble_eq_true rfl, Nat.le_of_ble_eq_true rfl⟩).trans (vret_v e4)) ?_
    refine ru (rn_istore (pc := 1430) (dd bL_law dL_law_1430) (Nat.le_of_ble_eq_true rfl) (L2 := [(1, 2), (1, 3), (0, (pl + 1)), (0, 1), (0, T), (0, t), (0, x), (0, y), (0, de), (0, p), (0, li), (0, si), (0, pc), (0, v7), v14, v15, v16, v17]) rfl) ?_
    refine ru (rn_iload (pc := 1432) (dd bL_law dL_law_1432) rfl) ?_
    refine ru (rn_bipush (pc := 1434) (dd bL_law dL_law_1434) (by decide)) ?_
    by_cases c2 : v7 ≠ (-13)
    · refine ru ((rn_icmp_ne (t := 1456) (pc := 1436) (dd bL_law dL_law_1436) rfl).trans (if_pos c2)) ?_
      refine ru (rn_iload (pc := 1456) (dd bL_law dL_law_1456) rfl) ?_
      refine ru ((rn_if_lt (t := 1472) (pc := 1458) (dd bL_law dL_law_1458) rfl).trans (if_neg (by omega))) ?_
      refine ru (rn_iload (pc := 1461) (dd bL_law dL_law_1461) rfl) ?_
      refine ru (rn_bipush (pc := 1463) (dd bL_law dL_law_1463) (by decide)) ?_
      refine ru ((rn_icmp_gt (t := 1472) (pc := 1465) (dd bL_law dL_law_1465) rfl).trans (if_neg (by omega))) ?_
      refine ru (rn_iconst (pc := 1468) (dd bL_law dL_law_1468) (by decide)) ?_
      refine ru (rn_goto (t := 1473) (pc := 1469) (dd bL_law dL_law_1469) rfl) ?_
      refine ru (rn_istore_n (pc := 1473) (dd bL_law dL_law_1473) (Nat.le_of_ble_eq_true rfl) (L2 := [(1, 2), (1, 3), (0, (pl + 1)), (0, 1), (0, T), (0, t), (0, x), (0, y), (0, de), (0, p), (0, li), (0, si), (0, pc), (0, v7), v14, v15, v16, v17]) rfl) ?_
      exact K (JG_le J5 (by omega) (by omega)) (by omega)
    · refine ru ((rn_icmp_ne (t := 1456) (pc := 1436) (dd bL_law dL_law_1436) rfl).trans (if_neg c2)) ?_
      refine ru (rn_aload_n (pc := 1439) (dd bL_law dL_law_1439) rfl) ?_
      refine ru (rn_iload (pc := 1440) (dd bL_law dL_law_1440) rfl) ?_
      obtain ⟨h9, e10, J11⟩ := S_height (p := p) J5 (by omega)
      refine ru ((rg_virtual (pc := 1442) (dd bL_law dL_law_1442) rfl rfl (by decide) (kc := 33) rfl (jPL J5) (as := [(1, 3), (0, p)]) rfl ⟨Nat.le_of_ble_eq_true rfl, Nat.le_of_ble_eq_true rfl, Nat.le_of_ble_eq_true rfl, Nat.le_of_ble_eq_true rfl⟩).trans (vret_v e10)) ?_
      refine ru ((rn_if_ne (t := 1452) (pc := 1445) (dd bL_law dL_law_1445) rfl).trans (if_neg (by omega))) ?_
      refine ru (rn_iconst (pc := 1448) (dd bL_law dL_law_1448) (by decide)) ?_
      refine ru (rn_goto (t := 1473) (pc := 1449) (dd bL_law dL_law_1449) rfl) ?_
      refine ru (rn_istore_n (pc := 1473) (dd bL_law dL_law_1473) (Nat.le_of_ble_eq_true rfl) (L2 := [(1, 2), (1, 3), (0, (pl + 1)), (0, 1), (0, T), (0, t), (0, x), (0, y), (0, de), (0, p), (0, li), (0, si), (0, pc), (0, v7), v14, v15, v16, v17]) rfl) ?_
      exact K (JG_le J11 (by omega) (by omega)) (by omega)
theorem lw_d15 {h a : vH} {n m : Int} {pl T t x y de p li si pc : Int} {v13 v14 v15 v16 v17 : vv} {Q : vR → vH → Prop} (j : JG n m h a) (hn : 0 ≤ n ∧ n ≤ 8000) (hpl : 0 ≤ pl ∧ pl ≤ 4) (hp : 0 ≤ p ∧ p < 4) (hy : 0 ≤ y ∧ y ≤ 268435455) (hl : 0 ≤ li ∧ li < a 1504 282 0) (hsi : si = a 2 284 li) (hx : 0 ≤ pc ∧ pc ≤ si) (hd : de = 15) (K : ∀ {h1 a1 : vH} {pl1 : Int} {v13 v14 v15 v16 v17 : vv}, JG (n + 8) (m + 70) h1 a1 → 0 ≤ pl1 ∧ pl1 ≤ 4 → Ru Q (vrun mL_law 1474 [(1, 2), (1, 3), (0, pl1), (0, 1), (0, T), (0, t), (0, x), (0, y), (0, de), (0, p), (0, li), (0, si), (0, pc), v13, v14, v15, v16, v17] [] h1)) : Ru Q (vrun mL_law 180 [(1, 2), (1, 3), (0, pl), (0, 1), (0, T), (0, t), (0, x), (0, y), (0, de), (0, p), (0, li), (0, si), (0, pc), v13, v14, v15, v16, v17] [] h) := by
  have gl := j.2.1.1.1.1.1.2.1
  have gn := j.2.1.1.1.1.1.2.2.1 li hl.1 (by omega)
  refine ru (rn_iload (pc := 180) (dd bL_law dL_law_180) rfl) ?_
  refine ru (rn_iconst (pc := 182) (dd bL_law dL_law_182) (by decide)) ?_
  refine ru ((rn_icmp_ge (t := 346) (pc := 183) (dd bL_law dL_law_183) rfl).trans (if_pos (by omega))) ?_
  refine ru (rn_iload (pc := 346) (dd bL_law dL_law_346) rfl) ?_
  refine ru (rn_iconst (pc := 348) (dd bL_law dL_law_348) (by decide)) ?_
  refine ru ((rn_icmp_ne (t := 504) (pc := 349) (dd bL_law dL_law_349) rfl).trans (if_pos (by omega))) ?_
  refine ru (rn_iload (pc := 504) (dd bL_law dL_law_504) rfl) ?_
  refine ru (rn_iconst (pc := 506) (dd bL_law dL_law_506) (by decide)) ?_
  refine ru ((rn_icmp_ne (t := 582) (pc := 507) (dd bL_law dL_law_507) rfl).trans (if_pos (by omega))) ?_
  refine ru (rn_iload (pc := 582) (dd bL_law dL_law_582) rfl) ?_
  refine ru (rn_iconst (pc := 584) (dd bL_law dL_law_584) (by decide)) ?_
  refine ru ((rn_icmp_ne (t := 651) (pc := 585) (dd bL_law dL_law_585) rfl).trans (if_pos (by omega))) ?_
  refine ru (rn_iload (pc := 651) (dd bL_law dL_law_651) rfl) ?_
  refine ru (rn_bipush (pc := 653) (dd bL_law dL_law_653) (by decide)) ?_
  refine ru ((rn_icmp_ne (t := 727) (pc := 655) (dd bL_law dL_law_655) rfl).trans (if_pos (by omega))) ?_
  refine ru (rn_iload (pc := 727) (dd bL_law dL_law_727) rfl) ?_
  refine ru (rn_bipush (pc := 729) (dd bL_law dL_law_729) (by decide)) ?_
  refine ru ((rn_icmp_ne (t := 788) (pc := 731) (dd bL_law dL_law_731) rfl).trans (if_pos (by omega))) ?_
  refine ru (rn_iload (pc := 788) (dd bL_law dL_law_788) rfl) ?_
  refine ru (rn_bipush (pc := 790) (dd bL_law dL_law_790) (by decide)) ?_
  refine ru ((rn_icmp_ne (t := 907) (pc := 792) (dd bL_law dL_law_792) rfl).trans (if_pos (by omega))) ?_
  refine ru (rn_iload (pc := 907) (dd bL_law dL_law_907) rfl) ?_
  refine ru (rn_bipush (pc := 909) (dd bL_law dL_law_909) (by decide)) ?_
  refine ru ((rn_icmp_ne (t := 976) (pc := 911) (dd bL_law dL_law_911) rfl).trans (if_pos (by omega))) ?_
  refine ru (rn_iload (pc := 976) (dd bL_law dL_law_976) rfl) ?_
  refine ru (rn_bipush (pc := 978) (dd bL_law dL_law_978) (by decide)) ?_
  refine ru ((rn_icmp_ne (t := 1062) (pc := 980) (dd bL_law dL_law_980) rfl).trans (if_pos (by omega))) ?_
  refine ru (rn_iload (pc := 1062) (dd bL_law dL_law_1062) rfl) ?_
  refine ru (rn_bipush (pc := 1064) (dd bL_law dL_law_1064) (by decide)) ?_
  refine ru ((rn_icmp_ne (t := 1102) (pc := 1066) (dd bL_law dL_law_1066) rfl).trans (if_pos (by omega))) ?_
  refine ru (rn_iload (pc := 1102) (dd bL_law dL_law_1102) rfl) ?_
  refine ru (rn_bipush (pc := 1104) (dd bL_law dL_law_1104) (by decide)) ?_
  refine ru ((rn_icmp_ne (t := 1221) (pc := 1106) (dd bL_law dL_law_1106) rfl).trans (if_pos (by omega))) ?_
  refine ru (rn_iload (pc := 1221) (dd bL_law dL_law_1221) rfl) ?_
  refine ru (rn_bipush (pc := 1223) (dd bL_law dL_law_1223) (by decide)) ?_
  refine ru ((rn_icmp_ge (t := 1262) (pc := 1225) (dd bL_law dL_law_1225) rfl).trans (if_pos (by omega))) ?_
  exact lw_d15a (JG_le j (n2 := n) (m2 := m + 2) (by omega) (by omega)) hn hpl hp hy hl hsi hx (fun jj => lw_d15b (JG_le jj (n2 := n) (m2 := m + 4) (by omega) (by omega)) hn hpl hp hy hl hsi hx (fun jk pp => K (JG_le jk (by omega) (by omega)) pp)) (fun jk pp => K (JG_le jk (by omega) (by omega)) pp)
