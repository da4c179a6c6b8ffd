theorem rg_copy6 {m : vM} {pc : Nat} {L S : List vv} {h : vH} {k ci nn : Nat} {y : vM} {n dp sp a b na nb : Int} (d : decode (vmB m) pc = .ok (.invokestatic k, 3)) (hv : vrs (vmC m) k = some (7, ci, nn, y)) (ka : h 0 a 0 = 6) (la : h 1 a 0 = na) (kb : h 0 b 0 = 6) (lb : h 1 b 0 = nb) (h0 : 0 ≤ n) (h1 : 0 ≤ sp) (h2 : 0 ≤ dp) (h3 : sp + n ≤ na) (h4 : dp + n ≤ nb) (he : ∃ c : Nat, c < 14 ∧ ∀ i : Int, 0 ≤ i → i < n → h 2 a (sp + i) = 0 ∨ h 0 (h 2 a (sp + i)) 0 = 20 + c) (ft : vcat S ≤ 8 ∧ 1 ≤ vmF m ∧ 40 ≤ vmW m) : vrun m pc L ((0, n) :: (0, dp) :: (1, b) :: (0, sp) :: (1, a) :: S) h = vrun m (pc + 3) L S (vcp h a sp b dp n) := by
  subst la; subst lb
  exact rn_copy d hv ⟨h0, h1, h2, h3, h4, Or.inr (Or.inr ⟨ka, kb, he⟩), ft⟩
theorem bJx4a65c_grow_92f84 : vmB mJx4a65c_grow_92f84 = cJx4a65c_grow_92f84 := rfl
theorem bJx4a65c_fastRemove_b59b0 : vmB mJx4a65c_fastRemove_b59b0 = cJx4a65c_fastRemove_b59b0 := rfl
theorem rJx4a65c_fastRemove_b59b0_0 {x0 : Int} {x1 : Int} {x2 : Int} {h : vH} (p1 : h 0 x0 0 = 20) (p2 : (vup h 100 x0 0 (w32 (h 100 x0 0 + 1))) 0 x0 0 = 20) (p3 : (-2147483648) ≤ (vup h 100 x0 0 (w32 (h 100 x0 0 + 1))) 102 x0 0 - 1) (p4 : (vup h 100 x0 0 (w32 (h 100 x0 0 + 1))) 102 x0 0 - 1 < 2147483648) (p5 : ¬ ((vup h 100 x0 0 (w32 (h 100 x0 0 + 1))) 102 x0 0 - 1 ≤ x2) → (-2147483648) ≤ x2 + 1) (p6 : ¬ ((vup h 100 x0 0 (w32 (h 100 x0 0 + 1))) 102 x0 0 - 1 ≤ x2) → x2 + 1 < 2147483648) (p7 : ¬ ((vup h 100 x0 0 (w32 (h 100 x0 0 + 1))) 102 x0 0 - 1 ≤ x2) → (-2147483648) ≤ (vup h 100 x0 0 (w32 (h 100 x0 0 + 1))) 102 x0 0 - 1 - x2) (p8 : ¬ ((vup h 100 x0 0 (w32 (h 100 x0 0 + 1))) 102 x0 0 - 1 ≤ x2) → (vup h 100 x0 0 (w32 (h 100 x0 0 + 1))) 102 x0 0 - 1 - x2 < 2147483648) (p9 : ¬ ((vup h 100 x0 0 (w32 (h 100 x0 0 + 1))) 102 x0 0 - 1 ≤ x2) → (vup h 100 x0 0 (w32 (h 100 x0 0 + 1))) 0 x1 0 = 6) (p10 : ¬ ((vup h 100 x0 0 (w32 (h 100 x0 0 + 1))) 102 x0 0 - 1 ≤ x2) → 0 ≤ (vup h 100 x0 0 (w32 (h 100 x0 0 + 1))) 102 x0 0 - 1 - x2) (p11 : ¬ ((vup h 100 x0 0 (w32 (h 100 x0 0 + 1))) 102 x0 0 - 1 ≤ x2) → 0 ≤ x2 + 1) (p12 : ¬ ((vup h 100 x0 0 (w32 (h 100 x0 0 + 1))) 102 x0 0 - 1 ≤ x2) → 0 ≤ x2) (p13 : ¬ ((vup h 100 x0 0 (w32 (h 100 x0 0 + 1))) 102 x0 0 - 1 ≤ x2) → x2 + 1 + ((vup h 100 x0 0 (w32 (h 100 x0 0 + 1))) 102 x0 0 - 1 - x2) ≤ (vup h 100 x0 0 (w32 (h 100 x0 0 + 1))) 1 x1 0) (p14 : ¬ ((vup h 100 x0 0 (w32 (h 100 x0 0 + 1))) 102 x0 0 - 1 ≤ x2) → x2 + ((vup h 100 x0 0 (w32 (h 100 x0 0 + 1))) 102 x0 0 - 1 - x2) ≤ (vup h 100 x0 0 (w32 (h 100 x0 0 + 1))) 1 x1 0) (s15 : ¬ ((vup h 100 x0 0 (w32 (h 100 x0 0 + 1))) 102 x0 0 - 1 ≤ x2) → (∃ c : Nat, c < 14 ∧ ∀ i : Int, 0 ≤ i → i < (vup h 100 x0 0 (w32 (h 100 x0 0 + 1))) 102 x0 0 - 1 - x2 → (vup h 100 x0 0 (w32 (h 100 x0 0 + 1))) 2 x1 (x2 + 1 + i) = 0 ∨ (vup h 100 x0 0 (w32 (h 100 x0 0 + 1))) 0 ((vup h 100 x0 0 (w32 (h 100 x0 0 + 1))) 2 x1 (x2 + 1 + i)) 0 = 20 + c)) (p16 : (if (vup h 100 x0 0 (w32 (h 100 x0 0 + 1))) 102 x0 0 - 1 ≤ x2 then vup h 100 x0 0 (w32 (h 100 x0 0 + 1)) else vcp (vup h 100 x0 0 (w32 (h 100 x0 0 + 1))) x1 (x2 + 1) x1 x2 ((vup h 100 x0 0 (w32 (h 100 x0 0 + 1))) 102 x0 0 - 1 - x2)) 0 x0 0 = 20) (p17 : (vup (if (vup h 100 x0 0 (w32 (h 100 x0 0 + 1))) 102 x0 0 - 1 ≤ x2 then vup h 100 x0 0 (w32 (h 100 x0 0 + 1)) else vcp (vup h 100 x0 0 (w32 (h 100 x0 0 + 1))) x1 (x2 + 1) x1 x2 ((vup h 100 x0 0 (w32 (h 100 x0 0 + 1))) 102 x0 0 - 1 - x2)) 102 x0 0 ((vup h 100 x0 0 (w32 (h 100 x0 0 + 1))) 102 x0 0 - 1)) 0 x1 0 = 6) (p18 : 0 ≤ (vup h 100 x0 0 (w32 (h 100 x0 0 + 1))) 102 x0 0 - 1) (p19 : (vup h 100 x0 0 (w32 (h 100 x0 0 + 1))) 102 x0 0 - 1 < (vup (if (vup h 100 x0 0 (w32 (h 100 x0 0 + 1))) 102 x0 0 - 1 ≤ x2 then vup h 100 x0 0 (w32 (h 100 x0 0 + 1)) else vcp (vup h 100 x0 0 (w32 (h 100 x0 0 + 1))) x1 (x2 + 1) x1 x2 ((vup h 100 x0 0 (w32 (h 100 x0 0 + 1))) 102 x0 0 - 1 - x2)) 102 x0 0 ((vup h 100 x0 0 (w32 (h 100 x0 0 + 1))) 102 x0 0 - 1)) 1 x1 0) : vrun mJx4a65c_fastRemove_b59b0 0 [(1, x0), (1, x1), (0, x2), (9, 0)] [] h = some (.inl none, vup (vup (if (vup h 100 x0 0 (w32 (h 100 x0 0 + 1))) 102 x0 0 - 1 ≤ x2 then vup h 100 x0 0 (w32 (h 100 x0 0 + 1)) else vcp (vup h 100 x0 0 (w32 (h 100 x0 0 + 1))) x1 (x2 + 1) x1 x2 ((vup h 100 x0 0 (w32 (h 100 x0 0 + 1))) 102 x0 0 - 1 - x2)) 102 x0 0 ((vup h 100 x0 0 (w32 (h 100 x0 0 + 1))) 102 x0 0 - 1)) 2 x1 ((vup h 100 x0 0 (w32 (h 100 x0 0 + 1))) 102 x0 0 - 1) 0) := by
  refine (rn_aload_n (pc := 0) (dd bJx4a65c_fastRemove_b59b0 dJx4a65c_fastRemove_b59b0_0) rfl).trans ?_
  refine (rn_dup (pc := 1) (dd bJx4a65c_fastRemove_b59b0 dJx4a65c_fastRemove_b59b0_1) (by decide)).trans ?_
  refine (rg_gf (pc := 2) (dd bJx4a65c_fastRemove_b59b0 dJx4a65c_fastRemove_b59b0_2) (ci := 0) (j := 0) rfl rfl (key := 100) rfl (kc := 20) rfl p1 rfl).trans ?_
  refine (rn_iconst (pc := 5) (dd bJx4a65c_fastRemove_b59b0 dJx4a65c_fastRemove_b59b0_5) (by decide)).trans ?_
  refine (rn_iadd (pc := 6) (dd bJx4a65c_fastRemove_b59b0 dJx4a65c_fastRemove_b59b0_6)).trans ?_
  refine (rg_pf (pc := 7) (dd bJx4a65c_fastRemove_b59b0 dJx4a65c_fastRemove_b59b0_7) (ci := 0) (j := 0) rfl (key := 100) rfl (kc := 20) rfl p1 rfl (by intro z; cases z) (by decide)).trans ?_
  refine (rn_aload_n (pc := 10) (dd bJx4a65c_fastRemove_b59b0 dJx4a65c_fastRemove_b59b0_10) rfl).trans ?_
  refine (rg_gf (pc := 11) (dd bJx4a65c_fastRemove_b59b0 dJx4a65c_fastRemove_b59b0_11) (ci := 0) (j := 2) rfl rfl (key := 102) rfl (kc := 20) rfl p2 rfl).trans ?_
  refine (rn_iconst (pc := 14) (dd bJx4a65c_fastRemove_b59b0 dJx4a65c_fastRemove_b59b0_14) (by decide)).trans ?_
  refine (rg_isub (pc := 15) (dd bJx4a65c_fastRemove_b59b0 dJx4a65c_fastRemove_b59b0_15) p3 p4).trans ?_
  refine (rn_dup (pc := 16) (dd bJx4a65c_fastRemove_b59b0 dJx4a65c_fastRemove_b59b0_16) (by decide)).trans ?_
  refine (rn_istore_n (pc := 17) (dd bJx4a65c_fastRemove_b59b0 dJx4a65c_fastRemove_b59b0_17) (Nat.le_of_ble_eq_true rfl) rfl).trans ?_
  refine (rn_iload_n (pc := 18) (dd bJx4a65c_fastRemove_b59b0 dJx4a65c_fastRemove_b59b0_18) rfl).trans ?_
  have e1 : vrun mJx4a65c_fastRemove_b59b0 19 [(1, x0), (1, x1), (0, x2), (0, (vup h 100 x0 0 (w32 (h 100 x0 0 + 1))) 102 x0 0 - 1)] [(0, x2), (0, (vup h 100 x0 0 (w32 (h 100 x0 0 + 1))) 102 x0 0 - 1)] (vup h 100 x0 0 (w32 (h 100 x0 0 + 1))) = vrun mJx4a65c_fastRemove_b59b0 34 [(1, x0), (1, x1), (0, x2), (0, (vup h 100 x0 0 (w32 (h 100 x0 0 + 1))) 102 x0 0 - 1)] [] (if (vup h 100 x0 0 (w32 (h 100 x0 0 + 1))) 102 x0 0 - 1 ≤ x2 then vup h 100 x0 0 (w32 (h 100 x0 0 + 1)) else vcp (vup h 100 x0 0 (w32 (h 100 x0 0 + 1))) x1 (x2 + 1) x1 x2 ((vup h 100 x0 0 (w32 (h 100 x0 0 + 1))) 102 x0 0 - 1 - x2)) := by
    refine (rn_icmp_le (t := 34) (pc := 19) (dd bJx4a65c_fastRemove_b59b0 dJx4a65c_fastRemove_b59b0_19) rfl).trans ?_
    by_cases c1 : (vup h 100 x0 0 (w32 (h 100 x0 0 + 1))) 102 x0 0 - 1 ≤ x2
    · refine (if_pos c1).trans ?_
      refine Eq.trans (b := vrun mJx4a65c_fastRemove_b59b0 34 [(1, x0), (1, x1), (0, x2), (0, (vup h 100 x0 0 (w32 (h 100 x0 0 + 1))) 102 x0 0 - 1)] [] (vup h 100 x0 0 (w32 (h 100 x0 0 + 1)))) rfl ?_
      simp only [if_pos c1]
    · refine (if_neg c1).trans ?_
      refine (rn_aload_n (pc := 22) (dd bJx4a65c_fastRemove_b59b0 dJx4a65c_fastRemove_b59b0_22) rfl).trans ?_
      refine (rn_iload_n (pc := 23) (dd bJx4a65c_fastRemove_b59b0 dJx4a65c_fastRemove_b59b0_23) rfl).trans ?_
      refine (rn_iconst (pc := 24) (dd bJx4a65c_fastRemove_b59b0 dJx4a65c_fastRemove_b59b0_24) (by decide)).trans ?_
      refine (rg_iadd (pc := 25) (dd bJx4a65c_fastRemove_b59b0 dJx4a65c_fastRemove_b59b0_25) (p5 c1) (p6 c1)).trans ?_
      refine (rn_aload_n (pc := 26) (dd bJx4a65c_fastRemove_b59b0 dJx4a65c_fastRemove_b59b0_26) rfl).trans ?_
      refine (rn_iload_n (pc := 27) (dd bJx4a65c_fastRemove_b59b0 dJx4a65c_fastRemove_b59b0_27) rfl).trans ?_
      refine (rn_iload_n (pc := 28) (dd bJx4a65c_fastRemove_b59b0 dJx4a65c_fastRemove_b59b0_28) rfl).trans ?_
      refine (rn_iload_n (pc := 29) (dd bJx4a65c_fastRemove_b59b0 dJx4a65c_fastRemove_b59b0_29) rfl).trans ?_
      refine (rg_isub (pc := 30) (dd bJx4a65c_fastRemove_b59b0 dJx4a65c_fastRemove_b59b0_30) (p7 c1) (p8 c1)).trans ?_
      refine (rg_copy6 (pc := 31) (dd bJx4a65c_fastRemove_b59b0 dJx4a65c_fastRemove_b59b0_31) rfl (p9 c1) rfl (p9 c1) rfl (p10 c1) (p11 c1) (p12 c1) (p13 c1) (p14 c1) (s15 c1) ⟨Nat.le_of_ble_eq_true rfl, Nat.le_of_ble_eq_true rfl, Nat.le_of_ble_eq_true rfl⟩).trans ?_
      refine Eq.trans (b := vrun mJx4a65c_fastRemove_b59b0 34 [(1, x0), (1, x1), (0, x2), (0, (vup h 100 x0 0 (w32 (h 100 x0 0 + 1))) 102 x0 0 - 1)] [] (vcp (vup h 100 x0 0 (w32 (h 100 x0 0 + 1))) x1 (x2 + 1) x1 x2 ((vup h 100 x0 0 (w32 (h 100 x0 0 + 1))) 102 x0 0 - 1 - x2))) rfl ?_
      simp only [if_neg c1]
  refine e1.trans ?_
  refine (rn_aload_n (pc := 34) (dd bJx4a65c_fastRemove_b59b0 dJx4a65c_fastRemove_b59b0_34) rfl).trans ?_
  refine (rn_aload_n (pc := 35) (dd bJx4a65c_fastRemove_b59b0 dJx4a65c_fastRemove_b59b0_35) rfl).trans ?_
  refine (rn_iload_n (pc := 36) (dd bJx4a65c_fastRemove_b59b0 dJx4a65c_fastRemove_b59b0_36) rfl).trans ?_
  refine (rn_dup_x1 (pc := 37) (dd bJx4a65c_fastRemove_b59b0 dJx4a65c_fastRemove_b59b0_37) (by decide)).trans ?_
  refine (rg_pf (pc := 38) (dd bJx4a65c_fastRemove_b59b0 dJx4a65c_fastRemove_b59b0_38) (ci := 0) (j := 2) rfl (key := 102) rfl (kc := 20) rfl p16 rfl (by intro z; cases z) (by decide)).trans ?_
  refine (rn_aconst_null (pc := 41) (dd bJx4a65c_fastRemove_b59b0 dJx4a65c_fastRemove_b59b0_41)).trans ?_
  refine (rg_aastore (pc := 42) (dd bJx4a65c_fastRemove_b59b0 dJx4a65c_fastRemove_b59b0_42) (kc := 6) p17 rfl p18 p19 (Or.inr (Or.inr ⟨rfl, Or.inl rfl⟩))).trans ?_
  exact rn_return (pc := 43) (dd bJx4a65c_fastRemove_b59b0 dJx4a65c_fastRemove_b59b0_43) rfl
theorem bX10_joinBehind : vmB mX10_joinBehind = cX10_joinBehind := rfl
theorem rX10_joinBehind_0 {x1 : Int} {h : vH} (p1 : ¬ (x1 < 0) → x1 + 1 < 2147483648) (p2 : ¬ (x1 < 0) → h 0 4 0 = 31) (p3 : ¬ (x1 < 0) → ¬ (h 1201 4 0 ≤ x1 + 1) → h 1201 4 0 ≤ 60 → h 0 (h 1200 4 0) 0 = 4) (p4 : ¬ (x1 < 0) → ¬ (h 1201 4 0 ≤ x1 + 1) → h 1201 4 0 ≤ 60 → x1 < h 1 (h 1200 4 0) 0) (p5 : ¬ (x1 < 0) → ¬ (h 1201 4 0 ≤ x1 + 1) → h 1201 4 0 ≤ 60 → x1 + 1 < h 1 (h 1200 4 0) 0) (p6 : ¬ (x1 < 0) → ¬ (h 1201 4 0 ≤ x1 + 1) → h 1201 4 0 ≤ 60 → h 0 (h 2 (h 1200 4 0) x1) 0 = 25) : vrun mX10_joinBehind 0 [(1, 4), (0, x1), (9, 0), (9, 0)] [] h = if x1 < 0 then some (.inl none, h) else if h 1201 4 0 ≤ x1 + 1 then some (.inl none, h) else if h 1201 4 0 ≤ 60 then vret vrun mX10_joinBehind 43 [(1, 4), (0, x1), (1, h 2 (h 1200 4 0) x1), (1, h 2 (h 1200 4 0) (x1 + 1))] [] (vcl mX4_takeAllFrom [(1, h 2 (h 1200 4 0) x1), (1, h 2 (h 1200 4 0) (x1 + 1)), (0, 0)] h) else some (.inl none, h) := by
  refine (rn_iload_n (pc := 0) (dd bX10_joinBehind dX10_joinBehind_0) rfl).trans ?_
  refine (rn_if_lt (t := 23) (pc := 1) (dd bX10_joinBehind dX10_joinBehind_1) rfl).trans (itec (fun c1 => ?_) (fun c1 => ?_))
  · exact rn_return (pc := 23) (dd bX10_joinBehind dX10_joinBehind_23) rfl
  · refine (rn_iload_n (pc := 4) (dd bX10_joinBehind dX10_joinBehind_4) rfl).trans ?_
    refine (rn_iconst (pc := 5) (dd bX10_joinBehind dX10_joinBehind_5) (by decide)).trans ?_
    refine (rg_iadd (pc := 6) (dd bX10_joinBehind dX10_joinBehind_6) (by omega) (p1 c1)).trans ?_
    refine (rn_aload_n (pc := 7) (dd bX10_joinBehind dX10_joinBehind_7) rfl).trans ?_
    refine (rg_gf (pc := 8) (dd bX10_joinBehind dX10_joinBehind_8) (ci := 11) (j := 1) rfl rfl (key := 1201) rfl (kc := 31) rfl (p2 c1) rfl).trans ?_
    refine (rn_icmp_ge (t := 23) (pc := 11) (dd bX10_joinBehind dX10_joinBehind_11) rfl).trans (itec (fun c2 => ?_) (fun c2 => ?_))
    · exact rn_return (pc := 23) (dd bX10_joinBehind dX10_joinBehind_23) rfl
    · refine (rn_aload_n (pc := 14) (dd bX10_joinBehind dX10_joinBehind_14) rfl).trans ?_
      refine (rg_gf (pc := 15) (dd bX10_joinBehind dX10_joinBehind_15) (ci := 11) (j := 1) rfl rfl (key := 1201) rfl (kc := 31) rfl (p2 c1) rfl).trans ?_
      refine (rn_bipush (pc := 18) (dd bX10_joinBehind dX10_joinBehind_18) (by decide)).trans ?_
      refine (rn_icmp_le (t := 24) (pc := 20) (dd bX10_joinBehind dX10_joinBehind_20) rfl).trans (itec (fun c3 => ?_) (fun c3 => ?_))
      · refine (rn_aload_n (pc := 24) (dd bX10_joinBehind dX10_joinBehind_24) rfl).trans ?_
        refine (rg_gf (pc := 25) (dd bX10_joinBehind dX10_joinBehind_25) (ci := 11) (j := 0) rfl rfl (key := 1200) rfl (kc := 31) rfl (p2 c1) rfl).trans ?_
        refine (rn_iload_n (pc := 28) (dd bX10_joinBehind dX10_joinBehind_28) rfl).trans ?_
        refine (rg_aaload (pc := 29) (dd bX10_joinBehind dX10_joinBehind_29) (p3 c1 c2 c3) (by decide) rfl (Int.not_lt.mp c1) (p4 c1 c2 c3) rfl).trans ?_
        refine (rn_astore_n (pc := 30) (dd bX10_joinBehind dX10_joinBehind_30) (Nat.le_of_ble_eq_true rfl) rfl).trans ?_
        refine (rn_aload_n (pc := 31) (dd bX10_joinBehind dX10_joinBehind_31) rfl).trans ?_
        refine (rg_gf (pc := 32) (dd bX10_joinBehind dX10_joinBehind_32) (ci := 11) (j := 0) rfl rfl (key := 1200) rfl (kc := 31) rfl (p2 c1) rfl).trans ?_
        refine (rn_iload_n (pc := 35) (dd bX10_joinBehind dX10_joinBehind_35) rfl).trans ?_
        refine (rn_iconst (pc := 36) (dd bX10_joinBehind dX10_joinBehind_36) (by decide)).trans ?_
        refine (rg_iadd (pc := 37) (dd bX10_joinBehind dX10_joinBehind_37) (by have z0 := p1 c1; omega) (by have z0 := p1 c1; omega)).trans ?_
        refine (rg_aaload (pc := 38) (dd bX10_joinBehind dX10_joinBehind_38) (p3 c1 c2 c3) (by decide) rfl (by have z0 := p1 c1; omega) (p5 c1 c2 c3) rfl).trans ?_
        refine (rn_astore_n (pc := 39) (dd bX10_joinBehind dX10_joinBehind_39) (Nat.le_of_ble_eq_true rfl) rfl).trans ?_
        refine (rn_aload_n (pc := 40) (dd bX10_joinBehind dX10_joinBehind_40) rfl).trans ?_
        refine (rn_aload_n (pc := 41) (dd bX10_joinBehind dX10_joinBehind_41) rfl).trans ?_
        refine (rn_iconst (pc := 42) (dd bX10_joinBehind dX10_joinBehind_42) (by decide)).trans ?_
        exact rg_virtual (pc := 43) (dd bX10_joinBehind dX10_joinBehind_43) rfl rfl (by decide) (kc := 25) rfl (p6 c1 c2 c3) (as := [(1, h 2 (h 1200 4 0) x1), (1, h 2 (h 1200 4 0) (x1 + 1)), (0, 0)]) rfl ⟨Nat.le_of_ble_eq_true rfl, Nat.le_of_ble_eq_true rfl, Nat.le_of_ble_eq_true rfl, Nat.le_of_ble_eq_true rfl⟩
      · exact rn_return (pc := 23) (dd bX10_joinBehind dX10_joinBehind_23) rfl
theorem rX10_joinBehind_46 {x1 : Int} {x2 : Int} {x3 : Int} {h : vH} (p1 : h 0 x2 0 = 25) (p2 : h 602 x2 0 = 0 → h 0 x3 0 = 25) (p3 : (vup h 602 x2 0 (if ¬ (h 602 x2 0 = 0) ∨ ¬ (h 602 x3 0 = 0) then 1 else 0)) 0 4 0 = 31) (p4 : (-2147483648) ≤ x1 + 2) (p5 : x1 + 2 < 2147483648) (p6 : (-2147483648) ≤ x1 + 1) (p7 : x1 + 1 < 2147483648) (p8 : (-2147483648) ≤ (vup h 602 x2 0 (if ¬ (h 602 x2 0 = 0) ∨ ¬ (h 602 x3 0 = 0) then 1 else 0)) 1201 4 0 - x1) (p9 : (vup h 602 x2 0 (if ¬ (h 602 x2 0 = 0) ∨ ¬ (h 602 x3 0 = 0) then 1 else 0)) 1201 4 0 - x1 < 2147483648) (p10 : (-2147483648) ≤ (vup h 602 x2 0 (if ¬ (h 602 x2 0 = 0) ∨ ¬ (h 602 x3 0 = 0) then 1 else 0)) 1201 4 0 - x1 - 2) (p11 : (vup h 602 x2 0 (if ¬ (h 602 x2 0 = 0) ∨ ¬ (h 602 x3 0 = 0) then 1 else 0)) 0 ((vup h 602 x2 0 (if ¬ (h 602 x2 0 = 0) ∨ ¬ (h 602 x3 0 = 0) then 1 else 0)) 1200 4 0) 0 = 4) (p12 : 0 ≤ (vup h 602 x2 0 (if ¬ (h 602 x2 0 = 0) ∨ ¬ (h 602 x3 0 = 0) then 1 else 0)) 1201 4 0 - x1 - 2) (p13 : 0 ≤ x1 + 2) (p14 : 0 ≤ x1 + 1) (p15 : x1 + 2 + ((vup h 602 x2 0 (if ¬ (h 602 x2 0 = 0) ∨ ¬ (h 602 x3 0 = 0) then 1 else 0)) 1201 4 0 - x1 - 2) ≤ (vup h 602 x2 0 (if ¬ (h 602 x2 0 = 0) ∨ ¬ (h 602 x3 0 = 0) then 1 else 0)) 1 ((vup h 602 x2 0 (if ¬ (h 602 x2 0 = 0) ∨ ¬ (h 602 x3 0 = 0) then 1 else 0)) 1200 4 0) 0) (p16 : x1 + 1 + ((vup h 602 x2 0 (if ¬ (h 602 x2 0 = 0) ∨ ¬ (h 602 x3 0 = 0) then 1 else 0)) 1201 4 0 - x1 - 2) ≤ (vup h 602 x2 0 (if ¬ (h 602 x2 0 = 0) ∨ ¬ (h 602 x3 0 = 0) then 1 else 0)) 1 ((vup h 602 x2 0 (if ¬ (h 602 x2 0 = 0) ∨ ¬ (h 602 x3 0 = 0) then 1 else 0)) 1200 4 0) 0) (s17 : (∀ i : Int, 0 ≤ i → i < (vup h 602 x2 0 (if ¬ (h 602 x2 0 = 0) ∨ ¬ (h 602 x3 0 = 0) then 1 else 0)) 1201 4 0 - x1 - 2 → (vup h 602 x2 0 (if ¬ (h 602 x2 0 = 0) ∨ ¬ (h 602 x3 0 = 0) then 1 else 0)) 2 ((vup h 602 x2 0 (if ¬ (h 602 x2 0 = 0) ∨ ¬ (h 602 x3 0 = 0) then 1 else 0)) 1200 4 0) (x1 + 2 + i) = 0 ∨ (vup h 602 x2 0 (if ¬ (h 602 x2 0 = 0) ∨ ¬ (h 602 x3 0 = 0) then 1 else 0)) 0 ((vup h 602 x2 0 (if ¬ (h 602 x2 0 = 0) ∨ ¬ (h 602 x3 0 = 0) then 1 else 0)) 2 ((vup h 602 x2 0 (if ¬ (h 602 x2 0 = 0) ∨ ¬ (h 602 x3 0 = 0) then 1 else 0)) 1200 4 0) (x1 + 2 + i)) 0 = 25)) (p18 : (vcp (vup h 602 x2 0 (if ¬ (h 602 x2 0 = 0) ∨ ¬ (h 602 x3 0 = 0) then 1 else 0)) ((vup h 602 x2 0 (if ¬ (h 602 x2 0 = 0) ∨ ¬ (h 602 x3 0 = 0) then 1 else 0)) 1200 4 0) (x1 + 2) ((vup h 602 x2 0 (if ¬ (h 602 x2 0 = 0) ∨ ¬ (h 602 x3 0 = 0) then 1 else 0)) 1200 4 0) (x1 + 1) ((vup h 602 x2 0 (if ¬ (h 602 x2 0 = 0) ∨ ¬ (h 602 x3 0 = 0) then 1 else 0)) 1201 4 0 - x1 - 2)) 0 4 0 = 31) (p19 : (-2147483648) ≤ (vcp (vup h 602 x2 0 (if ¬ (h 602 x2 0 = 0) ∨ ¬ (h 602 x3 0 = 0) then 1 else 0)) ((vup h 602 x2 0 (if ¬ (h 602 x2 0 = 0) ∨ ¬ (h 602 x3 0 = 0) then 1 else 0)) 1200 4 0) (x1 + 2) ((vup h 602 x2 0 (if ¬ (h 602 x2 0 = 0) ∨ ¬ (h 602 x3 0 = 0) then 1 else 0)) 1200 4 0) (x1 + 1) ((vup h 602 x2 0 (if ¬ (h 602 x2 0 = 0) ∨ ¬ (h 602 x3 0 = 0) then 1 else 0)) 1201 4 0 - x1 - 2)) 1201 4 0 - 1) (p20 : (vcp (vup h 602 x2 0 (if ¬ (h 602 x2 0 = 0) ∨ ¬ (h 602 x3 0 = 0) then 1 else 0)) ((vup h 602 x2 0 (if ¬ (h 602 x2 0 = 0) ∨ ¬ (h 602 x3 0 = 0) then 1 else 0)) 1200 4 0) (x1 + 2) ((vup h 602 x2 0 (if ¬ (h 602 x2 0 = 0) ∨ ¬ (h 602 x3 0 = 0) then 1 else 0)) 1200 4 0) (x1 + 1) ((vup h 602 x2 0 (if ¬ (h 602 x2 0 = 0) ∨ ¬ (h 602 x3 0 = 0) then 1 else 0)) 1201 4 0 - x1 - 2)) 1201 4 0 - 1 < 2147483648) (p21 : (vcp (vup h 602 x2 0 (if ¬ (h 602 x2 0 = 0) ∨ ¬ (h 602 x3 0 = 0) then 1 else 0)) ((vup h 602 x2 0 (if ¬ (h 602 x2 0 = 0) ∨ ¬ (h 602 x3 0 = 0) then 1 else 0)) 1200 4 0) (x1 + 2) ((vup h 602 x2 0 (if ¬ (h 602 x2 0 = 0) ∨ ¬ (h 602 x3 0 = 0) then 1 else 0)) 1200 4 0) (x1 + 1) ((vup h 602 x2 0 (if ¬ (h 602 x2 0 = 0) ∨ ¬ (h 602 x3 0 = 0) then 1 else 0)) 1201 4 0 - x1 - 2)) 0 ((vcp (vup h 602 x2 0 (if ¬ (h 602 x2 0 = 0) ∨ ¬ (h 602 x3 0 = 0) then 1 else 0)) ((vup h 602 x2 0 (if ¬ (h 602 x2 0 = 0) ∨ ¬ (h 602 x3 0 = 0) then 1 else 0)) 1200 4 0) (x1 + 2) ((vup h 602 x2 0 (if ¬ (h 602 x2 0 = 0) ∨ ¬ (h 602 x3 0 = 0) then 1 else 0)) 1200 4 0) (x1 + 1) ((vup h 602 x2 0 (if ¬ (h 602 x2 0 = 0) ∨ ¬ (h 602 x3 0 = 0) then 1 else 0)) 1201 4 0 - x1 - 2)) 1200 4 0) 0 = 4) (p22 : (vcp (vup h 602 x2 0 (if ¬ (h 602 x2 0 = 0) ∨ ¬ (h 602 x3 0 = 0) then 1 else 0)) ((vup h 602 x2 0 (if ¬ (h 602 x2 0 = 0) ∨ ¬ (h 602 x3 0 = 0) then 1 else 0)) 1200 4 0) (x1 + 2) ((vup h 602 x2 0 (if ¬ (h 602 x2 0 = 0) ∨ ¬ (h 602 x3 0 = 0) then 1 else 0)) 1200 4 0) (x1 + 1) ((vup h 602 x2 0 (if ¬ (h 602 x2 0 = 0) ∨ ¬ (h 602 x3 0 = 0) then 1 else 0)) 1201 4 0 - x1 - 2)) 0 x3 0 = 25) (p23 : 0 ≤ (vcp (vup h 602 x2 0 (if ¬ (h 602 x2 0 = 0) ∨ ¬ (h 602 x3 0 = 0) then 1 else 0)) ((vup h 602 x2 0 (if ¬ (h 602 x2 0 = 0) ∨ ¬ (h 602 x3 0 = 0) then 1 else 0)) 1200 4 0) (x1 + 2) ((vup h 602 x2 0 (if ¬ (h 602 x2 0 = 0) ∨ ¬ (h 602 x3 0 = 0) then 1 else 0)) 1200 4 0) (x1 + 1) ((vup h 602 x2 0 (if ¬ (h 602 x2 0 = 0) ∨ ¬ (h 602 x3 0 = 0) then 1 else 0)) 1201 4 0 - x1 - 2)) 1201 4 0 - 1) (p24 : (vcp (vup h 602 x2 0 (if ¬ (h 602 x2 0 = 0) ∨ ¬ (h 602 x3 0 = 0) then 1 else 0)) ((vup h 602 x2 0 (if ¬ (h 602 x2 0 = 0) ∨ ¬ (h 602 x3 0 = 0) then 1 else 0)) 1200 4 0) (x1 + 2) ((vup h 602 x2 0 (if ¬ (h 602 x2 0 = 0) ∨ ¬ (h 602 x3 0 = 0) then 1 else 0)) 1200 4 0) (x1 + 1) ((vup h 602 x2 0 (if ¬ (h 602 x2 0 = 0) ∨ ¬ (h 602 x3 0 = 0) then 1 else 0)) 1201 4 0 - x1 - 2)) 1201 4 0 - 1 < (vcp (vup h 602 x2 0 (if ¬ (h 602 x2 0 = 0) ∨ ¬ (h 602 x3 0 = 0) then 1 else 0)) ((vup h 602 x2 0 (if ¬ (h 602 x2 0 = 0) ∨ ¬ (h 602 x3 0 = 0) then 1 else 0)) 1200 4 0) (x1 + 2) ((vup h 602 x2 0 (if ¬ (h 602 x2 0 = 0) ∨ ¬ (h 602 x3 0 = 0) then 1 else 0)) 1200 4 0) (x1 + 1) ((vup h 602 x2 0 (if ¬ (h 602 x2 0 = 0) ∨ ¬ (h 602 x3 0 = 0) then 1 else 0)) 1201 4 0 - x1 - 2)) 1 ((vcp (vup h 602 x2 0 (if ¬ (h 602 x2 0 = 0) ∨ ¬ (h 602 x3 0 = 0) then 1 else 0)) ((vup h 602 x2 0 (if ¬ (h 602 x2 0 = 0) ∨ ¬ (h 602 x3 0 = 0) then 1 else 0)) 1200 4 0) (x1 + 2) ((vup h 602 x2 0 (if ¬ (h 602 x2 0 = 0) ∨ ¬ (h 602 x3 0 = 0) then 1 else 0)) 1200 4 0) (x1 + 1) ((vup h 602 x2 0 (if ¬ (h 602 x2 0 = 0) ∨ ¬ (h 602 x3 0 = 0) then 1 else 0)) 1201 4 0 - x1 - 2)) 1200 4 0) 0) (p25 : (vup (vcp (vup h 602 x2 0 (if ¬ (h 602 x2 0 = 0) ∨ ¬ (h 602 x3 0 = 0) then 1 else 0)) ((vup h 602 x2 0 (if ¬ (h 602 x2 0 = 0) ∨ ¬ (h 602 x3 0 = 0) then 1 else 0)) 1200 4 0) (x1 + 2) ((vup h 602 x2 0 (if ¬ (h 602 x2 0 = 0) ∨ ¬ (h 602 x3 0 = 0) then 1 else 0)) 1200 4 0) (x1 + 1) ((vup h 602 x2 0 (if ¬ (h 602 x2 0 = 0) ∨ ¬ (h 602 x3 0 = 0) then 1 else 0)) 1201 4 0 - x1 - 2)) 2 ((vcp (vup h 602 x2 0 (if ¬ (h 602 x2 0 = 0) ∨ ¬ (h 602 x3 0 = 0) then 1 else 0)) ((vup h 602 x2 0 (if ¬ (h 602 x2 0 = 0) ∨ ¬ (h 602 x3 0 = 0) then 1 else 0)) 1200 4 0) (x1 + 2) ((vup h 602 x2 0 (if ¬ (h 602 x2 0 = 0) ∨ ¬ (h 602 x3 0 = 0) then 1 else 0)) 1200 4 0) (x1 + 1) ((vup h 602 x2 0 (if ¬ (h 602 x2 0 = 0) ∨ ¬ (h 602 x3 0 = 0) then 1 else 0)) 1201 4 0 - x1 - 2)) 1200 4 0) ((vcp (vup h 602 x2 0 (if ¬ (h 602 x2 0 = 0) ∨ ¬ (h 602 x3 0 = 0) then 1 else 0)) ((vup h 602 x2 0 (if ¬ (h 602 x2 0 = 0) ∨ ¬ (h 602 x3 0 = 0) then 1 else 0)) 1200 4 0) (x1 + 2) ((vup h 602 x2 0 (if ¬ (h 602 x2 0 = 0) ∨ ¬ (h 602 x3 0 = 0) then 1 else 0)) 1200 4 0) (x1 + 1) ((vup h 602 x2 0 (if ¬ (h 602 x2 0 = 0) ∨ ¬ (h 602 x3 0 = 0) then 1 else 0)) 1201 4 0 - x1 - 2)) 1201 4 0 - 1) x3) 0 4 0 = 31) (p26 : (-2147483648) ≤ (vup (vcp (vup h 602 x2 0 (if ¬ (h 602 x2 0 = 0) ∨ ¬ (h 602 x3 0 = 0) then 1 else 0)) ((vup h 602 x2 0 (if ¬ (h 602 x2 0 = 0) ∨ ¬ (h 602 x3 0 = 0) then 1 else 0)) 1200 4 0) (x1 + 2) ((vup h 602 x2 0 (if ¬ (h 602 x2 0 = 0) ∨ ¬ (h 602 x3 0 = 0) then 1 else 0)) 1200 4 0) (x1 + 1) ((vup h 602 x2 0 (if ¬ (h 602 x2 0 = 0) ∨ ¬ (h 602 x3 0 = 0) then 1 else 0)) 1201 4 0 - x1 - 2)) 2 ((vcp (vup h 602 x2 0 (if ¬ (h 602 x2 0 = 0) ∨ ¬ (h 602 x3 0 = 0) then 1 else 0)) ((vup h 602 x2 0 (if ¬ (h 602 x2 0 = 0) ∨ ¬ (h 602 x3 0 = 0) then 1 else 0)) 1200 4 0) (x1 + 2) ((vup h 602 x2 0 (if ¬ (h 602 x2 0 = 0) ∨ ¬ (h 602 x3 0 = 0) then 1 else 0)) 1200 4 0) (x1 + 1) ((vup h 602 x2 0 (if ¬ (h 602 x2 0 = 0) ∨ ¬ (h 602 x3 0 = 0) then 1 else 0)) 1201 4 0 - x1 - 2)) 1200 4 0) ((vcp (vup h 602 x2 0 (if ¬ (h 602 x2 0 = 0) ∨ ¬ (h 602 x3 0 = 0) then 1 else 0)) ((vup h 602 x2 0 (if ¬ (h 602 x2 0 = 0) ∨ ¬ (h 602 x3 0 = 0) then 1 else 0)) 1200 4 0) (x1 + 2) ((vup h 602 x2 0 (if ¬ (h 602 x2 0 = 0) ∨ ¬ (h 602 x3 0 = 0) then 1 else 0)) 1200 4 0) (x1 + 1) ((vup h 602 x2 0 (if ¬ (h 602 x2 0 = 0) ∨ ¬ (h 602 x3 0 = 0) then 1 else 0)) 1201 4 0 - x1 - 2)) 1201 4 0 - 1) x3) 1201 4 0 - 1) (p27 : (vup (vcp (vup h 602 x2 0 (if ¬ (h 602 x2 0 = 0) ∨ ¬ (h 602 x3 0 = 0) then 1 else 0)) ((vup h 602 x2 0 (if ¬ (h 602 x2 0 = 0) ∨ ¬ (h 602 x3 0 = 0) then 1 else 0)) 1200 4 0) (x1 + 2) ((vup h 602 x2 0 (if ¬ (h 602 x2 0 = 0) ∨ ¬ (h 602 x3 0 = 0) then 1 else 0)) 1200 4 0) (x1 + 1) ((vup h 602 x2 0 (if ¬ (h 602 x2 0 = 0) ∨ ¬ (h 602 x3 0 = 0) then 1 else 0)) 1201 4 0 - x1 - 2)) 2 ((vcp (vup h 602 x2 0 (if ¬ (h 602 x2 0 = 0) ∨ ¬ (h 602 x3 0 = 0) then 1 else 0)) ((vup h 602 x2 0 (if ¬ (h 602 x2 0 = 0) ∨ ¬ (h 602 x3 0 = 0) then 1 else 0)) 1200 4 0) (x1 + 2) ((vup h 602 x2 0 (if ¬ (h 602 x2 0 = 0) ∨ ¬ (h 602 x3 0 = 0) then 1 else 0)) 1200 4 0) (x1 + 1) ((vup h 602 x2 0 (if ¬ (h 602 x2 0 = 0) ∨ ¬ (h 602 x3 0 = 0) then 1 else 0)) 1201 4 0 - x1 - 2)) 1200 4 0) ((vcp (vup h 602 x2 0 (if ¬ (h 602 x2 0 = 0) ∨ ¬ (h 602 x3 0 = 0) then 1 else 0)) ((vup h 602 x2 0 (if ¬ (h 602 x2 0 = 0) ∨ ¬ (h 602 x3 0 = 0) then 1 else 0)) 1200 4 0) (x1 + 2) ((vup h 602 x2 0 (if ¬ (h 602 x2 0 = 0) ∨ ¬ (h 602 x3 0 = 0) then 1 else 0)) 1200 4 0) (x1 + 1) ((vup h 602 x2 0 (if ¬ (h 602 x2 0 = 0) ∨ ¬ (h 602 x3 0 = 0) then 1 else 0)) 1201 4 0 - x1 - 2)) 1201 4 0 - 1) x3) 1201 4 0 - 1 < 2147483648) : vrun mX10_joinBehind 46 [(1, 4), (0, x1), (1, x2), (1, x3)] [] h = some (.inl none, vup (vup (vcp (vup h 602 x2 0 (if ¬ (h 602 x2 0 = 0) ∨ ¬ (h 602 x3 0 = 0) then 1 else 0)) ((vup h 602 x2 0 (if ¬ (h 602 x2 0 = 0) ∨ ¬ (h 602 x3 0 = 0) then 1 else 0)) 1200 4 0) (x1 + 2) ((vup h 602 x2 0 (if ¬ (h 602 x2 0 = 0) ∨ ¬ (h 602 x3 0 = 0) then 1 else 0)) 1200 4 0) (x1 + 1) ((vup h 602 x2 0 (if ¬ (h 602 x2 0 = 0) ∨ ¬ (h 602 x3 0 = 0) then 1 else 0)) 1201 4 0 - x1 - 2)) 2 ((vcp (vup h 602 x2 0 (if ¬ (h 602 x2 0 = 0) ∨ ¬ (h 602 x3 0 = 0) then 1 else 0)) ((vup h 602 x2 0 (if ¬ (h 602 x2 0 = 0) ∨ ¬ (h 602 x3 0 = 0) then 1 else 0)) 1200 4 0) (x1 + 2) ((vup h 602 x2 0 (if ¬ (h 602 x2 0 = 0) ∨ ¬ (h 602 x3 0 = 0) then 1 else 0)) 1200 4 0) (x1 + 1) ((vup h 602 x2 0 (if ¬ (h 602 x2 0 = 0) ∨ ¬ (h 602 x3 0 = 0) then 1 else 0)) 1201 4 0 - x1 - 2)) 1200 4 0) ((vcp (vup h 602 x2 0 (if ¬ (h 602 x2 0 = 0) ∨ ¬ (h 602 x3 0 = 0) then 1 else 0)) ((vup h 602 x2 0 (if ¬ (h 602 x2 0 = 0) ∨ ¬ (h 602 x3 0 = 0) then 1 else 0)) 1200 4 0) (x1 + 2) ((vup h 602 x2 0 (if ¬ (h 602 x2 0 = 0) ∨ ¬ (h 602 x3 0 = 0) then 1 else 0)) 1200 4 0) (x1 + 1) ((vup h 602 x2 0 (if ¬ (h 602 x2 0 = 0) ∨ ¬ (h 602 x3 0 = 0) then 1 else 0)) 1201 4 0 - x1 - 2)) 1201 4 0 - 1) x3) 1201 4 0 ((vup (vcp (vup h 602 x2 0 (if ¬ (h 602 x2 0 = 0) ∨ ¬ (h 602 x3 0 = 0) then 1 else 0)) ((vup h 602 x2 0 (if ¬ (h 602 x2 0 = 0) ∨ ¬ (h 602 x3 0 = 0) then 1 else 0)) 1200 4 0) (x1 + 2) ((vup h 602 x2 0 (if ¬ (h 602 x2 0 = 0) ∨ ¬ (h 602 x3 0 = 0) then 1 else 0)) 1200 4 0) (x1 + 1) ((vup h 602 x2 0 (if ¬ (h 602 x2 0 = 0) ∨ ¬ (h 602 x3 0 = 0) then 1 else 0)) 1201 4 0 - x1 - 2)) 2 ((vcp (vup h 602 x2 0 (if ¬ (h 602 x2 0 = 0) ∨ ¬ (h 602 x3 0 = 0) then 1 else 0)) ((vup h 602 x2 0 (if ¬ (h 602 x2 0 = 0) ∨ ¬ (h 602 x3 0 = 0) then 1 else 0)) 1200 4 0) (x1 + 2) ((vup h 602 x2 0 (if ¬ (h 602 x2 0 = 0) ∨ ¬ (h 602 x3 0 = 0) then 1 else 0)) 1200 4 0) (x1 + 1) ((vup h 602 x2 0 (if ¬ (h 602 x2 0 = 0) ∨ ¬ (h 602 x3 0 = 0) then 1 else 0)) 1201 4 0 - x1 - 2)) 1200 4 0) ((vcp (vup h 602 x2 0 (if ¬ (h 602 x2 0 = 0) ∨ ¬ (h 602 x3 0 = 0) then 1 else 0)) ((vup h 602 x2 0 (if ¬ (h 602 x2 0 = 0) ∨ ¬ (h 602 x3 0 = 0) then 1 else 0)) 1200 4 0) (x1 + 2) ((vup h 602 x2 0 (if ¬ (h 602 x2 0 = 0) ∨ ¬ (h 602 x3 0 = 0) then 1 else 0)) 1200 4 0) (x1 + 1) ((vup h 602 x2 0 (if ¬ (h 602 x2 0 = 0) ∨ ¬ (h 602 x3 0 = 0) then 1 else 0)) 1201 4 0 - x1 - 2)) 1201 4 0 - 1) x3) 1201 4 0 - 1)) := by
  refine (rn_aload_n (pc := 46) (dd bX10_joinBehind dX10_joinBehind_46) rfl).trans ?_
  refine (rn_aload_n (pc := 47) (dd bX10_joinBehind dX10_joinBehind_47) rfl).trans ?_
  refine (rg_gf (pc := 48) (dd bX10_joinBehind dX10_joinBehind_48) (ci := 5) (j := 2) rfl rfl (key := 602) rfl (kc := 25) rfl p1 rfl).trans ?_
  have e2 : vrun mX10_joinBehind 51 [(1, 4), (0, x1), (1, x2), (1, x3)] [(0, h 602 x2 0), (1, x2)] h = vrun mX10_joinBehind 66 [(1, 4), (0, x1), (1, x2), (1, x3)] [(0, (if ¬ (h 602 x2 0 = 0) ∨ ¬ (h 602 x3 0 = 0) then 1 else 0)), (1, x2)] h := by
    refine (rg_if_ne (t := 61) (pc := 51) (dd bX10_joinBehind dX10_joinBehind_51) rfl).trans ?_
    by_cases c1 : h 602 x2 0 = 0
    · refine (if_pos c1).trans ?_
      refine (rn_aload_n (pc := 54) (dd bX10_joinBehind dX10_joinBehind_54) rfl).trans ?_
      refine (rg_gf (pc := 55) (dd bX10_joinBehind dX10_joinBehind_55) (ci := 5) (j := 2) rfl rfl (key := 602) rfl (kc := 25) rfl (p2 c1) rfl).trans ?_
      have e1 : vrun mX10_joinBehind 58 [(1, 4), (0, x1), (1, x2), (1, x3)] [(0, h 602 x3 0), (1, x2)] h = vrun mX10_joinBehind 66 [(1, 4), (0, x1), (1, x2), (1, x3)] [(0, (if ¬ (h 602 x3 0 = 0) then 1 else 0)), (1, x2)] h := by
        refine (rn_if_eq (t := 65) (pc := 58) (dd bX10_joinBehind dX10_joinBehind_58) rfl).trans ?_
        by_cases c2 : h 602 x3 0 = 0
        · refine (if_pos c2).trans ?_
          refine (rn_iconst (pc := 65) (dd bX10_joinBehind dX10_joinBehind_65) (by decide)).trans ?_
          refine Eq.trans (b := vrun mX10_joinBehind 66 [(1, 4), (0, x1), (1, x2), (1, x3)] [(0, 0), (1, x2)] h) rfl ?_
          simp only [c2, true_or, false_or, or_true, or_false, true_and, false_and, and_true, and_false, not_true_eq_false, not_false_eq_true, ne_eq, if_true, if_false, ↓reduceIte]
        · refine (if_neg c2).trans ?_
          refine (rn_iconst (pc := 61) (dd bX10_joinBehind dX10_joinBehind_61) (by decide)).trans ?_
          refine (rn_goto (t := 66) (pc := 62) (dd bX10_joinBehind dX10_joinBehind_62) rfl).trans ?_
          refine Eq.trans (b := vrun mX10_joinBehind 66 [(1, 4), (0, x1), (1, x2), (1, x3)] [(0, 1), (1, x2)] h) rfl ?_
          simp only [c2, true_or, false_or, or_true, or_false, true_and, false_and, and_true, and_false, not_true_eq_false, not_false_eq_true, ne_eq, if_true, if_false, ↓reduceIte]
      refine e1.trans ?_
      refine Eq.trans (b := vrun mX10_joinBehind 66 [(1, 4), (0, x1), (1, x2), (1, x3)] [(0, (if ¬ (h 602 x3 0 = 0) then 1 else 0)), (1, x2)] h) rfl ?_
      simp only [c1, true_or, false_or, or_true, or_false, true_and, false_and, and_true, and_false, not_true_eq_false, not_false_eq_true, ne_eq, if_true, if_false, ↓reduceIte]
    · refine (if_neg c1).trans ?_
      refine (rn_iconst (pc := 61) (dd bX10_joinBehind dX10_joinBehind_61) (by decide)).trans ?_
      refine (rn_goto (t := 66) (pc := 62) (dd bX10_joinBehind dX10_joinBehind_62) rfl).trans ?_
      refine Eq.trans (b := vrun mX10_joinBehind 66 [(1, 4), (0, x1), (1, x2), (1, x3)] [(0, 1), (1, x2)] h) rfl ?_
      simp only [c1, true_or, false_or, or_true, or_false, true_and, false_and, and_true, and_false, not_true_eq_false, not_false_eq_true, ne_eq, if_true, if_false, ↓reduceIte]
  refine e2.trans ?_
  refine (rg_pf (pc := 66) (dd bX10_joinBehind dX10_joinBehind_66) (ci := 5) (j := 2) rfl (key := 602) rfl (kc := 25) rfl p1 rfl (fun _ => b01) (by decide)).trans ?_
  refine (rn_aload_n (pc := 69) (dd bX10_joinBehind dX10_joinBehind_69) rfl).trans ?_
  refine (rg_gf (pc := 70) (dd bX10_joinBehind dX10_joinBehind_70) (ci := 11) (j := 0) rfl rfl (key := 1200) rfl (kc := 31) rfl p3 rfl).trans ?_
  refine (rn_iload_n (pc := 73) (dd bX10_joinBehind dX10_joinBehind_73) rfl).trans ?_
  refine (rn_iconst (pc := 74) (dd bX10_joinBehind dX10_joinBehind_74) (by decide)).trans ?_
  refine (rg_iadd (pc := 75) (dd bX10_joinBehind dX10_joinBehind_75) p4 p5).trans ?_
  refine (rn_aload_n (pc := 76) (dd bX10_joinBehind dX10_joinBehind_76) rfl).trans ?_
  refine (rg_gf (pc := 77) (dd bX10_joinBehind dX10_joinBehind_77) (ci := 11) (j := 0) rfl rfl (key := 1200) rfl (kc := 31) rfl p3 rfl).trans ?_
  refine (rn_iload_n (pc := 80) (dd bX10_joinBehind dX10_joinBehind_80) rfl).trans ?_
  refine (rn_iconst (pc := 81) (dd bX10_joinBehind dX10_joinBehind_81) (by decide)).trans ?_
  refine (rg_iadd (pc := 82) (dd bX10_joinBehind dX10_joinBehind_82) p6 p7).trans ?_
  refine (rn_aload_n (pc := 83) (dd bX10_joinBehind dX10_joinBehind_83) rfl).trans ?_
  refine (rg_gf (pc := 84) (dd bX10_joinBehind dX10_joinBehind_84) (ci := 11) (j := 1) rfl rfl (key := 1201) rfl (kc := 31) rfl p3 rfl).trans ?_
  refine (rn_iload_n (pc := 87) (dd bX10_joinBehind dX10_joinBehind_87) rfl).trans ?_
  refine (rg_isub (pc := 88) (dd bX10_joinBehind dX10_joinBehind_88) p8 p9).trans ?_
  refine (rn_iconst (pc := 89) (dd bX10_joinBehind dX10_joinBehind_89) (by decide)).trans ?_
  refine (rg_isub (pc := 90) (dd bX10_joinBehind dX10_joinBehind_90) p10 (by omega)).trans ?_
  refine (rg_copy4 (pc := 91) (dd bX10_joinBehind dX10_joinBehind_91) rfl p11 rfl p11 rfl p12 p13 p14 p15 p16 (s17) ⟨Nat.le_of_ble_eq_true rfl, Nat.le_of_ble_eq_true rfl, Nat.le_of_ble_eq_true rfl⟩).trans ?_
  refine (rn_aload_n (pc := 94) (dd bX10_joinBehind dX10_joinBehind_94) rfl).trans ?_
  refine (rg_gf (pc := 95) (dd bX10_joinBehind dX10_joinBehind_95) (ci := 11) (j := 0) rfl rfl (key := 1200) rfl (kc := 31) rfl p18 rfl).trans ?_
  refine (rn_aload_n (pc := 98) (dd bX10_joinBehind dX10_joinBehind_98) rfl).trans ?_
  refine (rg_gf (pc := 99) (dd bX10_joinBehind dX10_joinBehind_99) (ci := 11) (j := 1) rfl rfl (key := 1201) rfl (kc := 31) rfl p18 rfl).trans ?_
  refine (rn_iconst (pc := 102) (dd bX10_joinBehind dX10_joinBehind_102) (by decide)).trans ?_
  refine (rg_isub (pc := 103) (dd bX10_joinBehind dX10_joinBehind_103) p19 p20).trans ?_
  refine (rn_aload_n (pc := 104) (dd bX10_joinBehind dX10_joinBehind_104) rfl).trans ?_
  refine (rg_aastore (pc := 105) (dd bX10_joinBehind dX10_joinBehind_105) (kc := 4) p21 rfl p23 p24 (Or.inl ⟨rfl, Or.inr p22⟩)).trans ?_
  refine (rn_aload_n (pc := 106) (dd bX10_joinBehind dX10_joinBehind_106) rfl).trans ?_
  refine (rn_dup (pc := 107) (dd bX10_joinBehind dX10_joinBehind_107) (by decide)).trans ?_
  refine (rg_gf (pc := 108) (dd bX10_joinBehind dX10_joinBehind_108) (ci := 11) (j := 1) rfl rfl (key := 1201) rfl (kc := 31) rfl p25 rfl).trans ?_
  refine (rn_iconst (pc := 111) (dd bX10_joinBehind dX10_joinBehind_111) (by decide)).trans ?_
  refine (rg_isub (pc := 112) (dd bX10_joinBehind dX10_joinBehind_112) p26 p27).trans ?_
  refine (rg_pf (pc := 113) (dd bX10_joinBehind dX10_joinBehind_113) (ci := 11) (j := 1) rfl (key := 1201) rfl (kc := 31) rfl p25 rfl (by intro z; cases z) (by decide)).trans ?_
  exact rn_return (pc := 116) (dd bX10_joinBehind dX10_joinBehind_116) rfl
theorem bX7_init : vmB mX7_init = cX7_init := rfl
theorem rX7_init_0 {x0 : Int} {x1 : Int} {x2 : Int} {x3 : Int} {h : vH} (p1 : ¬ (x0 = 0)) (p2 : h 0 x0 0 = 28) (p3 : x1 = 0 ∨ x1 = 1) (p4 : (vup h 900 x0 0 x1) 0 x0 0 = 28) (p5 : (vup (vup h 900 x0 0 x1) 901 x0 0 x2) 0 x0 0 = 28) : vrun mX7_init 0 [(1, x0), (0, x1), (0, x2), (0, x3)] [] h = some (.inl none, vup (vup (vup h 900 x0 0 x1) 901 x0 0 x2) 902 x0 0 x3) := by
  refine (rn_aload_n (pc := 0) (dd bX7_init dX7_init_0) rfl).trans ?_
  refine (rn_object (pc := 1) (dd bX7_init dX7_init_1) rfl rfl p1 ⟨Nat.le_of_ble_eq_true rfl, Nat.le_of_ble_eq_true rfl, Nat.le_of_ble_eq_true rfl⟩).trans ?_
  refine (rn_aload_n (pc := 4) (dd bX7_init dX7_init_4) rfl).trans ?_
  refine (rn_iload_n (pc := 5) (dd bX7_init dX7_init_5) rfl).trans ?_
  refine (rg_pf (pc := 6) (dd bX7_init dX7_init_6) (ci := 8) (j := 0) rfl (key := 900) rfl (kc := 28) rfl p2 rfl (fun _ => p3) (by decide)).trans ?_
  refine (rn_aload_n (pc := 9) (dd bX7_init dX7_init_9) rfl).trans ?_
  refine (rn_iload_n (pc := 10) (dd bX7_init dX7_init_10) rfl).trans ?_
  refine (rg_pf (pc := 11) (dd bX7_init dX7_init_11) (ci := 8) (j := 1) rfl (key := 901) rfl (kc := 28) rfl p4 rfl (by intro z; cases z) (by decide)).trans ?_
  refine (rn_aload_n (pc := 14) (dd bX7_init dX7_init_14) rfl).trans ?_
  refine (rn_iload_n (pc := 15) (dd bX7_init dX7_init_15) rfl).trans ?_
  refine (rg_pf (pc := 16) (dd bX7_init dX7_init_16) (ci := 8) (j := 2) rfl (key := 902) rfl (kc := 28) rfl p5 rfl (by intro z; cases z) (by decide)).trans ?_
  exact rn_return (pc := 19) (dd bX7_init dX7_init_19) rfl
theorem bX8_init : vmB mX8_init = cX8_init := rfl
theorem rX8_init_0 {x0 : Int} {x1 : Int} {x2 : Int} {x3 : Int} {h : vH} (p1 : ¬ (x0 = 0)) (p2 : ¬ (h 3 0 0 = 0)) : vrun mX8_init 0 [(1, x0), (0, x1), (0, x2), (0, x3)] [] h = vret vrun mX8_init 12 [(1, x0), (0, x1), (0, x2), (0, x3)] [(1, h 3 0 0), (1, x0)] (vcl mX7_init [(1, h 3 0 0), (0, 1), (0, x1), (0, x2)] (vnew h 28 0 3)) := by
  refine (rn_aload_n (pc := 0) (dd bX8_init dX8_init_0) rfl).trans ?_
  refine (rn_object (pc := 1) (dd bX8_init dX8_init_1) rfl rfl p1 ⟨Nat.le_of_ble_eq_true rfl, Nat.le_of_ble_eq_true rfl, Nat.le_of_ble_eq_true rfl⟩).trans ?_
  refine (rn_aload_n (pc := 4) (dd bX8_init dX8_init_4) rfl).trans ?_
  refine (rg_new (pc := 5) (dd bX8_init dX8_init_5) rfl rfl (kc := 28) rfl (nn := 3) rfl).trans ?_
  refine (rn_dup (pc := 8) (dd bX8_init dX8_init_8) (by decide)).trans ?_
  refine (rn_iconst (pc := 9) (dd bX8_init dX8_init_9) (by decide)).trans ?_
  refine (rn_iload_n (pc := 10) (dd bX8_init dX8_init_10) rfl).trans ?_
  refine (rn_iload_n (pc := 11) (dd bX8_init dX8_init_11) rfl).trans ?_
  exact rn_special (pc := 12) (dd bX8_init dX8_init_12) rfl rfl p2 (by decide) rfl ⟨Nat.le_of_ble_eq_true rfl, Nat.le_of_ble_eq_true rfl, Nat.le_of_ble_eq_true rfl, Nat.le_of_ble_eq_true rfl⟩
theorem rX8_init_15 {x0 : Int} {x1 : Int} {x2 : Int} {x3 : Int} {y0 : Int} {y1 : Int} {h : vH} (p1 : h 0 y1 0 = 29) (p2 : ¬ ((vup h 1000 y1 0 y0) 3 0 0 = 0)) : vrun mX8_init 15 [(1, x0), (0, x1), (0, x2), (0, x3)] [(1, y0), (1, y1)] h = vret vrun mX8_init 26 [(1, x0), (0, x1), (0, x2), (0, x3)] [(1, (vup h 1000 y1 0 y0) 3 0 0), (1, x0)] (vcl mX7_init [(1, (vup h 1000 y1 0 y0) 3 0 0), (0, 0), (0, x1), (0, x3)] (vnew (vup h 1000 y1 0 y0) 28 0 3)) := by
  refine (rg_pf (pc := 15) (dd bX8_init dX8_init_15) (ci := 9) (j := 0) rfl (key := 1000) rfl (kc := 29) rfl p1 rfl (by intro z; cases z) (by decide)).trans ?_
  refine (rn_aload_n (pc := 18) (dd bX8_init dX8_init_18) rfl).trans ?_
  refine (rg_new (pc := 19) (dd bX8_init dX8_init_19) rfl rfl (kc := 28) rfl (nn := 3) rfl).trans ?_
  refine (rn_dup (pc := 22) (dd bX8_init dX8_init_22) (by decide)).trans ?_
  refine (rn_iconst (pc := 23) (dd bX8_init dX8_init_23) (by decide)).trans ?_
  refine (rn_iload_n (pc := 24) (dd bX8_init dX8_init_24) rfl).trans ?_
  refine (rn_iload_n (pc := 25) (dd bX8_init dX8_init_25) rfl).trans ?_
  exact rn_special (pc := 26) (dd bX8_init dX8_init_26) rfl rfl p2 (by decide) rfl ⟨Nat.le_of_ble_eq_true rfl, Nat.le_of_ble_eq_true rfl, Nat.le_of_ble_eq_true rfl, Nat.le_of_ble_eq_true rfl⟩
theorem rX8_init_29 {x0 : Int} {x1 : Int} {x2 : Int} {x3 : Int} {y0 : Int} {y1 : Int} {h : vH} (p1 : h 0 y1 0 = 29) : vrun mX8_init 29 [(1, x0), (0, x1), (0, x2), (0, x3)] [(1, y0), (1, y1)] h = some (.inl none, vup h 1001 y1 0 y0) := by
  refine (rg_pf (pc := 29) (dd bX8_init dX8_init_29) (ci := 9) (j := 1) rfl (key := 1001) rfl (kc := 29) rfl p1 rfl (by intro z; cases z) (by decide)).trans ?_
  exact rn_return (pc := 32) (dd bX8_init dX8_init_32) rfl
theorem bX11_init : vmB mX11_init = cX11_init := rfl
theorem rX11_init_0 {x0 : Int} {x1 : Int} {x2 : Int} {x3 : Int} {h : vH} (p1 : ¬ (x0 = 0)) (p2 : ¬ (h 3 0 0 = 0)) : vrun mX11_init 0 [(1, x0), (0, x1), (0, x2), (2, x3), (8, 0)] [] h = vret vrun mX11_init 12 [(1, x0), (0, x1), (0, x2), (2, x3), (8, 0)] [(1, h 3 0 0), (1, x0)] (vcl mX7_init [(1, h 3 0 0), (0, 0), (0, x1), (0, x2)] (vnew h 28 0 3)) := by
  refine (rn_aload_n (pc := 0) (dd bX11_init dX11_init_0) rfl).trans ?_
  refine (rn_object (pc := 1) (dd bX11_init dX11_init_1) rfl rfl p1 ⟨Nat.le_of_ble_eq_true rfl, Nat.le_of_ble_eq_true rfl, Nat.le_of_ble_eq_true rfl⟩).trans ?_
  refine (rn_aload_n (pc := 4) (dd bX11_init dX11_init_4) rfl).trans ?_
  refine (rg_new (pc := 5) (dd bX11_init dX11_init_5) rfl rfl (kc := 28) rfl (nn := 3) rfl).trans ?_
  refine (rn_dup (pc := 8) (dd bX11_init dX11_init_8) (by decide)).trans ?_
  refine (rn_iconst (pc := 9) (dd bX11_init dX11_init_9) (by decide)).trans ?_
  refine (rn_iload_n (pc := 10) (dd bX11_init dX11_init_10) rfl).trans ?_
  refine (rn_iload_n (pc := 11) (dd bX11_init dX11_init_11) rfl).trans ?_
  exact rn_special (pc := 12) (dd bX11_init dX11_init_12) rfl rfl p2 (by decide) rfl ⟨Nat.le_of_ble_eq_true rfl, Nat.le_of_ble_eq_true rfl, Nat.le_of_ble_eq_true rfl, Nat.le_of_ble_eq_true rfl⟩
theorem rX11_init_15 {x0 : Int} {x1 : Int} {x2 : Int} {x3 : Int} {y0 : Int} {y1 : Int} {h : vH} (p1 : h 0 y1 0 = 32) (p2 : (vup h 1300 y1 0 y0) 0 x0 0 = 32) : vrun mX11_init 15 [(1, x0), (0, x1), (0, x2), (2, x3), (8, 0)] [(1, y0), (1, y1)] h = some (.inl none, vup (vup h 1300 y1 0 y0) 1301 x0 0 x3) := by
  refine (rg_pf (pc := 15) (dd bX11_init dX11_init_15) (ci := 12) (j := 0) rfl (key := 1300) rfl (kc := 32) rfl p1 rfl (by intro z; cases z) (by decide)).trans ?_
  refine (rn_aload_n (pc := 18) (dd bX11_init dX11_init_18) rfl).trans ?_
  refine (rn_lload_n (pc := 19) (dd bX11_init dX11_init_19) rfl).trans ?_
  refine (rg_pf (pc := 20) (dd bX11_init dX11_init_20) (ci := 12) (j := 1) rfl (key := 1301) rfl (kc := 32) rfl p2 rfl (by intro z; cases z) (by decide)).trans ?_
  exact rn_return (pc := 23) (dd bX11_init dX11_init_23) rfl
theorem bX1_init : vmB mX1_init = cX1_init := rfl
theorem rX1_init_0 {x0 : Int} {x1 : Int} {x2 : Int} {h : vH} (p1 : ¬ (x0 = 0)) (p2 : h 0 x0 0 = 22) (p3 : (vup h 300 x0 0 x1) 0 x0 0 = 22) : vrun mX1_init 0 [(1, x0), (0, x1), (0, x2)] [] h = some (.inl none, vup (vup h 300 x0 0 x1) 301 x0 0 x2) := by
  refine (rn_aload_n (pc := 0) (dd bX1_init dX1_init_0) rfl).trans ?_
  refine (rn_object (pc := 1) (dd bX1_init dX1_init_1) rfl rfl p1 ⟨Nat.le_of_ble_eq_true rfl, Nat.le_of_ble_eq_true rfl, Nat.le_of_ble_eq_true rfl⟩).trans ?_
  refine (rn_aload_n (pc := 4) (dd bX1_init dX1_init_4) rfl).trans ?_
  refine (rn_iload_n (pc := 5) (dd bX1_init dX1_init_5) rfl).trans ?_
  refine (rg_pf (pc := 6) (dd bX1_init dX1_init_6) (ci := 2) (j := 0) rfl (key := 300) rfl (kc := 22) rfl p2 rfl (by intro z; cases z) (by decide)).trans ?_
  refine (rn_aload_n (pc := 9) (dd bX1_init dX1_init_9) rfl).trans ?_
  refine (rn_iload_n (pc := 10) (dd bX1_init dX1_init_10) rfl).trans ?_
  refine (rg_pf (pc := 11) (dd bX1_init dX1_init_11) (ci := 2) (j := 1) rfl (key := 301) rfl (kc := 22) rfl p3 rfl (by intro z; cases z) (by decide)).trans ?_
  exact rn_return (pc := 14) (dd bX1_init dX1_init_14) rfl

