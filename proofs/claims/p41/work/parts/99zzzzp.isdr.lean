theorem O_drawD {h a : vH} {n m p v : Int} (j : JG n m h a) (hp : 0 ≤ p ∧ p < 4) (ho : ¬ a 2 289 p = 0) (e : vDw a p = v) : ∃ h1, vcl mL_on [(1, 3), (0, 11), (0, p), (0, 0), (0, 0), (0, 0)] h = some (.inl (some (0, v)), h1) ∧ JG (n + 1) (m + 1) h1 (tDw a p) := by
  subst e
  exact O_draw j hp ho
theorem L_drawn {h a : vH} {n m p : Int} (j : JG n m h a) (hp : 0 ≤ p ∧ p < 4) : ∃ h1 a1, vcl mL_isDrawn [(1, 3), (0, p)] h = some (.inl (some (0, 1)), h1) ∧ JG (n + 2) (m + 5) h1 a1 := by
  refine ru_2 ?_
  refine ru (show _ = vrun mL_isDrawn 0 [(1, 3), (0, p), (9, 0), (9, 0), (9, 0)] [] h from rfl) ?_
  have x := j.2.1.1.1
  by_cases ho : a 2 289 p = 0
  · have hh := j.2.1.2.1.1 p hp.1 hp.2 ho
    refine ru (rn_aload_n (pc := 0) (dd bL_isDrawn dL_isDrawn_0) rfl) ?_
    refine ru (rn_iload_n (pc := 1) (dd bL_isDrawn dL_isDrawn_1) rfl) ?_
    obtain ⟨h1, e2, J3⟩ := S_height (p := p) j (by omega)
    refine ru ((rg_virtual (pc := 2) (dd bL_isDrawn dL_isDrawn_2) rfl rfl (by decide) (kc := 33) rfl (jPL j) (as := [(1, 3), (0, p)]) rfl ⟨Nat.le_of_ble_eq_true rfl, Nat.le_of_ble_eq_true rfl, Nat.le_of_ble_eq_true rfl, Nat.le_of_ble_eq_true rfl⟩).trans (vret_v e2)) ?_
    refine ru (rn_istore_n (pc := 5) (dd bL_isDrawn dL_isDrawn_5) (Nat.le_of_ble_eq_true rfl) (L2 := [(1, 3), (0, p), (0, a 2 310 p), (9, 0), (9, 0)]) rfl) ?_
    refine ru (rn_aload_n (pc := 6) (dd bL_isDrawn dL_isDrawn_6) rfl) ?_
    refine ru (rn_bipush (pc := 7) (dd bL_isDrawn dL_isDrawn_7) (by decide)) ?_
    refine ru (rn_iload_n (pc := 9) (dd bL_isDrawn dL_isDrawn_9) rfl) ?_
    refine ru (rn_iconst (pc := 10) (dd bL_isDrawn dL_isDrawn_10) (by decide)) ?_
    refine ru (rn_iconst (pc := 11) (dd bL_isDrawn dL_isDrawn_11) (by decide)) ?_
    refine ru (rn_iconst (pc := 12) (dd bL_isDrawn dL_isDrawn_12) (by decide)) ?_
    obtain ⟨h4, e5, J6⟩ := O_drawX J3 hp ho
    refine ru ((rg_static (pc := 13) (dd bL_isDrawn dL_isDrawn_13) rfl (by decide) (Nat.le_of_ble_eq_true rfl) (as := [(1, 3), (0, 11), (0, p), (0, 0), (0, 0), (0, 0)]) rfl rfl ⟨Nat.le_of_ble_eq_true rfl, Nat.le_of_ble_eq_true rfl, Nat.le_of_ble_eq_true rfl, Nat.le_of_ble_eq_true rfl⟩).trans (vret_v e5)) ?_
    refine ru (rn_istore_n (pc := 16) (dd bL_isDrawn dL_isDrawn_16) (Nat.le_of_ble_eq_true rfl) (L2 := [(1, 3), (0, p), (0, a 2 310 p), (0, (-13)), (9, 0)]) rfl) ?_
    refine ru (rn_aload_n (pc := 17) (dd bL_isDrawn dL_isDrawn_17) rfl) ?_
    refine ru (rn_iload_n (pc := 18) (dd bL_isDrawn dL_isDrawn_18) rfl) ?_
    obtain ⟨h7, e8, J9⟩ := S_shift J6 hp
    refine ru ((rg_virtual (pc := 19) (dd bL_isDrawn dL_isDrawn_19) rfl rfl (by decide) (kc := 33) rfl (jPL J6) (as := [(1, 3), (0, p)]) rfl ⟨Nat.le_of_ble_eq_true rfl, Nat.le_of_ble_eq_true rfl, Nat.le_of_ble_eq_true rfl, Nat.le_of_ble_eq_true rfl⟩).trans (vret_v e8)) ?_
    refine ru (rn_istore (pc := 22) (dd bL_isDrawn dL_isDrawn_22) (Nat.le_of_ble_eq_true rfl) (L2 := [(1, 3), (0, p), (0, a 2 310 p), (0, (-13)), (0, (tDw a p) 2 330 p)]) rfl) ?_
    refine ru (rn_iload_n (pc := 24) (dd bL_isDrawn dL_isDrawn_24) rfl) ?_
    refine ru ((rn_if_ne (t := 42) (pc := 25) (dd bL_isDrawn dL_isDrawn_25) rfl).trans (if_neg (by omega))) ?_
    refine ru (rn_iload_n (pc := 28) (dd bL_isDrawn dL_isDrawn_28) rfl) ?_
    refine ru (rn_bipush (pc := 29) (dd bL_isDrawn dL_isDrawn_29) (by decide)) ?_
    refine ru ((rn_icmp_ne (t := 38) (pc := 31) (dd bL_isDrawn dL_isDrawn_31) rfl).trans (if_neg (by decide))) ?_
    refine ru (rn_iconst (pc := 34) (dd bL_isDrawn dL_isDrawn_34) (by decide)) ?_
    refine ru (rn_goto (t := 91) (pc := 35) (dd bL_isDrawn dL_isDrawn_35) rfl) ?_
    exact ru_end (rn_ireturn (pc := 91) (dd bL_isDrawn dL_isDrawn_91) (Or.inr ⟨rfl, Or.inr rfl⟩)) ⟨rfl, _, JG_le J9 (by omega) (by omega)⟩
  · have hH := hO x.2.1 hp ho
    obtain ⟨k, b1, b2, o2, z1, z2⟩ := dw_sp x hp ho
    have ho1 : ¬ tDw a p 2 289 p = 0 := by rw [o2]; exact ho
    refine ru (rn_aload_n (pc := 0) (dd bL_isDrawn dL_isDrawn_0) rfl) ?_
    refine ru (rn_iload_n (pc := 1) (dd bL_isDrawn dL_isDrawn_1) rfl) ?_
    obtain ⟨h1, e2, J3⟩ := S_height (p := p) j (by omega)
    refine ru ((rg_virtual (pc := 2) (dd bL_isDrawn dL_isDrawn_2) rfl rfl (by decide) (kc := 33) rfl (jPL j) (as := [(1, 3), (0, p)]) rfl ⟨Nat.le_of_ble_eq_true rfl, Nat.le_of_ble_eq_true rfl, Nat.le_of_ble_eq_true rfl, Nat.le_of_ble_eq_true rfl⟩).trans (vret_v e2)) ?_
    refine ru (rn_istore_n (pc := 5) (dd bL_isDrawn dL_isDrawn_5) (Nat.le_of_ble_eq_true rfl) (L2 := [(1, 3), (0, p), (0, a 2 310 p), (9, 0), (9, 0)]) rfl) ?_
    refine ru (rn_aload_n (pc := 6) (dd bL_isDrawn dL_isDrawn_6) rfl) ?_
    refine ru (rn_bipush (pc := 7) (dd bL_isDrawn dL_isDrawn_7) (by decide)) ?_
    refine ru (rn_iload_n (pc := 9) (dd bL_isDrawn dL_isDrawn_9) rfl) ?_
    refine ru (rn_iconst (pc := 10) (dd bL_isDrawn dL_isDrawn_10) (by decide)) ?_
    refine ru (rn_iconst (pc := 11) (dd bL_isDrawn dL_isDrawn_11) (by decide)) ?_
    refine ru (rn_iconst (pc := 12) (dd bL_isDrawn dL_isDrawn_12) (by decide)) ?_
    obtain ⟨h4, e5, J6⟩ := O_draw J3 hp ho
    refine ru ((rg_static (pc := 13) (dd bL_isDrawn dL_isDrawn_13) rfl (by decide) (Nat.le_of_ble_eq_true rfl) (as := [(1, 3), (0, 11), (0, p), (0, 0), (0, 0), (0, 0)]) rfl rfl ⟨Nat.le_of_ble_eq_true rfl, Nat.le_of_ble_eq_true rfl, Nat.le_of_ble_eq_true rfl, Nat.le_of_ble_eq_true rfl⟩).trans (vret_v e5)) ?_
    refine ru (rn_istore_n (pc := 16) (dd bL_isDrawn dL_isDrawn_16) (Nat.le_of_ble_eq_true rfl) (L2 := [(1, 3), (0, p), (0, a 2 310 p), (0, (vDw a p)), (9, 0)]) rfl) ?_
    refine ru (rn_aload_n (pc := 17) (dd bL_isDrawn dL_isDrawn_17) rfl) ?_
    refine ru (rn_iload_n (pc := 18) (dd bL_isDrawn dL_isDrawn_18) rfl) ?_
    obtain ⟨h7, e8, J9⟩ := S_shift J6 hp
    refine ru ((rg_virtual (pc := 19) (dd bL_isDrawn dL_isDrawn_19) rfl rfl (by decide) (kc := 33) rfl (jPL J6) (as := [(1, 3), (0, p)]) rfl ⟨Nat.le_of_ble_eq_true rfl, Nat.le_of_ble_eq_true rfl, Nat.le_of_ble_eq_true rfl, Nat.le_of_ble_eq_true rfl⟩).trans (vret_v e8)) ?_
    refine ru (rn_istore (pc := 22) (dd bL_isDrawn dL_isDrawn_22) (Nat.le_of_ble_eq_true rfl) (L2 := [(1, 3), (0, p), (0, a 2 310 p), (0, (vDw a p)), (0, (tDw a p) 2 330 p)]) rfl) ?_
    refine ru (rn_iload_n (pc := 24) (dd bL_isDrawn dL_isDrawn_24) rfl) ?_
    refine ru ((rn_if_ne (t := 42) (pc := 25) (dd bL_isDrawn dL_isDrawn_25) rfl).trans (if_pos (by omega))) ?_
    refine ru (rn_iload_n (pc := 42) (dd bL_isDrawn dL_isDrawn_42) rfl) ?_
    refine ru ((rn_if_lt (t := 90) (pc := 43) (dd bL_isDrawn dL_isDrawn_43) rfl).trans (if_neg (by omega))) ?_
    refine ru (rn_iload_n (pc := 46) (dd bL_isDrawn dL_isDrawn_46) rfl) ?_
    refine ru (rn_iload_n (pc := 47) (dd bL_isDrawn dL_isDrawn_47) rfl) ?_
    refine ru ((rn_icmp_gt (t := 90) (pc := 48) (dd bL_isDrawn dL_isDrawn_48) rfl).trans (if_neg (by omega))) ?_
    refine ru (rn_iload (pc := 51) (dd bL_isDrawn dL_isDrawn_51) rfl) ?_
    refine ru (rn_bipush (pc := 53) (dd bL_isDrawn dL_isDrawn_53) (by decide)) ?_
    refine ru ((rn_icmp_le (t := 90) (pc := 55) (dd bL_isDrawn dL_isDrawn_55) rfl).trans (if_neg (by omega))) ?_
    refine ru (rn_iload (pc := 58) (dd bL_isDrawn dL_isDrawn_58) rfl) ?_
    refine ru (rn_bipush (pc := 60) (dd bL_isDrawn dL_isDrawn_60) (by decide)) ?_
    refine ru ((rn_icmp_ge (t := 90) (pc := 62) (dd bL_isDrawn dL_isDrawn_62) rfl).trans (if_neg (by omega))) ?_
    refine ru (rn_aload_n (pc := 65) (dd bL_isDrawn dL_isDrawn_65) rfl) ?_
    refine ru (rn_bipush (pc := 66) (dd bL_isDrawn dL_isDrawn_66) (by decide)) ?_
    refine ru (rn_iload_n (pc := 68) (dd bL_isDrawn dL_isDrawn_68) rfl) ?_
    refine ru (rn_iconst (pc := 69) (dd bL_isDrawn dL_isDrawn_69) (by decide)) ?_
    refine ru (rn_iconst (pc := 70) (dd bL_isDrawn dL_isDrawn_70) (by decide)) ?_
    refine ru (rn_iconst (pc := 71) (dd bL_isDrawn dL_isDrawn_71) (by decide)) ?_
    obtain ⟨h10, e11, J12⟩ := O_drawD J9 hp ho1 z1
    refine ru ((rg_static (pc := 72) (dd bL_isDrawn dL_isDrawn_72) rfl (by decide) (Nat.le_of_ble_eq_true rfl) (as := [(1, 3), (0, 11), (0, p), (0, 0), (0, 0), (0, 0)]) rfl rfl ⟨Nat.le_of_ble_eq_true rfl, Nat.le_of_ble_eq_true rfl, Nat.le_of_ble_eq_true rfl, Nat.le_of_ble_eq_true rfl⟩).trans (vret_v e11)) ?_
    refine ru ((rn_if_ne (t := 90) (pc := 75) (dd bL_isDrawn dL_isDrawn_75) rfl).trans (if_neg (by decide))) ?_
    refine ru (rn_aload_n (pc := 78) (dd bL_isDrawn dL_isDrawn_78) rfl) ?_
    refine ru (rn_iload_n (pc := 79) (dd bL_isDrawn dL_isDrawn_79) rfl) ?_
    obtain ⟨h13, e14, J15⟩ := S_shift J12 hp
    refine ru ((rg_virtual (pc := 80) (dd bL_isDrawn dL_isDrawn_80) rfl rfl (by decide) (kc := 33) rfl (jPL J12) (as := [(1, 3), (0, p)]) rfl ⟨Nat.le_of_ble_eq_true rfl, Nat.le_of_ble_eq_true rfl, Nat.le_of_ble_eq_true rfl, Nat.le_of_ble_eq_true rfl⟩).trans (vret_v e14)) ?_
    refine ru ((rn_if_ne (t := 90) (pc := 83) (dd bL_isDrawn dL_isDrawn_83) rfl).trans (if_neg (fun z => z z2))) ?_
    refine ru (rn_iconst (pc := 86) (dd bL_isDrawn dL_isDrawn_86) (by decide)) ?_
    refine ru (rn_goto (t := 91) (pc := 87) (dd bL_isDrawn dL_isDrawn_87) rfl) ?_
    exact ru_end (rn_ireturn (pc := 91) (dd bL_isDrawn dL_isDrawn_91) (Or.inr ⟨rfl, Or.inr rfl⟩)) ⟨rfl, _, JG_le J15 (by omega) (by omega)⟩
