theorem ar_vis {h a : vH} {n m p : Int} {k : Nat} {v6 : vv} {Q : vR → vH → Prop} (j : JG n m h a) (hp : 0 ≤ p ∧ p < 4) (hk : (k : Int) < a 1504 282 0) (nv : ¬ mInv a p (k : Int))
    (K : ∀ h1 v6, JG n (m + 9) h1 a → Ru Q (vrun mL_areRows 22 [(1, 3), (0, p), (0, mAll a p), (0, mRA a p (k + 1)), (0, 1), (0, (k : Int) + 1), v6] [] h1)) : Ru Q (vrun mL_areRows 22 [(1, 3), (0, p), (0, mAll a p), (0, mRA a p k), (0, 1), (0, (k : Int)), v6] [] h) := by
  have g := j.2.1.1.1.1
  have gl := g.1.2.1
  have gk := g.1.2.2.1 (k : Int) (by omega) (by omega)
  have ra := mRA_in g.1 hp k (by omega)
  have rs : mRA a p (k + 1) = mRA a p k + mRC a p k := rfl
  obtain ⟨V1, V2, V3, V4⟩ := rw_vis g hp hk nv
  refine ru (rn_iload (pc := 22) (dd bL_areRows dL_areRows_22) rfl) ?_
  refine ru (rn_aload_n (pc := 24) (dd bL_areRows dL_areRows_24) rfl) ?_
  obtain ⟨h1, e2, J3⟩ := S_lines j
  refine ru ((rg_virtual (pc := 25) (dd bL_areRows dL_areRows_25) rfl rfl (by decide) (kc := 33) rfl (jPL j) (as := [(1, 3)]) rfl ⟨Nat.le_of_ble_eq_true rfl, Nat.le_of_ble_eq_true rfl, Nat.le_of_ble_eq_true rfl, Nat.le_of_ble_eq_true rfl⟩).trans (vret_v e2)) ?_
  refine ru ((rn_icmp_ge (t := 164) (pc := 28) (dd bL_areRows dL_areRows_28) rfl).trans (if_neg (Int.not_le.mpr hk))) ?_
  refine ru (rn_iload (pc := 31) (dd bL_areRows dL_areRows_31) rfl) ?_
  refine ru ((rn_if_eq (t := 164) (pc := 33) (dd bL_areRows dL_areRows_33) rfl).trans (if_neg (by decide))) ?_
  refine ru (rn_aload_n (pc := 36) (dd bL_areRows dL_areRows_36) rfl) ?_
  refine ru (rn_iload_n (pc := 37) (dd bL_areRows dL_areRows_37) rfl) ?_
  refine ru (rn_iload (pc := 38) (dd bL_areRows dL_areRows_38) rfl) ?_
  obtain ⟨h4, e5, J6⟩ := S_rowsOf (l := (k : Int)) J3 hp (by omega)
  refine ru ((rg_virtual (pc := 40) (dd bL_areRows dL_areRows_40) rfl rfl (by decide) (kc := 33) rfl (jPL J3) (as := [(1, 3), (0, p), (0, (k : Int))]) rfl ⟨Nat.le_of_ble_eq_true rfl, Nat.le_of_ble_eq_true rfl, Nat.le_of_ble_eq_true rfl, Nat.le_of_ble_eq_true rfl⟩).trans (vret_v e5)) ?_
  refine ru (rn_istore (pc := 43) (dd bL_areRows dL_areRows_43) (Nat.le_of_ble_eq_true rfl) (L2 := [(1, 3), (0, p), (0, mAll a p), (0, mRA a p k), (0, 1), (0, (k : Int)), (0, mRC a p (k : Int))]) rfl) ?_
  refine ru (rn_iload (pc := 45) (dd bL_areRows dL_areRows_45) rfl) ?_
  refine ru ((rn_if_lt (t := 150) (pc := 47) (dd bL_areRows dL_areRows_47) rfl).trans (if_neg (by omega))) ?_
  refine ru (rn_iload (pc := 50) (dd bL_areRows dL_areRows_50) rfl) ?_
  refine ru ((rn_if_ne (t := 59) (pc := 52) (dd bL_areRows dL_areRows_52) rfl).trans (if_pos (by omega))) ?_
  refine ru (rn_iconst (pc := 59) (dd bL_areRows dL_areRows_59) (by decide)) ?_
  refine ru (rn_aload_n (pc := 60) (dd bL_areRows dL_areRows_60) rfl) ?_
  refine ru (rn_iload_n (pc := 61) (dd bL_areRows dL_areRows_61) rfl) ?_
  refine ru (rn_iload (pc := 62) (dd bL_areRows dL_areRows_62) rfl) ?_
  refine ru (rn_iconst (pc := 64) (dd bL_areRows dL_areRows_64) (by decide)) ?_
  refine ru (rn_iconst (pc := 65) (dd bL_areRows dL_areRows_65) (by decide)) ?_
  obtain ⟨h7, e8, J9⟩ := S_rowAt (l := (k : Int)) (x := 0) (s := 0) J6 hp (by omega) (by omega) (by decide)
  refine ru ((rg_virtual (pc := 66) (dd bL_areRows dL_areRows_66) rfl rfl (by decide) (kc := 33) rfl (jPL J6) (as := [(1, 3), (0, p), (0, (k : Int)), (0, 0), (0, 0)]) rfl ⟨Nat.le_of_ble_eq_true rfl, Nat.le_of_ble_eq_true rfl, Nat.le_of_ble_eq_true rfl, Nat.le_of_ble_eq_true rfl⟩).trans (vret_v e8)) ?_
  refine ru ((rn_if_ge (t := 76) (pc := 69) (dd bL_areRows dL_areRows_69) rfl).trans (if_pos (by have := (V4 0 0); omega))) ?_
  refine ru (rn_iconst (pc := 76) (dd bL_areRows dL_areRows_76) (by decide)) ?_
  refine ru ((rn_icmp_ne (t := 150) (pc := 77) (dd bL_areRows dL_areRows_77) rfl).trans (if_neg (by decide))) ?_
  refine ru (rn_iload (pc := 80) (dd bL_areRows dL_areRows_80) rfl) ?_
  refine ru ((rn_if_eq (t := 146) (pc := 82) (dd bL_areRows dL_areRows_82) rfl).trans (if_neg (by omega))) ?_
  refine ru (rn_aload_n (pc := 85) (dd bL_areRows dL_areRows_85) rfl) ?_
  refine ru (rn_iload_n (pc := 86) (dd bL_areRows dL_areRows_86) rfl) ?_
  refine ru (rn_iload_n (pc := 87) (dd bL_areRows dL_areRows_87) rfl) ?_
  obtain ⟨h10, e11, J12⟩ := S_lineAt (r := mRA a p k) J9 hp V2.1
  refine ru ((rg_virtual (pc := 88) (dd bL_areRows dL_areRows_88) rfl rfl (by decide) (kc := 33) rfl (jPL J9) (as := [(1, 3), (0, p), (0, mRA a p k)]) rfl ⟨Nat.le_of_ble_eq_true rfl, Nat.le_of_ble_eq_true rfl, Nat.le_of_ble_eq_true rfl, Nat.le_of_ble_eq_true rfl⟩).trans (vret_v e11)) ?_
  refine ru (rn_iload (pc := 91) (dd bL_areRows dL_areRows_91) rfl) ?_
  refine ru ((rn_icmp_ne (t := 150) (pc := 93) (dd bL_areRows dL_areRows_93) rfl).trans (if_neg (fun z => z V2.2))) ?_
  refine ru (rn_aload_n (pc := 96) (dd bL_areRows dL_areRows_96) rfl) ?_
  refine ru (rn_iload_n (pc := 97) (dd bL_areRows dL_areRows_97) rfl) ?_
  refine ru (rn_iload_n (pc := 98) (dd bL_areRows dL_areRows_98) rfl) ?_
  refine ru (rn_iload (pc := 99) (dd bL_areRows dL_areRows_99) rfl) ?_
  refine ru (rg_iadd (pc := 101) (dd bL_areRows dL_areRows_101) (by omega) (by omega)) ?_
  refine ru (rn_iconst (pc := 102) (dd bL_areRows dL_areRows_102) (by decide)) ?_
  refine ru (rg_isub (pc := 103) (dd bL_areRows dL_areRows_103) (by omega) (by omega)) ?_
  obtain ⟨h13, e14, J15⟩ := S_lineAt (r := ((mRA a p k + (mRC a p (k : Int))) - 1)) J12 hp V3.1
  refine ru ((rg_virtual (pc := 104) (dd bL_areRows dL_areRows_104) rfl rfl (by decide) (kc := 33) rfl (jPL J12) (as := [(1, 3), (0, p), (0, ((mRA a p k + (mRC a p (k : Int))) - 1))]) rfl ⟨Nat.le_of_ble_eq_true rfl, Nat.le_of_ble_eq_true rfl, Nat.le_of_ble_eq_true rfl, Nat.le_of_ble_eq_true rfl⟩).trans (vret_v e14)) ?_
  refine ru (rn_iload (pc := 107) (dd bL_areRows dL_areRows_107) rfl) ?_
  refine ru ((rn_icmp_ne (t := 150) (pc := 109) (dd bL_areRows dL_areRows_109) rfl).trans (if_neg (fun z => z V3.2))) ?_
  refine ru (rn_aload_n (pc := 112) (dd bL_areRows dL_areRows_112) rfl) ?_
  refine ru (rn_iload_n (pc := 113) (dd bL_areRows dL_areRows_113) rfl) ?_
  refine ru (rn_iload (pc := 114) (dd bL_areRows dL_areRows_114) rfl) ?_
  refine ru (rn_aload_n (pc := 116) (dd bL_areRows dL_areRows_116) rfl) ?_
  refine ru (rn_iload (pc := 117) (dd bL_areRows dL_areRows_117) rfl) ?_
  obtain ⟨h16, e17, J18⟩ := S_length (l := (k : Int)) J15 (by omega)
  refine ru ((rg_virtual (pc := 119) (dd bL_areRows dL_areRows_119) rfl rfl (by decide) (kc := 33) rfl (jPL J15) (as := [(1, 3), (0, (k : Int))]) rfl ⟨Nat.le_of_ble_eq_true rfl, Nat.le_of_ble_eq_true rfl, Nat.le_of_ble_eq_true rfl, Nat.le_of_ble_eq_true rfl⟩).trans (vret_v e17)) ?_
  refine ru (rn_iconst (pc := 122) (dd bL_areRows dL_areRows_122) (by decide)) ?_
  obtain ⟨h19, e20, J21⟩ := S_rowAt (l := (k : Int)) (x := a 2 284 (k : Int)) (s := 0) J18 hp (by omega) (by omega) (by decide)
  refine ru ((rg_virtual (pc := 123) (dd bL_areRows dL_areRows_123) rfl rfl (by decide) (kc := 33) rfl (jPL J18) (as := [(1, 3), (0, p), (0, (k : Int)), (0, a 2 284 (k : Int)), (0, 0)]) rfl ⟨Nat.le_of_ble_eq_true rfl, Nat.le_of_ble_eq_true rfl, Nat.le_of_ble_eq_true rfl, Nat.le_of_ble_eq_true rfl⟩).trans (vret_v e20)) ?_
  refine ru (rn_iload_n (pc := 126) (dd bL_areRows dL_areRows_126) rfl) ?_
  refine ru (rn_iload (pc := 127) (dd bL_areRows dL_areRows_127) rfl) ?_
  refine ru (rg_iadd (pc := 129) (dd bL_areRows dL_areRows_129) (by omega) (by omega)) ?_
  refine ru ((rn_icmp_ge (t := 150) (pc := 130) (dd bL_areRows dL_areRows_130) rfl).trans (if_neg (by have := V4 (a 2 284 (k : Int)) 0; omega))) ?_
  refine ru (rn_aload_n (pc := 133) (dd bL_areRows dL_areRows_133) rfl) ?_
  refine ru (rn_iload_n (pc := 134) (dd bL_areRows dL_areRows_134) rfl) ?_
  refine ru (rn_iload (pc := 135) (dd bL_areRows dL_areRows_135) rfl) ?_
  refine ru (rn_iconst (pc := 137) (dd bL_areRows dL_areRows_137) (by decide)) ?_
  refine ru (rn_iconst (pc := 138) (dd bL_areRows dL_areRows_138) (by decide)) ?_
  obtain ⟨h22, e23, J24⟩ := S_rowAt (l := (k : Int)) (x := 0) (s := 0) J21 hp (by omega) (by omega) (by decide)
  refine ru ((rg_virtual (pc := 139) (dd bL_areRows dL_areRows_139) rfl rfl (by decide) (kc := 33) rfl (jPL J21) (as := [(1, 3), (0, p), (0, (k : Int)), (0, 0), (0, 0)]) rfl ⟨Nat.le_of_ble_eq_true rfl, Nat.le_of_ble_eq_true rfl, Nat.le_of_ble_eq_true rfl, Nat.le_of_ble_eq_true rfl⟩).trans (vret_v e23)) ?_
  refine ru (rn_iload_n (pc := 142) (dd bL_areRows dL_areRows_142) rfl) ?_
  refine ru ((rn_icmp_lt (t := 150) (pc := 143) (dd bL_areRows dL_areRows_143) rfl).trans (if_neg (by have := V4 0 0; omega))) ?_
  refine ru (rn_iconst (pc := 146) (dd bL_areRows dL_areRows_146) (by decide)) ?_
  refine ru (rn_goto (t := 151) (pc := 147) (dd bL_areRows dL_areRows_147) rfl) ?_
  refine ru (rn_istore (pc := 151) (dd bL_areRows dL_areRows_151) (Nat.le_of_ble_eq_true rfl) (L2 := [(1, 3), (0, p), (0, mAll a p), (0, mRA a p k), (0, 1), (0, (k : Int)), (0, mRC a p (k : Int))]) rfl) ?_
  refine ru (rn_iload_n (pc := 153) (dd bL_areRows dL_areRows_153) rfl) ?_
  refine ru (rn_iload (pc := 154) (dd bL_areRows dL_areRows_154) rfl) ?_
  refine ru (rg_iadd (pc := 156) (dd bL_areRows dL_areRows_156) (by omega) (by omega)) ?_
  refine ru (rn_istore_n (pc := 157) (dd bL_areRows dL_areRows_157) (Nat.le_of_ble_eq_true rfl) (L2 := [(1, 3), (0, p), (0, mAll a p), (0, (mRA a p k + (mRC a p (k : Int)))), (0, 1), (0, (k : Int)), (0, mRC a p (k : Int))]) rfl) ?_
  refine ru (rg_iinc (pc := 158) (dd bL_areRows dL_areRows_158) rfl (Nat.le_of_ble_eq_true rfl) (by omega) (by omega) (L2 := [(1, 3), (0, p), (0, mAll a p), (0, (mRA a p k + (mRC a p (k : Int)))), (0, 1), (0, ((k : Int) + 1)), (0, mRC a p (k : Int))]) rfl) ?_
  refine ru (rn_goto (t := 22) (pc := 161) (dd bL_areRows dL_areRows_161) rfl) ?_
  have K2 := K _ (0, mRC a p (k : Int)) (JG_le J24 (Int.le_refl _) (by omega))
  rw [rs] at K2
  exact K2

theorem ar_inv {h a : vH} {n m p : Int} {k : Nat} {v6 : vv} {Q : vR → vH → Prop} (j : JG n m h a) (hp : 0 ≤ p ∧ p < 4) (hk : (k : Int) < a 1504 282 0) (v : mInv a p (k : Int))
    (K : ∀ h1 v6, JG n (m + 9) h1 a → Ru Q (vrun mL_areRows 22 [(1, 3), (0, p), (0, mAll a p), (0, mRA a p (k + 1)), (0, 1), (0, (k : Int) + 1), v6] [] h1)) : Ru Q (vrun mL_areRows 22 [(1, 3), (0, p), (0, mAll a p), (0, mRA a p k), (0, 1), (0, (k : Int)), v6] [] h) := by
  have g := j.2.1.1.1.1
  have gl := g.1.2.1
  have gk := g.1.2.2.1 (k : Int) (by omega) (by omega)
  have ra := mRA_in g.1 hp k (by omega)
  have rs : mRA a p (k + 1) = mRA a p k + mRC a p k := rfl
  obtain ⟨V1, V2⟩ := rw_inv (x := 0) (s := 0) g hp hk v
  refine ru (rn_iload (pc := 22) (dd bL_areRows dL_areRows_22) rfl) ?_
  refine ru (rn_aload_n (pc := 24) (dd bL_areRows dL_areRows_24) rfl) ?_
  obtain ⟨h1, e2, J3⟩ := S_lines j
  refine ru ((rg_virtual (pc := 25) (dd bL_areRows dL_areRows_25) rfl rfl (by decide) (kc := 33) rfl (jPL j) (as := [(1, 3)]) rfl ⟨Nat.le_of_ble_eq_true rfl, Nat.le_of_ble_eq_true rfl, Nat.le_of_ble_eq_true rfl, Nat.le_of_ble_eq_true rfl⟩).trans (vret_v e2)) ?_
  refine ru ((rn_icmp_ge (t := 164) (pc := 28) (dd bL_areRows dL_areRows_28) rfl).trans (if_neg (Int.not_le.mpr hk))) ?_
  refine ru (rn_iload (pc := 31) (dd bL_areRows dL_areRows_31) rfl) ?_
  refine ru ((rn_if_eq (t := 164) (pc := 33) (dd bL_areRows dL_areRows_33) rfl).trans (if_neg (by decide))) ?_
  refine ru (rn_aload_n (pc := 36) (dd bL_areRows dL_areRows_36) rfl) ?_
  refine ru (rn_iload_n (pc := 37) (dd bL_areRows dL_areRows_37) rfl) ?_
  refine ru (rn_iload (pc := 38) (dd bL_areRows dL_areRows_38) rfl) ?_
  obtain ⟨h4, e5, J6⟩ := S_rowsOf (l := (k : Int)) J3 hp (by omega)
  refine ru ((rg_virtual (pc := 40) (dd bL_areRows dL_areRows_40) rfl rfl (by decide) (kc := 33) rfl (jPL J3) (as := [(1, 3), (0, p), (0, (k : Int))]) rfl ⟨Nat.le_of_ble_eq_true rfl, Nat.le_of_ble_eq_true rfl, Nat.le_of_ble_eq_true rfl, Nat.le_of_ble_eq_true rfl⟩).trans (vret_v e5)) ?_
  refine ru (rn_istore (pc := 43) (dd bL_areRows dL_areRows_43) (Nat.le_of_ble_eq_true rfl) (L2 := [(1, 3), (0, p), (0, mAll a p), (0, mRA a p k), (0, 1), (0, (k : Int)), (0, mRC a p (k : Int))]) rfl) ?_
  refine ru (rn_iload (pc := 45) (dd bL_areRows dL_areRows_45) rfl) ?_
  refine ru ((rn_if_lt (t := 150) (pc := 47) (dd bL_areRows dL_areRows_47) rfl).trans (if_neg (by omega))) ?_
  refine ru (rn_iload (pc := 50) (dd bL_areRows dL_areRows_50) rfl) ?_
  refine ru ((rn_if_ne (t := 59) (pc := 52) (dd bL_areRows dL_areRows_52) rfl).trans (if_neg (by omega))) ?_
  refine ru (rn_iconst (pc := 55) (dd bL_areRows dL_areRows_55) (by decide)) ?_
  refine ru (rn_goto (t := 60) (pc := 56) (dd bL_areRows dL_areRows_56) rfl) ?_
  refine ru (rn_aload_n (pc := 60) (dd bL_areRows dL_areRows_60) rfl) ?_
  refine ru (rn_iload_n (pc := 61) (dd bL_areRows dL_areRows_61) rfl) ?_
  refine ru (rn_iload (pc := 62) (dd bL_areRows dL_areRows_62) rfl) ?_
  refine ru (rn_iconst (pc := 64) (dd bL_areRows dL_areRows_64) (by decide)) ?_
  refine ru (rn_iconst (pc := 65) (dd bL_areRows dL_areRows_65) (by decide)) ?_
  obtain ⟨h7, e8, J9⟩ := S_rowAt (l := (k : Int)) (x := 0) (s := 0) J6 hp (by omega) (by omega) (by decide)
  refine ru ((rg_virtual (pc := 66) (dd bL_areRows dL_areRows_66) rfl rfl (by decide) (kc := 33) rfl (jPL J6) (as := [(1, 3), (0, p), (0, (k : Int)), (0, 0), (0, 0)]) rfl ⟨Nat.le_of_ble_eq_true rfl, Nat.le_of_ble_eq_true rfl, Nat.le_of_ble_eq_true rfl, Nat.le_of_ble_eq_true rfl⟩).trans (vret_v e8)) ?_
  refine ru ((rn_if_ge (t := 76) (pc := 69) (dd bL_areRows dL_areRows_69) rfl).trans (if_neg (by omega))) ?_
  refine ru (rn_iconst (pc := 72) (dd bL_areRows dL_areRows_72) (by decide)) ?_
  refine ru (rn_goto (t := 77) (pc := 73) (dd bL_areRows dL_areRows_73) rfl) ?_
  refine ru ((rn_icmp_ne (t := 150) (pc := 77) (dd bL_areRows dL_areRows_77) rfl).trans (if_neg (by decide))) ?_
  refine ru (rn_iload (pc := 80) (dd bL_areRows dL_areRows_80) rfl) ?_
  refine ru ((rn_if_eq (t := 146) (pc := 82) (dd bL_areRows dL_areRows_82) rfl).trans (if_pos (by omega))) ?_
  refine ru (rn_iconst (pc := 146) (dd bL_areRows dL_areRows_146) (by decide)) ?_
  refine ru (rn_goto (t := 151) (pc := 147) (dd bL_areRows dL_areRows_147) rfl) ?_
  refine ru (rn_istore (pc := 151) (dd bL_areRows dL_areRows_151) (Nat.le_of_ble_eq_true rfl) (L2 := [(1, 3), (0, p), (0, mAll a p), (0, mRA a p k), (0, 1), (0, (k : Int)), (0, mRC a p (k : Int))]) rfl) ?_
  refine ru (rn_iload_n (pc := 153) (dd bL_areRows dL_areRows_153) rfl) ?_
  refine ru (rn_iload (pc := 154) (dd bL_areRows dL_areRows_154) rfl) ?_
  refine ru (rg_iadd (pc := 156) (dd bL_areRows dL_areRows_156) (by omega) (by omega)) ?_
  refine ru (rn_istore_n (pc := 157) (dd bL_areRows dL_areRows_157) (Nat.le_of_ble_eq_true rfl) (L2 := [(1, 3), (0, p), (0, mAll a p), (0, (mRA a p k + (mRC a p (k : Int)))), (0, 1), (0, (k : Int)), (0, mRC a p (k : Int))]) rfl) ?_
  refine ru (rg_iinc (pc := 158) (dd bL_areRows dL_areRows_158) rfl (Nat.le_of_ble_eq_true rfl) (by omega) (by omega) (L2 := [(1, 3), (0, p), (0, mAll a p), (0, (mRA a p k + (mRC a p (k : Int)))), (0, 1), (0, ((k : Int) + 1)), (0, mRC a p (k : Int))]) rfl) ?_
  refine ru (rn_goto (t := 22) (pc := 161) (dd bL_areRows dL_areRows_161) rfl) ?_
  have K2 := K _ (0, mRC a p (k : Int)) (JG_le J9 (Int.le_refl _) (by omega))
  rw [rs] at K2
  exact K2

theorem ar_loop {a : vH} {n p : Int} (hp : 0 ≤ p ∧ p < 4) : ∀ (f k : Nat) (h : vH) (m : Int) (v6 : vv), JG n m h a → (k : Int) + f = a 1504 282 0 → Ru (Q1 n (m + 9 * f + 12) a) (vrun mL_areRows 22 [(1, 3), (0, p), (0, mAll a p), (0, mRA a p k), (0, 1), (0, (k : Int)), v6] [] h)
  | 0, k, h, m, v6, j, hk => by
    have g := j.2.1.1.1.1
    have gl := g.1.2.1
    obtain ⟨A1, A2, A3⟩ := rw_all g hp
    have CU := cu_in g hp
    have C0 := CU.1
    have C1 := CU.2.1
    have C2 := CU.2.2.2.1
    have lc := CU.2.2.2.2
    have re : mRA a p k = mAll a p := by
      unfold mAll
      rw [show (a 1504 282 0).toNat = k by omega]
    refine ru (rn_iload (pc := 22) (dd bL_areRows dL_areRows_22) rfl) ?_
    refine ru (rn_aload_n (pc := 24) (dd bL_areRows dL_areRows_24) rfl) ?_
    obtain ⟨h1, e2, J3⟩ := S_lines j
    refine ru ((rg_virtual (pc := 25) (dd bL_areRows dL_areRows_25) rfl rfl (by decide) (kc := 33) rfl (jPL j) (as := [(1, 3)]) rfl ⟨Nat.le_of_ble_eq_true rfl, Nat.le_of_ble_eq_true rfl, Nat.le_of_ble_eq_true rfl, Nat.le_of_ble_eq_true rfl⟩).trans (vret_v e2)) ?_
    refine ru ((rn_icmp_ge (t := 164) (pc := 28) (dd bL_areRows dL_areRows_28) rfl).trans (if_pos (by omega))) ?_
    refine ru (rn_aload_n (pc := 164) (dd bL_areRows dL_areRows_164) rfl) ?_
    refine ru (rn_iload_n (pc := 165) (dd bL_areRows dL_areRows_165) rfl) ?_
    refine ru (rn_iconst (pc := 166) (dd bL_areRows dL_areRows_166) (by decide)) ?_
    obtain ⟨h4, e5, J6⟩ := S_c2 J3 hp
    refine ru ((rg_virtual (pc := 167) (dd bL_areRows dL_areRows_167) rfl rfl (by decide) (kc := 33) rfl (jPL J3) (as := [(1, 3), (0, p), (0, 2)]) rfl ⟨Nat.le_of_ble_eq_true rfl, Nat.le_of_ble_eq_true rfl, Nat.le_of_ble_eq_true rfl, Nat.le_of_ble_eq_true rfl⟩).trans (vret_v e5)) ?_
    refine ru (rn_istore (pc := 170) (dd bL_areRows dL_areRows_170) (Nat.le_of_ble_eq_true rfl) (L2 := [(1, 3), (0, p), (0, mAll a p), (0, mRA a p k), (0, 1), (0, cuR a p), v6]) rfl) ?_
    refine ru (rn_aload_n (pc := 172) (dd bL_areRows dL_areRows_172) rfl) ?_
    refine ru (rn_iload_n (pc := 173) (dd bL_areRows dL_areRows_173) rfl) ?_
    refine ru (rn_iconst (pc := 174) (dd bL_areRows dL_areRows_174) (by decide)) ?_
    obtain ⟨h7, e8, J9⟩ := S_c5 J6 hp
    refine ru ((rg_virtual (pc := 175) (dd bL_areRows dL_areRows_175) rfl rfl (by decide) (kc := 33) rfl (jPL J6) (as := [(1, 3), (0, p), (0, 5)]) rfl ⟨Nat.le_of_ble_eq_true rfl, Nat.le_of_ble_eq_true rfl, Nat.le_of_ble_eq_true rfl, Nat.le_of_ble_eq_true rfl⟩).trans (vret_v e8)) ?_
    refine ru (rn_istore (pc := 178) (dd bL_areRows dL_areRows_178) (Nat.le_of_ble_eq_true rfl) (L2 := [(1, 3), (0, p), (0, mAll a p), (0, mRA a p k), (0, 1), (0, cuR a p), (0, toR a p)]) rfl) ?_
    refine ru (rn_iload (pc := 180) (dd bL_areRows dL_areRows_180) rfl) ?_
    refine ru ((rn_if_eq (t := 251) (pc := 182) (dd bL_areRows dL_areRows_182) rfl).trans (if_neg (by decide))) ?_
    refine ru (rn_iload_n (pc := 185) (dd bL_areRows dL_areRows_185) rfl) ?_
    refine ru (rn_iload_n (pc := 186) (dd bL_areRows dL_areRows_186) rfl) ?_
    refine ru ((rn_icmp_ne (t := 251) (pc := 187) (dd bL_areRows dL_areRows_187) rfl).trans (if_neg (fun z => z re))) ?_
    refine ru (rn_iload (pc := 190) (dd bL_areRows dL_areRows_190) rfl) ?_
    refine ru ((rn_if_lt (t := 251) (pc := 192) (dd bL_areRows dL_areRows_192) rfl).trans (if_neg (by omega))) ?_
    refine ru (rn_iload (pc := 195) (dd bL_areRows dL_areRows_195) rfl) ?_
    refine ru (rn_iload_n (pc := 197) (dd bL_areRows dL_areRows_197) rfl) ?_
    refine ru ((rn_icmp_ge (t := 251) (pc := 198) (dd bL_areRows dL_areRows_198) rfl).trans (if_neg (by omega))) ?_
    refine ru (rn_iload (pc := 201) (dd bL_areRows dL_areRows_201) rfl) ?_
    refine ru ((rn_if_lt (t := 251) (pc := 203) (dd bL_areRows dL_areRows_203) rfl).trans (if_neg (by omega))) ?_
    refine ru (rn_iload (pc := 206) (dd bL_areRows dL_areRows_206) rfl) ?_
    refine ru (rn_iload_n (pc := 208) (dd bL_areRows dL_areRows_208) rfl) ?_
    refine ru ((rn_icmp_ge (t := 251) (pc := 209) (dd bL_areRows dL_areRows_209) rfl).trans (if_neg (by omega))) ?_
    refine ru (rn_aload_n (pc := 212) (dd bL_areRows dL_areRows_212) rfl) ?_
    refine ru (rn_iload_n (pc := 213) (dd bL_areRows dL_areRows_213) rfl) ?_
    refine ru (rn_iload (pc := 214) (dd bL_areRows dL_areRows_214) rfl) ?_
    obtain ⟨h10, e11, J12⟩ := S_lineAt (r := cuR a p) J9 hp C2
    refine ru ((rg_virtual (pc := 216) (dd bL_areRows dL_areRows_216) rfl rfl (by decide) (kc := 33) rfl (jPL J9) (as := [(1, 3), (0, p), (0, cuR a p)]) rfl ⟨Nat.le_of_ble_eq_true rfl, Nat.le_of_ble_eq_true rfl, Nat.le_of_ble_eq_true rfl, Nat.le_of_ble_eq_true rfl⟩).trans (vret_v e11)) ?_
    refine ru (rn_aload_n (pc := 219) (dd bL_areRows dL_areRows_219) rfl) ?_
    refine ru (rn_iload_n (pc := 220) (dd bL_areRows dL_areRows_220) rfl) ?_
    refine ru (rn_iconst (pc := 221) (dd bL_areRows dL_areRows_221) (by decide)) ?_
    obtain ⟨h13, e14, J15⟩ := S_c0 J12 hp
    refine ru ((rg_virtual (pc := 222) (dd bL_areRows dL_areRows_222) rfl rfl (by decide) (kc := 33) rfl (jPL J12) (as := [(1, 3), (0, p), (0, 0)]) rfl ⟨Nat.le_of_ble_eq_true rfl, Nat.le_of_ble_eq_true rfl, Nat.le_of_ble_eq_true rfl, Nat.le_of_ble_eq_true rfl⟩).trans (vret_v e14)) ?_
    refine ru ((rn_icmp_ne (t := 251) (pc := 225) (dd bL_areRows dL_areRows_225) rfl).trans (if_neg (fun z => z lc))) ?_
    refine ru (rn_aload_n (pc := 228) (dd bL_areRows dL_areRows_228) rfl) ?_
    refine ru (rn_iload_n (pc := 229) (dd bL_areRows dL_areRows_229) rfl) ?_
    refine ru (rn_iconst (pc := 230) (dd bL_areRows dL_areRows_230) (by decide)) ?_
    obtain ⟨h16, e17, J18⟩ := S_c1 J15 hp
    refine ru ((rg_virtual (pc := 231) (dd bL_areRows dL_areRows_231) rfl rfl (by decide) (kc := 33) rfl (jPL J15) (as := [(1, 3), (0, p), (0, 1)]) rfl ⟨Nat.le_of_ble_eq_true rfl, Nat.le_of_ble_eq_true rfl, Nat.le_of_ble_eq_true rfl, Nat.le_of_ble_eq_true rfl⟩).trans (vret_v e17)) ?_
    refine ru (rn_aload_n (pc := 234) (dd bL_areRows dL_areRows_234) rfl) ?_
    refine ru (rn_aload_n (pc := 235) (dd bL_areRows dL_areRows_235) rfl) ?_
    refine ru (rn_iload_n (pc := 236) (dd bL_areRows dL_areRows_236) rfl) ?_
    refine ru (rn_iconst (pc := 237) (dd bL_areRows dL_areRows_237) (by decide)) ?_
    obtain ⟨h19, e20, J21⟩ := S_c0 J18 hp
    refine ru ((rg_virtual (pc := 238) (dd bL_areRows dL_areRows_238) rfl rfl (by decide) (kc := 33) rfl (jPL J18) (as := [(1, 3), (0, p), (0, 0)]) rfl ⟨Nat.le_of_ble_eq_true rfl, Nat.le_of_ble_eq_true rfl, Nat.le_of_ble_eq_true rfl, Nat.le_of_ble_eq_true rfl⟩).trans (vret_v e20)) ?_
    obtain ⟨h22, e23, J24⟩ := S_length (l := cuL a p) J21 (by omega)
    refine ru ((rg_virtual (pc := 241) (dd bL_areRows dL_areRows_241) rfl rfl (by decide) (kc := 33) rfl (jPL J21) (as := [(1, 3), (0, cuL a p)]) rfl ⟨Nat.le_of_ble_eq_true rfl, Nat.le_of_ble_eq_true rfl, Nat.le_of_ble_eq_true rfl, Nat.le_of_ble_eq_true rfl⟩).trans (vret_v e23)) ?_
    refine ru ((rn_icmp_gt (t := 251) (pc := 244) (dd bL_areRows dL_areRows_244) rfl).trans (if_neg (by omega))) ?_
    refine ru (rn_iconst (pc := 247) (dd bL_areRows dL_areRows_247) (by decide)) ?_
    refine ru (rn_goto (t := 252) (pc := 248) (dd bL_areRows dL_areRows_248) rfl) ?_
    exact ru_end (rn_ireturn (pc := 252) (dd bL_areRows dL_areRows_252) (Or.inr ⟨rfl, Or.inr rfl⟩)) ⟨rfl, JG_le J24 (Int.le_refl _) (by omega)⟩
  | f + 1, k, h, m, v6, j, hk => by
    have hk2 : (k : Int) < a 1504 282 0 := by omega
    have K : ∀ h1 v6, JG n (m + 9) h1 a → Ru (Q1 n (m + 9 * ((f + 1 : Nat) : Int) + 12) a) (vrun mL_areRows 22 [(1, 3), (0, p), (0, mAll a p), (0, mRA a p (k + 1)), (0, 1), (0, (k : Int) + 1), v6] [] h1) := fun h1 v6 j1 => by
      have e := ar_loop hp f (k + 1) h1 (m + 9) v6 j1 (by omega)
      rw [show m + 9 + 9 * (f : Int) + 12 = m + 9 * ((f + 1 : Nat) : Int) + 12 by omega] at e
      exact e
    by_cases v : mInv a p (k : Int)
    · exact ar_inv j hp hk2 v K
    · exact ar_vis j hp hk2 v K

theorem L_rows {h a : vH} {n m p : Int} (j : JG n m h a) (hp : 0 ≤ p ∧ p < 4) : ∃ h1, vcl mL_areRows [(1, 3), (0, p)] h = some (.inl (some (0, 1)), h1) ∧ JG n (m + 553) h1 a := by
  have g := j.2.1.1.1.1
  have gl := g.1.2.1
  obtain ⟨A1, A2, A3⟩ := rw_all g hp
  refine ru_1 ?_
  refine ru (show _ = vrun mL_areRows 0 [(1, 3), (0, p), (9, 0), (9, 0), (9, 0), (9, 0), (9, 0)] [] h from rfl) ?_
  refine ru (rn_aload_n (pc := 0) (dd bL_areRows dL_areRows_0) rfl) ?_
  refine ru (rn_iload_n (pc := 1) (dd bL_areRows dL_areRows_1) rfl) ?_
  obtain ⟨h1, e2, J3⟩ := S_rows j hp
  refine ru ((rg_virtual (pc := 2) (dd bL_areRows dL_areRows_2) rfl rfl (by decide) (kc := 33) rfl (jPL j) (as := [(1, 3), (0, p)]) rfl ⟨Nat.le_of_ble_eq_true rfl, Nat.le_of_ble_eq_true rfl, Nat.le_of_ble_eq_true rfl, Nat.le_of_ble_eq_true rfl⟩).trans (vret_v e2)) ?_
  refine ru (rn_istore_n (pc := 5) (dd bL_areRows dL_areRows_5) (Nat.le_of_ble_eq_true rfl) (L2 := [(1, 3), (0, p), (0, mAll a p), (9, 0), (9, 0), (9, 0), (9, 0)]) rfl) ?_
  refine ru (rn_iconst (pc := 6) (dd bL_areRows dL_areRows_6) (by decide)) ?_
  refine ru (rn_istore_n (pc := 7) (dd bL_areRows dL_areRows_7) (Nat.le_of_ble_eq_true rfl) (L2 := [(1, 3), (0, p), (0, mAll a p), (0, 0), (9, 0), (9, 0), (9, 0)]) rfl) ?_
  refine ru (rn_iload_n (pc := 8) (dd bL_areRows dL_areRows_8) rfl) ?_
  refine ru ((rn_if_le (t := 16) (pc := 9) (dd bL_areRows dL_areRows_9) rfl).trans (if_neg (by omega))) ?_
  refine ru (rn_iconst (pc := 12) (dd bL_areRows dL_areRows_12) (by decide)) ?_
  refine ru (rn_goto (t := 17) (pc := 13) (dd bL_areRows dL_areRows_13) rfl) ?_
  refine ru (rn_istore (pc := 17) (dd bL_areRows dL_areRows_17) (Nat.le_of_ble_eq_true rfl) (L2 := [(1, 3), (0, p), (0, mAll a p), (0, 0), (0, 1), (9, 0), (9, 0)]) rfl) ?_
  refine ru (rn_iconst (pc := 19) (dd bL_areRows dL_areRows_19) (by decide)) ?_
  refine ru (rn_istore (pc := 20) (dd bL_areRows dL_areRows_20) (Nat.le_of_ble_eq_true rfl) (L2 := [(1, 3), (0, p), (0, mAll a p), (0, 0), (0, 1), (0, 0), (9, 0)]) rfl) ?_
  have e := ar_loop hp (a 1504 282 0).toNat 0 h1 _ (9, 0) J3 (by omega)
  obtain ⟨r, h2, e1, e2, e3⟩ := e
  exact ⟨r, h2, e1, e2, JG_le e3 (Int.le_refl _) (by omega)⟩
