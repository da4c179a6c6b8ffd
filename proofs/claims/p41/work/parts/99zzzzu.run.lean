def QE : vR → vH → Prop := fun r h => r = .inl (some (0, 1)) ∧ h 4 0 0 ≤ 600086 ∧ h 5 0 0 ≤ 7301442
theorem lw_loop {T : Int} (hT : T ≤ 160) : ∀ (f : Nat) (t : Int) (h a : vH) (pl : Int) (v6 v7 v8 v9 v10 v11 v12 v13 v14 v15 v16 v17 : vv), t + f = T → 0 ≤ t → JG (10 * t) (1200 + 640 * t) h a → 0 ≤ pl ∧ pl ≤ 4 → Ru QE (vrun mL_law 73 [(1, 2), (1, 3), (0, pl), (0, 1), (0, T), (0, t), v6, v7, v8, v9, v10, v11, v12, v13, v14, v15, v16, v17] [] h)
  | 0, t, h, a, pl, v6, v7, v8, v9, v10, v11, v12, v13, v14, v15, v16, v17, e, t0, j, hpl => by
    refine ru (rn_iload (pc := 73) (dd bL_law dL_law_73) rfl) ?_
    refine ru (rn_iload (pc := 75) (dd bL_law dL_law_75) rfl) ?_
    refine ru ((rn_icmp_ge (t := 1536) (pc := 77) (dd bL_law dL_law_77) rfl).trans (if_pos (by omega))) ?_
    refine ru (rn_iload_n (pc := 1536) (dd bL_law dL_law_1536) rfl) ?_
    exact ru_end (rn_ireturn (pc := 1537) (dd bL_law dL_law_1537) (Or.inr ⟨rfl, Or.inr rfl⟩)) ⟨rfl, by have := j.2.2.2.1; omega, by have := j.2.2.2.2.1; omega⟩
  | f + 1, t, h, a, pl, v6, v7, v8, v9, v10, v11, v12, v13, v14, v15, v16, v17, e, t0, j, hpl => by
    refine lw_x j (by omega) (fun x hx => ?_)
    refine lw_pre1 j hx (fun y de hy hd => ?_)
    refine lw_pre2 j hy (fun {h1} p li pc j2 hp hl hx => ?_)
    have K : ∀ {h2 a2 : vH} {pl1 m3 : Int} {w13 w14 w15 w16 w17 : vv}, JG (10 * t + 8) m3 h2 a2 → m3 ≤ 1200 + 640 * t + 2 + 70 → 0 ≤ pl1 ∧ pl1 ≤ 4 → Ru QE (vrun mL_law 1474 [(1, 2), (1, 3), (0, pl1), (0, 1), (0, T), (0, t), (0, x), (0, y), (0, de), (0, p), (0, li), (0, a 2 284 li), (0, pc), w13, w14, w15, w16, w17] [] h2) := by
      intro h2 a2 pl1 m3 w13 w14 w15 w16 w17 j3 hm hp1
      refine lw_tail j3 hp hy (by omega) (fun {h3 a3} j4 => ?_)
      exact lw_loop hT f (t + 1) h3 a3 pl1 _ _ _ _ _ _ _ _ _ _ _ _ (by omega) (by omega) (JG_le j4 (by omega) (by omega)) hp1
    have hn : 0 ≤ 10 * t ∧ 10 * t ≤ 8000 := by omega
    obtain z | z | z | z | z | z | z | z | z | z | z | z | z | z : de < 3 ∨ de = 3 ∨ de = 4 ∨ de = 5 ∨ de = 6 ∨ de = 7 ∨ de = 8 ∨ de = 9 ∨ de = 10 ∨ de = 11 ∨ de = 12 ∨ de = 13 ∨ de = 14 ∨ de = 15 := by omega
    · exact lw_d0 j2 hn hpl hp hy hl rfl hx z (fun j3 pp => K j3 (by omega) pp)
    · by_cases c : a 1504 282 0 < 8
      · exact lw_d3 j2 hn hpl hp hy hl rfl hx z c (fun j3 pp => K j3 (by omega) pp)
      · exact lw_d3m j2 hn hpl hp hy hl rfl hx z (by omega) (fun j3 pp => K j3 (by omega) pp)
    · by_cases c : pc < a 2 284 li
      · exact lw_d4 j2 hn hpl hp hy hl rfl hx z c (fun j3 pp => K j3 (by omega) pp)
      · exact lw_d4m j2 hn hpl hp hy hl rfl hx z (by omega) (fun j3 pp => K j3 (by omega) pp)
    · exact lw_d5 j2 hn hpl hp hy hl rfl hx z (fun j3 pp => K j3 (by omega) pp)
    · exact lw_d6 j2 hn hpl hp hy hl rfl hx z (fun j3 pp => K j3 (by omega) pp)
    · exact lw_d7 j2 hn hpl hp hy hl rfl hx z (fun j3 pp => K j3 (by omega) pp)
    · exact lw_d8 j2 hn hpl hp hy hl rfl hx z (fun j3 pp => K j3 (by omega) pp)
    · exact lw_d9 j2 hn hpl hp hy hl rfl hx z (fun j3 pp => K j3 (by omega) pp)
    · exact lw_d10 j2 hn hpl hp hy hl rfl hx z (fun j3 pp => K j3 (by omega) pp)
    · exact lw_d11 j2 hn hpl hp hy hl rfl hx z (fun j3 pp => K j3 (by omega) pp)
    · exact lw_d12 j2 hn hpl hp hy hl rfl hx z (fun j3 pp => K j3 (by omega) pp)
    · exact lw_d13 j2 hn hpl hp hy hl rfl hx z (fun j3 pp => K j3 (by omega) pp)
    · exact lw_d14 j2 hn hpl hp hy hl rfl hx z (fun j3 pp => K j3 (by omega) pp)
    · exact lw_d15 j2 hn hpl hp hy hl rfl hx z (fun j3 pp => K j3 (by omega) pp)
theorem law_0 {h : vH} (hr : h 3 0 0 = 3) : vrun mL_law 0 [(1, 2), (9, 0), (9, 0), (9, 0), (9, 0), (9, 0), (9, 0), (9, 0), (9, 0), (9, 0), (9, 0), (9, 0), (9, 0), (9, 0), (9, 0), (9, 0), (9, 0), (9, 0)] [] h = vrun mL_law 8 [(1, 2), (1, 3), (9, 0), (9, 0), (9, 0), (9, 0), (9, 0), (9, 0), (9, 0), (9, 0), (9, 0), (9, 0), (9, 0), (9, 0), (9, 0), (9, 0), (9, 0), (9, 0)] [] (hp h (PLL 3) 39897) := by
  have e : h = hp h [] 0 := by
    funext k q i
    unfold hp
    by_cases a : q = 0
    · subst a
      rw [if_pos rfl]
      by_cases b : i = 0
      · subst b
        rw [if_pos rfl]
        by_cases k3 : k = 3
        · subst k3; rw [if_pos rfl]; exact (Int.add_zero _).symm
        · rw [if_neg k3]
          by_cases k4 : k = 4
          · subst k4; rw [if_pos rfl]; exact (Int.add_zero _).symm
          · rw [if_neg k4]
            by_cases k5 : k = 5
            · subst k5; rw [if_pos rfl]; exact (Int.add_zero _).symm
            · rw [if_neg k5]
      · rw [if_neg b]
    · rw [if_neg a, if_neg (by simp only [List.length_nil]; omega)]
  have h0 : (0 : Int) < 3 := by decide
  refine Eq.trans (b := vrun mL_law 0 [(1, 2), (9, 0), (9, 0), (9, 0), (9, 0), (9, 0), (9, 0), (9, 0), (9, 0), (9, 0), (9, 0), (9, 0), (9, 0), (9, 0), (9, 0), (9, 0), (9, 0), (9, 0)] [] (hp h [] 0)) (congrArg _ e) ?_
  refine (rk_new hr h0 (pc := 0) (dd bL_law dL_law_0) rfl rfl (kc := 33) rfl (nn := 9) rfl (q := 3) rfl (cs2 := [cO 33 []]) rfl (s2 := 9) rfl).trans ?_
  refine (rn_dup (pc := 3) (dd bL_law dL_law_3) (by decide)).trans ?_
  refine (rk_ini (cs := []) (s := 0) (cx := cO 33 []) (nn := 9) (ds := PLL 3) (t := 39897) hr h0 (pc := 4) (dd bL_law dL_law_4) rfl (by decide) (q := 3) rfl rfl (as := [(1, 3)]) rfl ⟨Nat.le_of_ble_eq_true rfl, Nat.le_of_ble_eq_true rfl, Nat.le_of_ble_eq_true rfl, Nat.le_of_ble_eq_true rfl⟩ (fun h2 a b => spPL a b) rfl (by omega) (cs2 := PLL 3) rfl (s2 := 39897) rfl).trans ?_
  exact rn_astore_n (pc := 7) (dd bL_law dL_law_7) (Nat.le_of_ble_eq_true rfl) rfl
theorem JG_0 (Ln : Nat) (xs : Nat → Int32) (hL : Ln ≤ 260) : JG 0 0 (hp (vh0 Ln xs) (PLL 3) 39897) a0 := by
  have hr : vh0 Ln xs 3 0 0 = 3 := rfl
  have h0 : (0 : Int) < 3 := by decide
  have len : (PLL 3).length = 279 := by
    rw [PLL_eq]
    simp only [List.length_append, TextL_len]
    rfl
  have V : ∀ (k : Nat) (q i : Int), 0 < q → q < 3 → hp (vh0 Ln xs) (PLL 3) 39897 k q i = vh0 Ln xs k q i := fun k q i u v => hp_lt hr u v
  refine f_JG ⟨fun k q i c cc hq hc => hp_rd hr h0 hq hc, a0_m, ⟨V 0 1 0 (by decide) (by decide), V 1 1 0 (by decide) (by decide)⟩, ?_, rfl, rfl, rfl, rfl⟩ ?_ ?_ ⟨V 0 2 0 (by decide) (by decide), ?_, fun i u v => ?_⟩
  · rw [hp_3, hr, len]; rfl
  · rw [hp_4, len]
    show (0 : Int) + 279 ≤ 300
    decide
  · rw [hp_5]
    show (0 : Int) + 39897 ≤ 60000
    decide
  · rw [V 1 2 0 (by decide) (by decide)]
    show 0 ≤ (Ln : Int) ∧ (Ln : Int) ≤ 260
    omega
  · rw [V 2 2 i (by decide) (by decide)]
    show -2147483648 ≤ (xs i.toNat).toInt ∧ (xs i.toNat).toInt < 2147483648
    exact ⟨Int32.le_toInt _, Int32.toInt_lt _⟩
theorem law_8 {h a : vH} (j : JG 0 0 h a) : Ru QE (vrun mL_law 8 [(1, 2), (1, 3), (9, 0), (9, 0), (9, 0), (9, 0), (9, 0), (9, 0), (9, 0), (9, 0), (9, 0), (9, 0), (9, 0), (9, 0), (9, 0), (9, 0), (9, 0), (9, 0)] [] h) := by
  refine ru (rn_iconst (pc := 8) (dd bL_law dL_law_8) (by decide)) ?_
  refine ru (rn_istore_n (pc := 9) (dd bL_law dL_law_9) (Nat.le_of_ble_eq_true rfl) (L2 := [(1, 2), (1, 3), (0, 0), (9, 0), (9, 0), (9, 0), (9, 0), (9, 0), (9, 0), (9, 0), (9, 0), (9, 0), (9, 0), (9, 0), (9, 0), (9, 0), (9, 0), (9, 0)]) rfl) ?_
  refine ru (rn_aload_n (pc := 10) (dd bL_law dL_law_10) rfl) ?_
  obtain ⟨h1, e2, J3⟩ := L_screen j
  refine ru ((rg_static (pc := 11) (dd bL_law dL_law_11) rfl (by decide) (Nat.le_of_ble_eq_true rfl) (as := [(1, 3)]) rfl rfl ⟨Nat.le_of_ble_eq_true rfl, Nat.le_of_ble_eq_true rfl, Nat.le_of_ble_eq_true rfl, Nat.le_of_ble_eq_true rfl⟩).trans (vret_v e2)) ?_
  refine ru ((rn_if_eq (t := 37) (pc := 14) (dd bL_law dL_law_14) rfl).trans (if_neg (by decide))) ?_
  refine ru (rn_aload_n (pc := 17) (dd bL_law dL_law_17) rfl) ?_
  refine ru (rn_iconst (pc := 18) (dd bL_law dL_law_18) (by decide)) ?_
  obtain ⟨h4, e5, J6⟩ := L_rows (p := 0) J3 (by decide)
  refine ru ((rg_static (pc := 19) (dd bL_law dL_law_19) rfl (by decide) (Nat.le_of_ble_eq_true rfl) (as := [(1, 3), (0, 0)]) rfl rfl ⟨Nat.le_of_ble_eq_true rfl, Nat.le_of_ble_eq_true rfl, Nat.le_of_ble_eq_true rfl, Nat.le_of_ble_eq_true rfl⟩).trans (vret_v e5)) ?_
  refine ru ((rn_if_eq (t := 37) (pc := 22) (dd bL_law dL_law_22) rfl).trans (if_neg (by decide))) ?_
  refine ru (rn_aload_n (pc := 25) (dd bL_law dL_law_25) rfl) ?_
  refine ru (rn_iconst (pc := 26) (dd bL_law dL_law_26) (by decide)) ?_
  obtain ⟨h7, e8, J9⟩ := L_rows (p := 3) J6 (by decide)
  refine ru ((rg_static (pc := 27) (dd bL_law dL_law_27) rfl (by decide) (Nat.le_of_ble_eq_true rfl) (as := [(1, 3), (0, 3)]) rfl rfl ⟨Nat.le_of_ble_eq_true rfl, Nat.le_of_ble_eq_true rfl, Nat.le_of_ble_eq_true rfl, Nat.le_of_ble_eq_true rfl⟩).trans (vret_v e8)) ?_
  refine ru ((rn_if_eq (t := 37) (pc := 30) (dd bL_law dL_law_30) rfl).trans (if_neg (by decide))) ?_
  refine ru (rn_iconst (pc := 33) (dd bL_law dL_law_33) (by decide)) ?_
  refine ru (rn_goto (t := 38) (pc := 34) (dd bL_law dL_law_34) rfl) ?_
  refine ru (rn_istore_n (pc := 38) (dd bL_law dL_law_38) (Nat.le_of_ble_eq_true rfl) (L2 := [(1, 2), (1, 3), (0, 0), (0, 1), (9, 0), (9, 0), (9, 0), (9, 0), (9, 0), (9, 0), (9, 0), (9, 0), (9, 0), (9, 0), (9, 0), (9, 0), (9, 0), (9, 0)]) rfl) ?_
  have sc := (jS J9).2.1
  refine ru (rn_aload_n (pc := 39) (dd bL_law dL_law_39) rfl) ?_
  refine ru (rg_alen (pc := 40) (dd bL_law dL_law_40) (k := 11) (jS J9).1 (by decide) rfl) ?_
  refine ru (rn_bipush (pc := 41) (dd bL_law dL_law_41) (by decide)) ?_
  by_cases c1 : 40 ≤ (h7 1 2 0)
  · refine ru ((rn_icmp_ge (t := 51) (pc := 43) (dd bL_law dL_law_43) rfl).trans (if_pos c1)) ?_
    refine ru (rn_aload_n (pc := 51) (dd bL_law dL_law_51) rfl) ?_
    refine ru (rg_alen (pc := 52) (dd bL_law dL_law_52) (k := 11) (jS J9).1 (by decide) rfl) ?_
    refine ru (rn_bipush (pc := 53) (dd bL_law dL_law_53) (by decide)) ?_
    by_cases c2 : 80 ≤ (h7 1 2 0)
    · refine ru ((rn_icmp_ge (t := 65) (pc := 55) (dd bL_law dL_law_55) rfl).trans (if_pos c2)) ?_
      refine ru (rn_sipush (pc := 65) (dd bL_law dL_law_65) (by decide)) ?_
      refine ru (rn_istore (pc := 68) (dd bL_law dL_law_68) (Nat.le_of_ble_eq_true rfl) (L2 := [(1, 2), (1, 3), (0, 0), (0, 1), (0, 150), (9, 0), (9, 0), (9, 0), (9, 0), (9, 0), (9, 0), (9, 0), (9, 0), (9, 0), (9, 0), (9, 0), (9, 0), (9, 0)]) rfl) ?_
      refine ru (rn_iconst (pc := 70) (dd bL_law dL_law_70) (by decide)) ?_
      refine ru (rn_istore (pc := 71) (dd bL_law dL_law_71) (Nat.le_of_ble_eq_true rfl) (L2 := [(1, 2), (1, 3), (0, 0), (0, 1), (0, 150), (0, 0), (9, 0), (9, 0), (9, 0), (9, 0), (9, 0), (9, 0), (9, 0), (9, 0), (9, 0), (9, 0), (9, 0), (9, 0)]) rfl) ?_
      exact lw_loop (by omega) (150 : Int).toNat 0 _ _ 0 _ _ _ _ _ _ _ _ _ _ _ _ (by omega) (by decide) (JG_le J9 (by decide) (by omega)) (by decide)
    · refine ru ((rn_icmp_ge (t := 65) (pc := 55) (dd bL_law dL_law_55) rfl).trans (if_neg c2)) ?_
      refine ru (rn_iconst (pc := 58) (dd bL_law dL_law_58) (by decide)) ?_
      refine ru (rn_aload_n (pc := 59) (dd bL_law dL_law_59) rfl) ?_
      refine ru (rg_alen (pc := 60) (dd bL_law dL_law_60) (k := 11) (jS J9).1 (by decide) rfl) ?_
      refine ru (rg_imul (pc := 61) (dd bL_law dL_law_61) (by omega) (by omega)) ?_
      refine ru (rn_goto (t := 68) (pc := 62) (dd bL_law dL_law_62) rfl) ?_
      refine ru (rn_istore (pc := 68) (dd bL_law dL_law_68) (Nat.le_of_ble_eq_true rfl) (L2 := [(1, 2), (1, 3), (0, 0), (0, 1), (0, (2 * (h7 1 2 0))), (9, 0), (9, 0), (9, 0), (9, 0), (9, 0), (9, 0), (9, 0), (9, 0), (9, 0), (9, 0), (9, 0), (9, 0), (9, 0)]) rfl) ?_
      refine ru (rn_iconst (pc := 70) (dd bL_law dL_law_70) (by decide)) ?_
      refine ru (rn_istore (pc := 71) (dd bL_law dL_law_71) (Nat.le_of_ble_eq_true rfl) (L2 := [(1, 2), (1, 3), (0, 0), (0, 1), (0, (2 * (h7 1 2 0))), (0, 0), (9, 0), (9, 0), (9, 0), (9, 0), (9, 0), (9, 0), (9, 0), (9, 0), (9, 0), (9, 0), (9, 0), (9, 0)]) rfl) ?_
      exact lw_loop (by omega) ((2 * (h7 1 2 0)) : Int).toNat 0 _ _ 0 _ _ _ _ _ _ _ _ _ _ _ _ (by omega) (by decide) (JG_le J9 (by decide) (by omega)) (by decide)
  · refine ru ((rn_icmp_ge (t := 51) (pc := 43) (dd bL_law dL_law_43) rfl).trans (if_neg c1)) ?_
    refine ru (rn_bipush (pc := 46) (dd bL_law dL_law_46) (by decide)) ?_
    refine ru (rn_goto (t := 68) (pc := 48) (dd bL_law dL_law_48) rfl) ?_
    refine ru (rn_istore (pc := 68) (dd bL_law dL_law_68) (Nat.le_of_ble_eq_true rfl) (L2 := [(1, 2), (1, 3), (0, 0), (0, 1), (0, 100), (9, 0), (9, 0), (9, 0), (9, 0), (9, 0), (9, 0), (9, 0), (9, 0), (9, 0), (9, 0), (9, 0), (9, 0), (9, 0)]) rfl) ?_
    refine ru (rn_iconst (pc := 70) (dd bL_law dL_law_70) (by decide)) ?_
    refine ru (rn_istore (pc := 71) (dd bL_law dL_law_71) (Nat.le_of_ble_eq_true rfl) (L2 := [(1, 2), (1, 3), (0, 0), (0, 1), (0, 100), (0, 0), (9, 0), (9, 0), (9, 0), (9, 0), (9, 0), (9, 0), (9, 0), (9, 0), (9, 0), (9, 0), (9, 0), (9, 0)]) rfl) ?_
    exact lw_loop (by omega) (100 : Int).toNat 0 _ _ 0 _ _ _ _ _ _ _ _ _ _ _ _ (by omega) (by decide) (JG_le J9 (by decide) (by omega)) (by decide)
theorem law_run {Ln : Nat} {xs : Nat → Int32} (hL : Ln ≤ 260) : ∃ h', vrun mL_law 0 (vent 18 [(1, 2)]) [] (vh0 Ln xs) = some (.inl (some (0, 1)), h') ∧ h' 4 0 0 ≤ 600086 ∧ h' 5 0 0 ≤ 7301442 := by
  obtain ⟨r, h', e, rfl, x, y⟩ := law_8 (JG_0 Ln xs hL)
  exact ⟨h', ((show _ = _ from law_0 (h := vh0 Ln xs) rfl)).trans e, x, y⟩
