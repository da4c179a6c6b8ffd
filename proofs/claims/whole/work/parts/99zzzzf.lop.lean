theorem law_0 {h : vH} (hr : h 3 0 0 = 3) : vrun mL_law 0 [(1, 2), (9, 0), (9, 0), (9, 0), (9, 0), (9, 0), (9, 0)] [] h = vrun mL_law 8 [(1, 2), (1, 3), (9, 0), (9, 0), (9, 0), (9, 0), (9, 0)] [] (hp h (PLL 3) 39897) := by
  have e : h = hp h [] 0 := by
    funext k q i
    unfold hp
    by_cases a : q = 0
    · subst a
      rw [if_pos rfl]
      by_cases b : i = 0
      · subst b
        rw [if_pos rfl]
        by_cases k3 : k = 3
        · subst k3; rw [if_pos rfl]; exact (Int.add_zero _).symm
        · rw [if_neg k3]
          by_cases k4 : k = 4
          · subst k4; rw [if_pos rfl]; exact (Int.add_zero _).symm
          · rw [if_neg k4]
            by_cases k5 : k = 5
            · subst k5; rw [if_pos rfl]; exact (Int.add_zero _).symm
            · rw [if_neg k5]
      · rw [if_neg b]
    · rw [if_neg a, if_neg (by simp only [List.length_nil]; omega)]
  have h0 : (0 : Int) < 3 := by decide
  refine Eq.trans (b := vrun mL_law 0 [(1, 2), (9, 0), (9, 0), (9, 0), (9, 0), (9, 0), (9, 0)] [] (hp h [] 0)) (congrArg _ e) ?_
  refine (rk_new hr h0 (pc := 0) (dd bL_law dL_law_0) rfl rfl (kc := 33) rfl (nn := 9) rfl (q := 3) rfl (cs2 := [cO 33 []]) rfl (s2 := 9) rfl).trans ?_
  refine (rn_dup (pc := 3) (dd bL_law dL_law_3) (by decide)).trans ?_
  refine (rk_ini (cs := []) (s := 0) (cx := cO 33 []) (nn := 9) (ds := PLL 3) (t := 39897) hr h0 (pc := 4) (dd bL_law dL_law_4) rfl (by decide) (q := 3) rfl rfl (as := [(1, 3)]) rfl ⟨Nat.le_of_ble_eq_true rfl, Nat.le_of_ble_eq_true rfl, Nat.le_of_ble_eq_true rfl, Nat.le_of_ble_eq_true rfl⟩ (fun h2 a b => spPL a b) rfl (by omega) (cs2 := PLL 3) rfl (s2 := 39897) rfl).trans ?_
  exact rn_astore_n (pc := 7) (dd bL_law dL_law_7) (Nat.le_of_ble_eq_true rfl) rfl
theorem spModel {h : vH} (hr : h 3 0 0 = 282) (k : ∀ H, (∀ (k : Nat) (q i : Int) (c : Nat) (cc : cC), q = 282 + (c : Int) → (ModelL 282)[c]? = some cc → H k q i = cc k i) → shModel H) : ∃ h2, vcl mX13_init [(1, 282)] (hp h [cO 34 []] 63) = some (.inl none, h2) ∧ hF 310 (hp h (ModelL 282) 23574) h2 ∧ h2 2 310 0 = 24 ∧ h2 2 310 1 = 0 ∧ h2 2 310 2 = 0 ∧ h2 2 310 3 = 0 := by
  have h0 : (0 : Int) < 282 := by decide
  have R : ∀ (k : Nat) (q i : Int) (c : Nat) (cc : cC), q = 282 + (c : Int) → (ModelL 282)[c]? = some cc → hp h (ModelL 282) 23574 k q i = cc k i := fun k q i c cc hq hc => hp_rd hr h0 hq hc
  have sM := k _ R
  obtain ⟨h2, e, F, v⟩ := M_shares sM (op := hp h (ModelL 282) 23574 2 289) (wt := hp h (ModelL 282) 23574 2 290) (ls := hp h (ModelL 282) 23574 2 291) (lk := hp h (ModelL 282) 23574 2 292) (fun p _ _ => ⟨rfl, rfl, rfl, rfl⟩) (fun p u v => by
    obtain z | z | z | z : p = 0 ∨ p = 1 ∨ p = 2 ∨ p = 3 := by omega
    all_goals
      subst z
      rw [R 2 289 _ 7 _ rfl rfl, R 2 290 _ 8 _ rfl rfl, R 2 291 _ 9 _ rfl rfl, R 2 292 _ 10 _ rfl rfl]
      decide)
  obtain ⟨t0, t1, t2, t3⟩ := sHt_0 (op := hp h (ModelL 282) 23574 2 289) (wt := hp h (ModelL 282) 23574 2 290) (ls := hp h (ModelL 282) 23574 2 291) (lk := hp h (ModelL 282) 23574 2 292) (R 2 289 0 7 _ rfl rfl) (R 2 289 1 7 _ rfl rfl) (R 2 289 2 7 _ rfl rfl) (R 2 289 3 7 _ rfl rfl) (R 2 290 0 8 _ rfl rfl) (R 2 291 0 9 _ rfl rfl) (R 2 292 0 10 _ rfl rfl)
  refine ⟨h2, vcl_as (L := [(1, 282), (9, 0)]) rfl ((spModel0 hr h0).trans ?_), F, (v 0 (by decide) (by decide)).trans t0, (v 1 (by decide) (by decide)).trans t1, (v 2 (by decide) (by decide)).trans t2, (v 3 (by decide) (by decide)).trans t3⟩
  refine (rg_virtual (pc := 507) (dd bX13_init dX13_init_507) rfl rfl (by decide) (kc := 34) rfl (R 0 282 0 0 _ rfl rfl) (as := [(1, 282)]) rfl ⟨Nat.le_of_ble_eq_true rfl, Nat.le_of_ble_eq_true rfl, Nat.le_of_ble_eq_true rfl, Nat.le_of_ble_eq_true rfl⟩).trans ?_
  refine (vret_n e).trans ?_
  exact rn_return (pc := 510) (dd bX13_init dX13_init_510) rfl
/-- the law up to its loop -/
theorem law_begin (Ln : Nat) (xs : Nat → Int32) : ∃ h : vH, vrun mL_law 0 (vent 7 [(1, 2)]) [] (vh0 Ln xs) = vrun mL_law 23 [(1, 2), (1, 3), (1, 282), (1, 338), (0, 0), (9, 0), (9, 0)] [] h ∧ JN 0 h ∧ lwH h (Ln : Int) ∧ h 4 0 0 = 336 ∧ h 5 0 0 = 63472 := by
  have hr : vh0 Ln xs 3 0 0 = 3 := rfl
  have h0 : (0 : Int) < 3 := by decide
  have len : (PLL 3).length = 279 := by
    rw [PLL_eq]
    simp only [List.length_append, TextL_len]
    rfl
  have hP3 : hp (vh0 Ln xs) (PLL 3) 39897 3 0 0 = 282 := by rw [hp_3, hr, len]; rfl
  have h1 : (0 : Int) < 282 := by decide
  obtain ⟨h2, e, F, t0, t1, t2, t3⟩ := spModel hP3 (fun H R => f_ModelR (fun k q i c cc a b _ => R k q i c cc a b))
  have hM3 : hp (hp (vh0 Ln xs) (PLL 3) 39897) (ModelL 282) 23574 3 0 0 = 338 := by rw [hp_3, hP3]; rfl
  have h23 : h2 3 0 0 = 338 := (F 3 0 0 (fun z => absurd z.1 (by decide))).trans hM3
  have h2n : 0 < h2 3 0 0 := by omega
  have e9 : vrun mL_law 0 (vent 7 [(1, 2)]) [] (vh0 Ln xs) = vrun mL_law 23 [(1, 2), (1, 3), (1, 282), (1, 338), (0, 0), (9, 0), (9, 0)] [] (hp h2 [xA 3 1 []] 1) := by
    refine (show _ = _ from law_0 hr).trans ?_
    refine (rg_new (pc := 8) (dd bL_law dL_law_8) rfl rfl (kc := 34) rfl (nn := 63) rfl).trans ?_
    rw [hP3, hp_nO (by omega)]
    refine (rn_dup (pc := 11) (dd bL_law dL_law_11) (by decide)).trans ?_
    refine (rn_special (pc := 12) (dd bL_law dL_law_12) rfl rfl (by decide) (by decide) (as := [(1, 282)]) rfl ⟨Nat.le_of_ble_eq_true rfl, Nat.le_of_ble_eq_true rfl, Nat.le_of_ble_eq_true rfl, Nat.le_of_ble_eq_true rfl⟩).trans ?_
    refine (vret_n e).trans ?_
    refine (rn_astore_n (pc := 15) (dd bL_law dL_law_15) (Nat.le_of_ble_eq_true rfl) rfl).trans ?_
    refine (rn_iconst (pc := 16) (dd bL_law dL_law_16) (by decide)).trans ?_
    refine (rn_new_long (pc := 17) (dd bL_law dL_law_17) (by decide)).trans ?_
    rw [h23, hp_nA h2n]
    refine (rn_astore_n (pc := 19) (dd bL_law dL_law_19) (Nat.le_of_ble_eq_true rfl) rfl).trans ?_
    refine (rn_iconst (pc := 20) (dd bL_law dL_law_20) (by decide)).trans ?_
    exact rn_istore (pc := 21) (dd bL_law dL_law_21) (Nat.le_of_ble_eq_true rfl) rfl
  have O : ∀ (k : Nat) (q i : Int), 0 < q → q < 338 → hp h2 [xA 3 1 []] 1 k q i = h2 k q i := fun k q i u v => hp_lt h23 u v
  have G : ∀ (k : Nat) (q i : Int), 0 < q → q < 338 → ¬ (k = 2 ∧ q = 310) → hp h2 [xA 3 1 []] 1 k q i = hp (hp (vh0 Ln xs) (PLL 3) 39897) (ModelL 282) 23574 k q i := fun k q i u v n => (O k q i u v).trans (F k q i (fun z => n ⟨z.1, z.2.1⟩))
  have V : ∀ (k : Nat) (q i : Int), 0 < q → q < 3 → hp h2 [xA 3 1 []] 1 k q i = vh0 Ln xs k q i := fun k q i u v => (G k q i u (by omega) (by omega)).trans ((hp_lt hP3 u (by omega)).trans (hp_lt hr u v))
  refine ⟨hp h2 [xA 3 1 []] 1, e9, f_J ⟨?_, ?_, ⟨V 0 1 0 (by decide) (by decide), V 1 1 0 (by decide) (by decide)⟩, ?_, ?_, ?_, ?_, ?_⟩, ⟨V 0 2 0 (by decide) (by decide), V 1 2 0 (by decide) (by decide), ?_, ?_, fun j u v => ?_⟩, ?_, ?_⟩
  · intro k q i c cc hq hc
    have hj : c < 279 := by
      rcases List.getElem?_eq_some_iff.mp hc with ⟨a, -⟩
      rw [len] at a
      exact a
    rw [G k q i (by omega) (by omega) (by omega), hp_lt hP3 (by omega) (by omega), hp_rd hr h0 hq hc]
  · intro k q i c cc hq hc n
    have hj : c < 56 := by
      rcases List.getElem?_eq_some_iff.mp hc with ⟨a, -⟩
      exact a
    rw [G k q i (by omega) (by omega) n, hp_rd hP3 h1 hq hc]
  · rw [hp_3, h23]
    rfl
  · exact (O 2 310 0 (by decide) (by decide)).trans t0
  · exact (O 2 310 1 (by decide) (by decide)).trans t1
  · exact (O 2 310 2 (by decide) (by decide)).trans t2
  · exact (O 2 310 3 (by decide) (by decide)).trans t3
  · exact (hp_rd (cs := [xA 3 1 []]) (c := xA 3 1 []) (j := 0) h23 (by decide) rfl rfl).trans rfl
  · exact (hp_rd (cs := [xA 3 1 []]) (c := xA 3 1 []) (j := 0) h23 (by decide) rfl rfl).trans rfl
  · rw [V 2 2 j (by decide) (by decide)]
    show -2147483648 ≤ (xs j.toNat).toInt ∧ (xs j.toNat).toInt < 2147483648
    exact ⟨Int32.le_toInt _, Int32.toInt_lt _⟩
  · rw [hp_4, F 4 0 0 (fun z => absurd z.1 (by decide)), hp_4, hp_4, len]
    rfl
  · rw [hp_5, F 5 0 0 (fun z => absurd z.1 (by decide)), hp_5, hp_5]
    rfl
theorem law_end {i Ln : Int} {h : vH} {v5 v6 : vv} (w : lwH h Ln) (hL : 0 ≤ Ln ∧ Ln ≤ 3072) (hi : 0 ≤ i ∧ i ≤ 4000) (he : Ln < i + 6) : vrun mL_law 23 [(1, 2), (1, 3), (1, 282), (1, 338), (0, i), v5, v6] [] h = some (.inl (some (0, 1)), h) := by
  refine (rn_iload (pc := 23) (dd bL_law dL_law_23) rfl).trans ?_
  refine (rn_aload_n (pc := 25) (dd bL_law dL_law_25) rfl).trans ?_
  refine (rg_alen (pc := 26) (dd bL_law dL_law_26) (k := 11) w.1 (by decide) w.2.1).trans ?_
  refine (rn_bipush (pc := 27) (dd bL_law dL_law_27) (by decide)).trans ?_
  refine (rg_isub (pc := 29) (dd bL_law dL_law_29) (by omega) (by omega)).trans ?_
  refine (rn_icmp_gt (t := 2988) (pc := 30) (dd bL_law dL_law_30) rfl).trans ((if_pos (by omega)).trans ?_)
  refine (rn_iconst (pc := 2988) (dd bL_law dL_law_2988) (by decide)).trans ?_
  exact rn_ireturn (pc := 2989) (dd bL_law dL_law_2989) (Or.inr ⟨rfl, Or.inr rfl⟩)
theorem lw_step {n i Ln : Int} {h : vH} {v5 v6 : vv} (J : JN n h) (hn : 0 ≤ n ∧ n ≤ 9000) (w : lwH h Ln) (hi : 0 ≤ i ∧ i + 6 ≤ Ln ∧ Ln ≤ 3072) : lwN n h i (vrun mL_law 23 [(1, 2), (1, 3), (1, 282), (1, 338), (0, i), v5, v6] [] h) := by
  have e0 : vrun mL_law 23 [(1, 2), (1, 3), (1, 282), (1, 338), (0, i), v5, v6] [] h = vrun mL_law 40 [(1, 2), (1, 3), (1, 282), (1, 338), (0, i), v5, v6] [(0, biand (h 2 2 i) 63)] h := by
    refine (rn_iload (pc := 23) (dd bL_law dL_law_23) rfl).trans ?_
    refine (rn_aload_n (pc := 25) (dd bL_law dL_law_25) rfl).trans ?_
    refine (rg_alen (pc := 26) (dd bL_law dL_law_26) (k := 11) w.1 (by decide) w.2.1).trans ?_
    refine (rn_bipush (pc := 27) (dd bL_law dL_law_27) (by decide)).trans ?_
    refine (rg_isub (pc := 29) (dd bL_law dL_law_29) (by omega) (by omega)).trans ?_
    refine (rn_icmp_gt (t := 2988) (pc := 30) (dd bL_law dL_law_30) rfl).trans ((if_neg (by omega)).trans ?_)
    refine (rn_aload_n (pc := 33) (dd bL_law dL_law_33) rfl).trans ?_
    refine (rn_iload (pc := 34) (dd bL_law dL_law_34) rfl).trans ?_
    refine (rl_iaload (n := Ln) (pc := 36) (dd bL_law dL_law_36) w.1 w.2.1 (by omega) (by omega) rfl).trans ?_
    refine (rn_bipush (pc := 37) (dd bL_law dL_law_37) (by decide)).trans ?_
    exact rg_iand (pc := 39) (dd bL_law dL_law_39)
  by_cases c0 : biand (h 2 2 i) 63 = 0
  · have e : vrun mL_law 23 [(1, 2), (1, 3), (1, 282), (1, 338), (0, i), v5, v6] [] h = _ := e0.trans ((rn_table (off := 168) (t := 208) (pc := 40) (dd bL_law dL_law_40) (by omega) (by rw [c0]; rfl) rfl))
    rw [e]
    exact LC_0 J hn w hi
  by_cases c1 : biand (h 2 2 i) 63 = 1
  · have e : vrun mL_law 23 [(1, 2), (1, 3), (1, 282), (1, 338), (0, i), v5, v6] [] h = _ := e0.trans ((rn_table (off := 181) (t := 221) (pc := 40) (dd bL_law dL_law_40) (by omega) (by rw [c1]; rfl) rfl))
    rw [e]
    exact LC_1 J hn w hi
  by_cases c2 : biand (h 2 2 i) 63 = 2
  · have e : vrun mL_law 23 [(1, 2), (1, 3), (1, 282), (1, 338), (0, i), v5, v6] [] h = _ := e0.trans ((rn_table (off := 237) (t := 277) (pc := 40) (dd bL_law dL_law_40) (by omega) (by rw [c2]; rfl) rfl))
    rw [e]
    exact LC_2 J hn w hi
  by_cases c3 : biand (h 2 2 i) 63 = 3
  · have e : vrun mL_law 23 [(1, 2), (1, 3), (1, 282), (1, 338), (0, i), v5, v6] [] h = _ := e0.trans ((rn_table (off := 305) (t := 345) (pc := 40) (dd bL_law dL_law_40) (by omega) (by rw [c3]; rfl) rfl))
    rw [e]
    exact LC_3 J hn w hi
  by_cases c4 : biand (h 2 2 i) 63 = 4
  · have e : vrun mL_law 23 [(1, 2), (1, 3), (1, 282), (1, 338), (0, i), v5, v6] [] h = _ := e0.trans ((rn_table (off := 385) (t := 425) (pc := 40) (dd bL_law dL_law_40) (by omega) (by rw [c4]; rfl) rfl))
    rw [e]
    exact LC_4 J hn w hi
  by_cases c5 : biand (h 2 2 i) 63 = 5
  · have e : vrun mL_law 23 [(1, 2), (1, 3), (1, 282), (1, 338), (0, i), v5, v6] [] h = _ := e0.trans ((rn_table (off := 465) (t := 505) (pc := 40) (dd bL_law dL_law_40) (by omega) (by rw [c5]; rfl) rfl))
    rw [e]
    exact LC_5 J hn w hi
  by_cases c6 : biand (h 2 2 i) 63 = 6
  · have e : vrun mL_law 23 [(1, 2), (1, 3), (1, 282), (1, 338), (0, i), v5, v6] [] h = _ := e0.trans ((rn_table (off := 533) (t := 573) (pc := 40) (dd bL_law dL_law_40) (by omega) (by rw [c6]; rfl) rfl))
    rw [e]
    exact LC_6 J hn w hi
  by_cases c7 : biand (h 2 2 i) 63 = 7
  · have e : vrun mL_law 23 [(1, 2), (1, 3), (1, 282), (1, 338), (0, i), v5, v6] [] h = _ := e0.trans ((rn_table (off := 589) (t := 629) (pc := 40) (dd bL_law dL_law_40) (by omega) (by rw [c7]; rfl) rfl))
    rw [e]
    exact LC_7 J hn w hi
  by_cases c8 : biand (h 2 2 i) 63 = 8
  · have e : vrun mL_law 23 [(1, 2), (1, 3), (1, 282), (1, 338), (0, i), v5, v6] [] h = _ := e0.trans ((rn_table (off := 680) (t := 720) (pc := 40) (dd bL_law dL_law_40) (by omega) (by rw [c8]; rfl) rfl))
    rw [e]
    exact LC_8 J hn w hi
  by_cases c9 : biand (h 2 2 i) 63 = 9
  · have e : vrun mL_law 23 [(1, 2), (1, 3), (1, 282), (1, 338), (0, i), v5, v6] [] h = _ := e0.trans ((rn_table (off := 752) (t := 792) (pc := 40) (dd bL_law dL_law_40) (by omega) (by rw [c9]; rfl) rfl))
    rw [e]
    exact LC_9 J hn w hi
  by_cases c10 : biand (h 2 2 i) 63 = 10
  · have e : vrun mL_law 23 [(1, 2), (1, 3), (1, 282), (1, 338), (0, i), v5, v6] [] h = _ := e0.trans ((rn_table (off := 844) (t := 884) (pc := 40) (dd bL_law dL_law_40) (by omega) (by rw [c10]; rfl) rfl))
    rw [e]
    exact LC_10 J hn w hi
  by_cases c11 : biand (h 2 2 i) 63 = 11
  · have e : vrun mL_law 23 [(1, 2), (1, 3), (1, 282), (1, 338), (0, i), v5, v6] [] h = _ := e0.trans ((rn_table (off := 912) (t := 952) (pc := 40) (dd bL_law dL_law_40) (by omega) (by rw [c11]; rfl) rfl))
    rw [e]
    exact LC_11 J hn w hi
  by_cases c12 : biand (h 2 2 i) 63 = 12
  · have e : vrun mL_law 23 [(1, 2), (1, 3), (1, 282), (1, 338), (0, i), v5, v6] [] h = _ := e0.trans ((rn_table (off := 1036) (t := 1076) (pc := 40) (dd bL_law dL_law_40) (by omega) (by rw [c12]; rfl) rfl))
    rw [e]
    exact LC_12 J hn w hi
  by_cases c13 : biand (h 2 2 i) 63 = 13
  · have e : vrun mL_law 23 [(1, 2), (1, 3), (1, 282), (1, 338), (0, i), v5, v6] [] h = _ := e0.trans ((rn_table (off := 1104) (t := 1144) (pc := 40) (dd bL_law dL_law_40) (by omega) (by rw [c13]; rfl) rfl))
    rw [e]
    exact LC_13 J hn w hi
  by_cases c14 : biand (h 2 2 i) 63 = 14
  · have e : vrun mL_law 23 [(1, 2), (1, 3), (1, 282), (1, 338), (0, i), v5, v6] [] h = _ := e0.trans ((rn_table (off := 1184) (t := 1224) (pc := 40) (dd bL_law dL_law_40) (by omega) (by rw [c14]; rfl) rfl))
    rw [e]
    exact LC_14 J hn w hi
  by_cases c15 : biand (h 2 2 i) 63 = 15
  · have e : vrun mL_law 23 [(1, 2), (1, 3), (1, 282), (1, 338), (0, i), v5, v6] [] h = _ := e0.trans ((rn_table (off := 1287) (t := 1327) (pc := 40) (dd bL_law dL_law_40) (by omega) (by rw [c15]; rfl) rfl))
    rw [e]
    exact LC_15 J hn w hi
  by_cases c16 : biand (h 2 2 i) 63 = 16
  · have e : vrun mL_law 23 [(1, 2), (1, 3), (1, 282), (1, 338), (0, i), v5, v6] [] h = _ := e0.trans ((rn_table (off := 1343) (t := 1383) (pc := 40) (dd bL_law dL_law_40) (by omega) (by rw [c16]; rfl) rfl))
    rw [e]
    exact LC_16 J hn w hi
  by_cases c17 : biand (h 2 2 i) 63 = 17
  · have e : vrun mL_law 23 [(1, 2), (1, 3), (1, 282), (1, 338), (0, i), v5, v6] [] h = _ := e0.trans ((rn_table (off := 1411) (t := 1451) (pc := 40) (dd bL_law dL_law_40) (by omega) (by rw [c17]; rfl) rfl))
    rw [e]
    exact LC_17 J hn w hi
  by_cases c18 : biand (h 2 2 i) 63 = 18
  · have e : vrun mL_law 23 [(1, 2), (1, 3), (1, 282), (1, 338), (0, i), v5, v6] [] h = _ := e0.trans ((rn_table (off := 1479) (t := 1519) (pc := 40) (dd bL_law dL_law_40) (by omega) (by rw [c18]; rfl) rfl))
    rw [e]
    exact LC_18 J hn w hi
  by_cases c19 : biand (h 2 2 i) 63 = 19
  · have e : vrun mL_law 23 [(1, 2), (1, 3), (1, 282), (1, 338), (0, i), v5, v6] [] h = _ := e0.trans ((rn_table (off := 1571) (t := 1611) (pc := 40) (dd bL_law dL_law_40) (by omega) (by rw [c19]; rfl) rfl))
    rw [e]
    exact LC_19 J hn w hi
  by_cases c20 : biand (h 2 2 i) 63 = 20
  · have e : vrun mL_law 23 [(1, 2), (1, 3), (1, 282), (1, 338), (0, i), v5, v6] [] h = _ := e0.trans ((rn_table (off := 1663) (t := 1703) (pc := 40) (dd bL_law dL_law_40) (by omega) (by rw [c20]; rfl) rfl))
    rw [e]
    exact LC_20 J hn w hi
  by_cases c21 : biand (h 2 2 i) 63 = 21
  · have e : vrun mL_law 23 [(1, 2), (1, 3), (1, 282), (1, 338), (0, i), v5, v6] [] h = _ := e0.trans ((rn_table (off := 1755) (t := 1795) (pc := 40) (dd bL_law dL_law_40) (by omega) (by rw [c21]; rfl) rfl))
    rw [e]
    exact LC_21 J hn w hi
  by_cases c22 : biand (h 2 2 i) 63 = 22
  · have e : vrun mL_law 23 [(1, 2), (1, 3), (1, 282), (1, 338), (0, i), v5, v6] [] h = _ := e0.trans ((rn_table (off := 1823) (t := 1863) (pc := 40) (dd bL_law dL_law_40) (by omega) (by rw [c22]; rfl) rfl))
    rw [e]
    exact LC_22 J hn w hi
  by_cases c23 : biand (h 2 2 i) 63 = 23
  · have e : vrun mL_law 23 [(1, 2), (1, 3), (1, 282), (1, 338), (0, i), v5, v6] [] h = _ := e0.trans ((rn_table (off := 1903) (t := 1943) (pc := 40) (dd bL_law dL_law_40) (by omega) (by rw [c23]; rfl) rfl))
    rw [e]
    exact LC_23 J hn w hi
  by_cases c24 : biand (h 2 2 i) 63 = 24
  · have e : vrun mL_law 23 [(1, 2), (1, 3), (1, 282), (1, 338), (0, i), v5, v6] [] h = _ := e0.trans ((rn_table (off := 1971) (t := 2011) (pc := 40) (dd bL_law dL_law_40) (by omega) (by rw [c24]; rfl) rfl))
    rw [e]
    exact LC_24 J hn w hi
  by_cases c25 : biand (h 2 2 i) 63 = 25
  · have e : vrun mL_law 23 [(1, 2), (1, 3), (1, 282), (1, 338), (0, i), v5, v6] [] h = _ := e0.trans ((rn_table (off := 2039) (t := 2079) (pc := 40) (dd bL_law dL_law_40) (by omega) (by rw [c25]; rfl) rfl))
    rw [e]
    exact LC_25 J hn w hi
  by_cases c26 : biand (h 2 2 i) 63 = 26
  · have e : vrun mL_law 23 [(1, 2), (1, 3), (1, 282), (1, 338), (0, i), v5, v6] [] h = _ := e0.trans ((rn_table (off := 2095) (t := 2135) (pc := 40) (dd bL_law dL_law_40) (by omega) (by rw [c26]; rfl) rfl))
    rw [e]
    exact LC_26 J hn w hi
  by_cases c27 : biand (h 2 2 i) 63 = 27
  · have e : vrun mL_law 23 [(1, 2), (1, 3), (1, 282), (1, 338), (0, i), v5, v6] [] h = _ := e0.trans ((rn_table (off := 2151) (t := 2191) (pc := 40) (dd bL_law dL_law_40) (by omega) (by rw [c27]; rfl) rfl))
    rw [e]
    exact LC_27 J hn w hi
  by_cases c28 : biand (h 2 2 i) 63 = 28
  · have e : vrun mL_law 23 [(1, 2), (1, 3), (1, 282), (1, 338), (0, i), v5, v6] [] h = _ := e0.trans ((rn_table (off := 2243) (t := 2283) (pc := 40) (dd bL_law dL_law_40) (by omega) (by rw [c28]; rfl) rfl))
    rw [e]
    exact LC_28 J hn w hi
  by_cases c29 : biand (h 2 2 i) 63 = 29
  · have e : vrun mL_law 23 [(1, 2), (1, 3), (1, 282), (1, 338), (0, i), v5, v6] [] h = _ := e0.trans ((rn_table (off := 2299) (t := 2339) (pc := 40) (dd bL_law dL_law_40) (by omega) (by rw [c29]; rfl) rfl))
    rw [e]
    exact LC_29 J hn w hi
  by_cases c30 : biand (h 2 2 i) 63 = 30
  · have e : vrun mL_law 23 [(1, 2), (1, 3), (1, 282), (1, 338), (0, i), v5, v6] [] h = _ := e0.trans ((rn_table (off := 2379) (t := 2419) (pc := 40) (dd bL_law dL_law_40) (by omega) (by rw [c30]; rfl) rfl))
    rw [e]
    exact LC_30 J hn w hi
  by_cases c31 : biand (h 2 2 i) 63 = 31
  · have e : vrun mL_law 23 [(1, 2), (1, 3), (1, 282), (1, 338), (0, i), v5, v6] [] h = _ := e0.trans ((rn_table (off := 2454) (t := 2494) (pc := 40) (dd bL_law dL_law_40) (by omega) (by rw [c31]; rfl) rfl))
    rw [e]
    exact LC_31 J hn w hi
  by_cases c32 : biand (h 2 2 i) 63 = 32
  · have e : vrun mL_law 23 [(1, 2), (1, 3), (1, 282), (1, 338), (0, i), v5, v6] [] h = _ := e0.trans ((rn_table (off := 2522) (t := 2562) (pc := 40) (dd bL_law dL_law_40) (by omega) (by rw [c32]; rfl) rfl))
    rw [e]
    exact LC_32 J hn w hi
  by_cases c33 : biand (h 2 2 i) 63 = 33
  · have e : vrun mL_law 23 [(1, 2), (1, 3), (1, 282), (1, 338), (0, i), v5, v6] [] h = _ := e0.trans ((rn_table (off := 2590) (t := 2630) (pc := 40) (dd bL_law dL_law_40) (by omega) (by rw [c33]; rfl) rfl))
    rw [e]
    exact LC_33 J hn w hi
  by_cases c34 : biand (h 2 2 i) 63 = 34
  · have e : vrun mL_law 23 [(1, 2), (1, 3), (1, 282), (1, 338), (0, i), v5, v6] [] h = _ := e0.trans ((rn_table (off := 2658) (t := 2698) (pc := 40) (dd bL_law dL_law_40) (by omega) (by rw [c34]; rfl) rfl))
    rw [e]
    exact LC_34 J hn w hi
  by_cases c35 : biand (h 2 2 i) 63 = 35
  · have e : vrun mL_law 23 [(1, 2), (1, 3), (1, 282), (1, 338), (0, i), v5, v6] [] h = _ := e0.trans ((rn_table (off := 2726) (t := 2766) (pc := 40) (dd bL_law dL_law_40) (by omega) (by rw [c35]; rfl) rfl))
    rw [e]
    exact LC_35 J hn w hi
  by_cases c36 : biand (h 2 2 i) 63 = 36
  · have e : vrun mL_law 23 [(1, 2), (1, 3), (1, 282), (1, 338), (0, i), v5, v6] [] h = _ := e0.trans ((rn_table (off := 2830) (t := 2870) (pc := 40) (dd bL_law dL_law_40) (by omega) (by rw [c36]; rfl) rfl))
    rw [e]
    exact LC_36 J hn w hi
  by_cases c37 : biand (h 2 2 i) 63 = 37
  · have e : vrun mL_law 23 [(1, 2), (1, 3), (1, 282), (1, 338), (0, i), v5, v6] [] h = _ := e0.trans ((rn_table (off := 2886) (t := 2926) (pc := 40) (dd bL_law dL_law_40) (by omega) (by rw [c37]; rfl) rfl))
    rw [e]
    exact LC_37 J hn w hi
  refine ⟨h, v5, v6, ?_, ⟨J.1, ⟨J.2.1.1, iV_up J.2.1.2.1 (by omega), J.2.1.2.2⟩, J.2.2⟩, fun _ _ => rfl, rfl, rfl, rfl, by omega, by omega⟩
  refine e0.trans ((rn_tableD (t := 2982) (pc := 40) (dd bL_law dL_law_40) (by omega) rfl).trans ?_)
  refine (rg_iinc (pc := 2982) (dd bL_law dL_law_2982) (x := i) rfl (Nat.le_of_ble_eq_true rfl) (by omega) (by omega) rfl).trans ?_
  exact rn_goto (t := 23) (pc := 2985) (dd bL_law dL_law_2985) rfl
theorem kS_lwH {h o : vH} {Ln : Int} (k : kS h o) (w : lwH h Ln) : lwH o Ln := ⟨(k.1 0 0).trans w.1, (k.1 1 0).trans w.2.1, k.2.1.trans w.2.2.1, k.2.2.1.trans w.2.2.2.1, fun j u v => by
  rw [k.1 2 j]
  exact w.2.2.2.2 j u v⟩
theorem lw_loop {Ln : Int} (hL : 0 ≤ Ln ∧ Ln ≤ 3072) : ∀ (k : Nat) {n i : Int} {h : vH} {v5 v6 : vv}, JN n h → 0 ≤ n → n + k ≤ 9000 → lwH h Ln → 0 ≤ i → i ≤ 4000 → Ln < i + 6 + 6 * k → ∃ h', vrun mL_law 23 [(1, 2), (1, 3), (1, 282), (1, 338), (0, i), v5, v6] [] h = some (.inl (some (0, 1)), h') ∧ h' 4 0 0 ≤ h 4 0 0 + 100 * k ∧ h' 5 0 0 ≤ h 5 0 0 + 1000 * k := by
  intro k
  induction k with
  | zero =>
    intro n i h v5 v6 J n0 nk w i0 i4 hk
    refine ⟨h, ?_, by omega, by omega⟩
    exact law_end w hL ⟨i0, i4⟩ (by omega)
  | succ k ih =>
    intro n i h v5 v6 J n0 nk w i0 i4 hk
    by_cases z : i + 6 ≤ Ln
    · obtain ⟨h2, w5, w6, e, j2, ks⟩ := lw_step (v5 := v5) (v6 := v6) J (by omega) w ⟨i0, z, hL.2⟩
      obtain ⟨h', e2, c4, c5⟩ := ih (i := i + 6) (v5 := w5) (v6 := w6) j2 (by omega) (by omega) (kS_lwH ks w) (by omega) (by omega) (by omega)
      have k4 := ks.2.2.2.2.1
      have k5 := ks.2.2.2.2.2
      exact ⟨h', e.trans e2, by omega, by omega⟩
    · exact ⟨h, law_end w hL ⟨i0, i4⟩ (by omega), by omega, by omega⟩
theorem law_run {Ln : Nat} {xs : Nat → Int32} (hL : Ln ≤ 3072) : ∃ h', vrun mL_law 0 (vent 7 [(1, 2)]) [] (vh0 Ln xs) = some (.inl (some (0, 1)), h') ∧ h' 4 0 0 ≤ 601024 ∧ h' 5 0 0 ≤ 7293034 := by
  obtain ⟨h, e, J, w, c4, c5⟩ := law_begin Ln xs
  obtain ⟨h', e2, d4, d5⟩ := lw_loop (Ln := (Ln : Int)) ⟨by omega, by omega⟩ 512 (n := 0) (i := 0) (v5 := (9, 0)) (v6 := (9, 0)) J (by decide) (by decide) w (by decide) (by decide) (by omega)
  exact ⟨h', e.trans e2, by omega, by omega⟩
