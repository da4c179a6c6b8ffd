/-! scroll -/
noncomputable def rTp (a : vH) (p y : Int) : Int := if mAll a p - 1 ≤ (if toR a p + y ≤ 0 then 0 else toR a p + y) then mAll a p - 1 else (if toR a p + y ≤ 0 then 0 else toR a p + y)
noncomputable def scT (a : vH) (p : Int) : Int := if mAll a p - 1 ≤ (if toR a p + fX13_marginOf a p ≤ cuR a p then (if cuR a p ≤ toR a p + a 2 310 p - 1 - fX13_marginOf a p then cuR a p else toR a p + a 2 310 p - 1 - fX13_marginOf a p) else toR a p + fX13_marginOf a p) then mAll a p - 1 else (if toR a p + fX13_marginOf a p ≤ cuR a p then (if cuR a p ≤ toR a p + a 2 310 p - 1 - fX13_marginOf a p then cuR a p else toR a p + a 2 310 p - 1 - fX13_marginOf a p) else toR a p + fX13_marginOf a p)
noncomputable def tS2 (a : vH) (p : Int) : vH := if scT a p = cuR a p then a else tGo a p (mLn a p (scT a p)) (upR a p (scT a p) (a 2 307 p))
noncomputable def tSc (a : vH) (p y : Int) : vH := tS2 (tTop a p (rTp a p y)) p
section SCO
variable {a b h : vH} {p P y : Int}
theorem rTp_in (g : iG a) (hp : 0 ≤ p ∧ p < 4) : isRw a p (rTp a p y) := by
  have c := isRw_all.mp (to_in g hp)
  refine isRw_all.mpr ?_
  unfold rTp
  split
  · omega
  · split <;> omega
theorem scT_in (g : iG a) (hp : 0 ≤ p ∧ p < 4) (hH : 1 ≤ a 2 310 p ∧ a 2 310 p ≤ 24) : isRw a p (scT a p) := by
  have c := isRw_all.mp (cu_in g hp).2.2.2.1
  have t := isRw_all.mp (to_in g hp)
  have m := mgn_in hH (g.2 p hp.1 hp.2).2.2.2.2.2
  refine isRw_all.mpr ?_
  have k : 0 ≤ (if toR a p + fX13_marginOf a p ≤ cuR a p then (if cuR a p ≤ toR a p + a 2 310 p - 1 - fX13_marginOf a p then cuR a p else toR a p + a 2 310 p - 1 - fX13_marginOf a p) else toR a p + fX13_marginOf a p) := by
    split
    · split <;> omega
    · omega
  unfold scT
  generalize (if toR a p + fX13_marginOf a p ≤ cuR a p then (if cuR a p ≤ toR a p + a 2 310 p - 1 - fX13_marginOf a p then cuR a p else toR a p + a 2 310 p - 1 - fX13_marginOf a p) else toR a p + fX13_marginOf a p) = z at k ⊢
  split <;> omega
theorem iG_S2 (g : iG a) (hp : 0 ≤ p ∧ p < 4) (hH : 1 ≤ a 2 310 p ∧ a 2 310 p ≤ 24) : iG (tS2 a p) := by
  unfold tS2
  split
  · exact g
  · have q := isP_up (x := a 2 307 p) g hp (scT_in g hp hH)
    exact iG_go g q.1 q.2
theorem iG_Sc (g : iG a) (hp : 0 ≤ p ∧ p < 4) (hH : 1 ≤ a 2 310 p ∧ a 2 310 p ≤ 24) : iG (tSc a p y) :=
  iG_S2 (iG_top g hp (rTp_in g hp)) hp (by
    have e : tTop a p (rTp a p y) 2 310 p = a 2 310 p := (vup_r (by decide)).trans (vup_r (by decide))
    rw [e]; exact hH)
theorem rTp_eq (z : mF sA sT a b) : rTp b p y = rTp a p y := by
  unfold rTp
  rw [mAll_eq (eqA_sT z), toR_eq (eqA_sT z).1 (eqT_sT z)]
theorem scT_eq (z : mF sA sT a b) : scT b p = scT a p := by
  unfold scT
  rw [mAll_eq (eqA_sT z), toR_eq (eqA_sT z).1 (eqT_sT z), cuR_eq (eqA_sT z).1 (eqC_sT z), mgn_eq z, z 2 310 p (by simp) (by simp)]
theorem mF_S2 (z : mF sA sT a b) : mF sA sT (tS2 a p) (tS2 b p) := by
  unfold tS2
  rw [scT_eq z, cuR_eq (eqA_sT z).1 (eqC_sT z), mLn_eq (eqA_sT z).1, upR_eq (eqA_sT z).1, z 2 307 p (by simp) (by simp)]
  split
  · exact z
  · exact mF_go z
theorem mF_Sc (z : mF sA sT a b) : mF sA sT (tSc a p y) (tSc b p y) := by
  unfold tSc
  rw [rTp_eq z]
  exact mF_S2 (mF_top z)
theorem toR_S2 : toR (tS2 a p) p = toR a p := by
  unfold tS2
  split
  · rfl
  · exact toR_eq eqA_go.1 ⟨(vup_r (by decide)).trans (vup_r (by decide)), (vup_r (by decide)).trans (vup_r (by decide))⟩
/-- the reference scrolls, from where it was found fine -/
theorem mF_topK {r : Int} (z : mF sA sK a b) : mF sA sK (tTop a p r) (tTop b p r) := by
  have y := (eqA_sc z).1
  unfold tTop
  rw [plR_eq y, mLn_eq y]
  exact mF_vv (mF_vv z)
theorem M_scrollC (g : iG h) (hp : 0 ≤ p ∧ p < 4) (hH : 1 ≤ h 2 310 p ∧ h 2 310 p ≤ 24) (hy : -100 ≤ y ∧ y ≤ 100) {x3 : Int} : ∃ h2, vret vrun mX13_scroll 57 [(1, 282), (0, p), (0, y), (0, x3), (9, 0), (9, 0), (9, 0), (9, 0), (9, 0)] [] (vcl mX13_rowsAhead [(1, 282), (0, p), (0, h 1504 282 0)] h) = some (.inl (some (0, toR (tSc h p y) p)), h2) ∧ mF sA sK (tSc h p y) h2 := by
  have al := mAll_in g.1 hp
  obtain ⟨h1, a1, a2⟩ := M_all g.1 hp
  have g1 := iG_sc a2 g
  obtain ⟨h2, b1, b2⟩ := M_topRow g1 hp
  rw [toR_eq (eqA_sc a2).1 (eqT_sT (sT_of a2))] at b1
  have f2 := mF_tr a2 b2
  have g2 := iG_sc f2 g
  have t0 := isRw_all.mp (to_in g hp)
  have ri := rTp_in (y := y) g hp
  obtain ⟨h3, c1, c2⟩ := M_tops g2.1 hp ((isRw_eq (eqA_sc f2)).mpr ri)
  have f3 : mF sA sK (tTop h p (rTp h p y)) h3 := mF_tr (mF_topK f2) c2
  have gT : iG (tTop h p (rTp h p y)) := iG_top g hp ri
  have eH : tTop h p (rTp h p y) 2 310 p = h 2 310 p := (vup_r (by decide)).trans (vup_r (by decide))
  have st1 := (vret_v a1).trans ((rX13_scroll_60 (x1 := p) (x2 := y) (x3 := x3) (by omega) (by omega) g1.1.1).trans ((vret_v b1).trans (rX13_scroll_71 (x4 := mAll h p - 1) (by omega) (by omega) g2.1.1)))
  have st2 := st1.trans ((vret_n c1).trans (rX13_scroll_85 (iG_sc f3 gT).1.1))
  have eS : tSc h p y = tS2 (tTop h p (rTp h p y)) p := rfl
  rw [eS]
  clear eS
  have hHA : 1 ≤ tTop h p (rTp h p y) 2 310 p ∧ tTop h p (rTp h p y) 2 310 p ≤ 24 := by rw [eH]; exact hH
  have eAll : mAll h p = mAll (tTop h p (rTp h p y)) p := (mAll_eq eqA_top).symm
  rw [eAll] at st2 al
  generalize tTop h p (rTp h p y) = A at *
  obtain ⟨h4, d1, d2⟩ := M_topRow (iG_sc f3 gT) hp
  rw [toR_eq (eqA_sc f3).1 (eqT_sT (sT_of f3))] at d1
  have f4 := mF_tr f3 d2
  have g4 := iG_sc f4 gT
  have eH4 : h4 2 310 p = A 2 310 p := f4 _ _ _ (by simp) (by simp)
  obtain ⟨h5, e1, e2⟩ := M_rowNow g4 hp
  rw [cuR_eq (eqA_sc f4).1 (eqC_sT (sT_of f4))] at e1
  have f5 := mF_tr f4 e2
  have g5 := iG_sc f5 gT
  have eH5 : h5 2 310 p = A 2 310 p := f5 _ _ _ (by simp) (by simp)
  have m := mgn_in hHA (gT.2 p hp.1 hp.2).2.2.2.2.2
  have t1 := isRw_all.mp (to_in gT hp)
  have cu := isRw_all.mp (cu_in gT hp).2.2.2.1
  have st3 := rX13_scroll_90 (x1 := p) (x2 := y) (x3 := x3) (x4 := mAll A p - 1) (y0 := toR A p) g4.1.1 hp.1 hp.2 (by omega) (by omega) (by omega)
  rw [mgn_eq (sT_of f4)] at st3
  have st4 := rX13_scroll_104 (x1 := p) (x2 := y) (x3 := x3) (x4 := mAll A p - 1) (x5 := toR A p) (x6 := fX13_marginOf A p) (y0 := cuR A p) (by omega) (by omega) g5.1.1 (by omega) (by omega) (by omega) (by omega) (by omega) (by omega) (by omega)
  rw [eH5] at st4
  have es : scT A p = if mAll A p - 1 ≤ (if toR A p + fX13_marginOf A p ≤ cuR A p then (if cuR A p ≤ toR A p + A 2 310 p - 1 - fX13_marginOf A p then cuR A p else toR A p + A 2 310 p - 1 - fX13_marginOf A p) else toR A p + fX13_marginOf A p) then mAll A p - 1 else (if toR A p + fX13_marginOf A p ≤ cuR A p then (if cuR A p ≤ toR A p + A 2 310 p - 1 - fX13_marginOf A p then cuR A p else toR A p + A 2 310 p - 1 - fX13_marginOf A p) else toR A p + fX13_marginOf A p) := rfl
  rw [← es] at st4
  have base := st2.trans ((vret_v d1).trans (st3.trans ((vret_v e1).trans st4)))
  have si := scT_in gT hp hHA
  rw [toR_S2]
  unfold tS2
  by_cases z : scT A p = cuR A p
  · rw [if_pos z]
    rw [if_pos z] at base
    obtain ⟨h6, k1, k2⟩ := M_topRow g5 hp
    rw [toR_eq (eqA_sc f5).1 (eqT_sT (sT_of f5))] at k1
    exact ⟨h6, base.trans ((vret_v k1).trans rX13_scroll_206), mF_tr f5 k2⟩
  · rw [if_neg z]
    rw [if_neg z] at base
    have r7 := rw_in gT.1 hp si
    obtain ⟨h6, k1, k2⟩ := M_lineOf g5.1 hp ((isRw_eq (eqA_sc f5)).mpr si) (by omega)
    rw [mLn_eq (eqA_sc f5).1] at k1
    have f6 := mF_tr f5 k2
    have g6 := iG_sc f6 gT
    have st5 := rX13_scroll_185 (x1 := p) (x2 := y) (x3 := x3) (x4 := mAll A p - 1) (x5 := toR A p) (x6 := fX13_marginOf A p) (x7 := cuR A p) (x8 := scT A p) (y0 := (mLn A p (scT A p) : Int)) (y1 := p) g6.1.1 hp.1 hp.2
    rw [f6 2 307 p (by simp) (by simp)] at st5
    obtain ⟨h7, n1, n2⟩ := M_upR g6.1 hp ((isRw_eq (eqA_sc f6)).mpr si) (x := A 2 307 p)
    rw [upR_eq (eqA_sc f6).1] at n1
    have f7 := mF_tr f6 n2
    have g7 := iG_sc f7 gT
    have f8 : mF sA sK (tGo A p (mLn A p (scT A p)) (upR A p (scT A p) (A 2 307 p))) (tGo h7 p (mLn A p (scT A p)) (upR A p (scT A p) (A 2 307 p))) := mF_go f7
    have q := isP_up (x := A 2 307 p) gT hp si
    have g8 := iG_sc f8 (iG_go gT q.1 q.2)
    obtain ⟨h9, o1, o2⟩ := M_topRow g8 hp
    have et : toR (tGo h7 p (mLn A p (scT A p)) (upR A p (scT A p) (A 2 307 p))) p = toR A p := (toR_eq eqA_go.1 ⟨(vup_r (by decide)).trans (vup_r (by decide)), (vup_r (by decide)).trans (vup_r (by decide))⟩).trans (toR_eq (eqA_sc f7).1 (eqT_sT (sT_of f7)))
    rw [et] at o1
    exact ⟨h9, base.trans ((vret_v k1).trans (st5.trans ((vret_v n1).trans ((rX13_scroll_198 g7.1.1).trans ((vret_n (M_goesTo g7.1 hp)).trans ((rX13_scroll_201 g8.1.1).trans ((vret_v o1).trans rX13_scroll_206))))))), mF_tr f8 o2⟩
theorem C_scrollBy (g : iG a) (hp : 0 ≤ p ∧ p < 4) (hP : 138 ≤ P) (c : cRd h a p P) {H : Int} (eH : H = a 2 310 p) (hH : 1 ≤ a 2 310 p ∧ a 2 310 p ≤ 24) (hy : -100 ≤ y ∧ y ≤ 100) : ∃ h2, vcl mX5_scrollBy [(1, P), (0, y), (0, H)] h = some (.inl (some (0, toR (tSc a p y) p)), h2) ∧ qC P h h2 ∧ cRd h2 (tSc a p y) p P := by
  have al := mAll_in g.1 hp
  have n0 := (cRd_n c).1
  have t0 := isRw_all.mp (to_in g hp)
  obtain ⟨h1, a1, a2, c1⟩ := C_topRow g hp hP c
  have ri := rTp_in (y := y) g hp
  have er : max 0 (min (mAll a p - 1) (toR a p + y)) = rTp a p y := by
    unfold rTp
    split <;> split at * <;> omega
  obtain ⟨h2, b1, b2, c2⟩ := C_setTop g hp hP c1 ri
  have gT : iG (tTop a p (rTp a p y)) := iG_top g hp ri
  have s0 := rX5_scrollBy_0 (h := h) (x0 := P) (x1 := y) (x2 := H) c.2.1.1 (by omega) (by omega)
  rw [n0] at s0
  have s1 := rX5_scrollBy_12 (h := h1) (x0 := P) (x1 := y) (x2 := H) (y0 := toR a p) (y1 := mAll a p - 1) (y2 := 0) (y3 := P) (by omega) (by omega) c1.2.1.1
  rw [er] at s1
  have base1 : vcl mX5_scrollBy [(1, P), (0, y), (0, H)] h = _ := s0.trans ((vret_v a1).trans (s1.trans ((vret_n b1).trans (rX5_scrollBy_23 c2.2.1.1))))
  have eS : tSc a p y = tS2 (tTop a p (rTp a p y)) p := rfl
  rw [eS]
  have eHA : H = tTop a p (rTp a p y) 2 310 p := eH.trans ((vup_r (by decide)).trans (vup_r (by decide))).symm
  have hHA : 1 ≤ tTop a p (rTp a p y) 2 310 p ∧ tTop a p (rTp a p y) 2 310 p ≤ 24 := by rw [← eHA, eH]; exact hH
  have fr := qC_tr (qM_C a2) b2
  clear eS s0 s1 er ri n0 t0
  have alA : 0 ≤ mAll (tTop a p (rTp a p y)) p ∧ mAll (tTop a p (rTp a p y)) p ≤ 7860 := mAll_in gT.1 hp
  generalize tTop a p (rTp a p y) = A at *
  obtain ⟨h3, d1, d2, c3⟩ := C_topRow gT hp hP c2
  obtain ⟨h4, e1, e2, c4⟩ := C_cursorRow gT hp hP c3
  have mg : h3 710 P 0 = A 2 288 p := c3.2.1.2.2.2.2.2.2.2
  have em : min (h3 710 P 0) ((H - 1) / 2) = fX13_marginOf A p := by
    unfold fX13_marginOf
    rw [mg, ← eHA]
    split <;> omega
  have m := mgn_in hHA (gT.2 p hp.1 hp.2).2.2.2.2.2
  have t1 := isRw_all.mp (to_in gT hp)
  have cu := isRw_all.mp (cu_in gT hp).2.2.2.1
  have s2 := rX5_scrollBy_27 (h := h3) (x0 := P) (x1 := y) (x2 := H) (y0 := toR A p) c3.2.1.1 (by omega) (by omega) (by omega) (by omega) (by omega) (by omega) (by omega) (by omega)
  rw [em] at s2
  have n4 := (cRd_n c4).1
  have s3 := rX5_scrollBy_49 (h := h4) (x0 := P) (x1 := y) (x2 := H) (x3 := toR A p) (x4 := fX13_marginOf A p) (x5 := toR A p + H - 1 - fX13_marginOf A p) (y0 := cuR A p) c4.2.1.1 (by omega) (by omega) (by omega) (by omega)
  have es : min (h4 713 P 0 - 1) (min (toR A p + H - 1 - fX13_marginOf A p) (max (toR A p + fX13_marginOf A p) (cuR A p))) = scT A p := by
    rw [n4]
    have k : min (toR A p + H - 1 - fX13_marginOf A p) (max (toR A p + fX13_marginOf A p) (cuR A p)) = (if toR A p + fX13_marginOf A p ≤ cuR A p then (if cuR A p ≤ toR A p + A 2 310 p - 1 - fX13_marginOf A p then cuR A p else toR A p + A 2 310 p - 1 - fX13_marginOf A p) else toR A p + fX13_marginOf A p) := by
      split
      · split <;> omega
      · omega
    unfold scT
    rw [k]
    generalize (if toR A p + fX13_marginOf A p ≤ cuR A p then (if cuR A p ≤ toR A p + A 2 310 p - 1 - fX13_marginOf A p then cuR A p else toR A p + A 2 310 p - 1 - fX13_marginOf A p) else toR A p + fX13_marginOf A p) = z
    split <;> omega
  rw [es] at s3
  have base := base1.trans ((vret_v d1).trans (s2.trans ((vret_v e1).trans s3)))
  have f4 := qC_tr fr (qM_C (qM_tr d2 e2))
  have si := scT_in gT hp hHA
  rw [toR_S2]
  unfold tS2
  by_cases z : scT A p = cuR A p
  · rw [if_pos z]
    rw [if_pos z] at base
    exact ⟨h4, base, f4, c4⟩
  · rw [if_neg z]
    rw [if_neg z] at base
    have lr := C_lineOfRow gT.1 hp c4 si
    obtain ⟨h5, u1, u2, c5⟩ := C_placeUp gT hp hP c4 si (x := A 2 307 p)
    have s4 := rX5_scrollBy_93 (h := h4) (x0 := P) (x1 := y) (x2 := H) (x3 := toR A p) (x4 := fX13_marginOf A p) (x5 := toR A p + H - 1 - fX13_marginOf A p) (x6 := cuR A p) (x7 := scT A p) (y0 := (mLn A p (scT A p) : Int)) (y1 := P + 23) c4.2.1.1
    rw [show h4 707 P 0 = A 2 307 p from c4.2.1.2.2.2.2.1] at s4
    have st : vcl mX7_set [(1, P + 23), (0, (mLn A p (scT A p) : Int)), (0, upR A p (scT A p) (A 2 307 p))] h5 = some (.inl none, vup (vup h5 901 (P + 23) 0 (mLn A p (scT A p))) 902 (P + 23) 0 (upR A p (scT A p) (A 2 307 p))) := rX7_set_0 (cRd_cu c5).1
    exact ⟨_, base.trans ((vret_v lr).trans (s4.trans ((vret_v u1).trans ((rX5_scrollBy_103 (cRd_cu c5).1).trans ((vret_n st).trans rX5_scrollBy_106))))), qC_tr f4 (qC_tr (qM_C u2) (qW_C (qW_set (by omega)))), cRd_go hP c5⟩
end SCO
