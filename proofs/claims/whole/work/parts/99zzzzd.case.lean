/-! THE LAW'S LOOP. -/
def lwH (h : vH) (Ln : Int) : Prop := h 0 2 0 = 11 ∧ h 1 2 0 = Ln ∧ h 0 338 0 = 3 ∧ h 1 338 0 = 1 ∧ ∀ j, 0 ≤ j → j < Ln → -2147483648 ≤ h 2 2 j ∧ h 2 2 j < 2147483648
theorem blor_in {a b : Int} : -9223372036854775808 ≤ blor a b ∧ blor a b < 9223372036854775808 := ⟨Int64.le_toInt _, Int64.toInt_lt _⟩
def lwN (n : Int) (h : vH) (i : Int) (Z : Option (vR × vH)) : Prop := ∃ (h2 : vH) (v5 v6 : vv), Z = vrun mL_law 23 [(1, 2), (1, 3), (1, 282), (1, 338), (0, i + 6), v5, v6] [] h2 ∧ JN (n + 1) h2 ∧ kS h h2
theorem kS_rZ {n n2 : Int} {h o h2 : vH} (k : kS h o) (z : rZ o h2) (J : JN n h) (j2 : JN n2 h2) : kS h h2 := ⟨fun q i => (z q 2 i (by decide)).trans (k.1 q i), (z 0 338 0 (by decide)).trans k.2.1, (z 1 338 0 (by decide)).trans k.2.2.1, j2.2.1.1.1.1.1.1.trans J.2.1.1.1.1.1.1.symm, by rw [z 4 0 0 (by decide)]; exact k.2.2.2.2.1, by rw [z 5 0 0 (by decide)]; exact k.2.2.2.2.2⟩
theorem bL_law : vmB mL_law = cL_law := rfl
theorem LC_0 {n i Ln : Int} {h : vH} {v5 v6 : vv} (J : JN n h) (hn : 0 ≤ n ∧ n ≤ 9000) (w : lwH h Ln) (hi : 0 ≤ i ∧ i + 6 ≤ Ln ∧ Ln ≤ 3072) : lwN n h i (vrun mL_law 208 [(1, 2), (1, 3), (1, 282), (1, 338), (0, i), v5, v6] [] h) := by
  obtain ⟨h1, ⟨r0, e0⟩, k0, c0, st⟩ := N_lines J
  have ks := kS_of k0 c0
  obtain ⟨e1, h2, r, y1, y2, y3, y4, y5⟩ := st h1 (fun _ _ _ _ => rfl)
  have q3 := y3 rfl
  have e1 : vcl mX12_lines [(1, 3)] h = some (.inl (some (0, h1 1504 282 0)), h1) := e1
  have y1 : vcl mX13_lines [(1, 282)] h1 = some (.inl (some (0, r)), h2) := y1
  have s : h 0 3 0 = 33 := J.1.1.1
  have s2 : h1 0 282 0 = 34 := ks.2.2.2.1.trans J.2.1.1.1.1.1.1
  refine ⟨h2, v5, v6, ?_, y4, kS_rZ ks y5 J y4⟩
  refine (rn_aload_n (pc := 208) (dd bL_law dL_law_208) rfl).trans ?_
  refine (rg_virtual (pc := 209) (dd bL_law dL_law_209) rfl rfl (by decide) (kc := 33) rfl s (as := [(1, 3)]) rfl ⟨Nat.le_of_ble_eq_true rfl, Nat.le_of_ble_eq_true rfl, Nat.le_of_ble_eq_true rfl, Nat.le_of_ble_eq_true rfl⟩).trans ?_
  refine (vret_v e1).trans ?_
  refine (rn_aload_n (pc := 212) (dd bL_law dL_law_212) rfl).trans ?_
  refine (rg_virtual (pc := 213) (dd bL_law dL_law_213) rfl rfl (by decide) (kc := 34) rfl s2 (as := [(1, 282)]) rfl ⟨Nat.le_of_ble_eq_true rfl, Nat.le_of_ble_eq_true rfl, Nat.le_of_ble_eq_true rfl, Nat.le_of_ble_eq_true rfl⟩).trans ?_
  refine (vret_v y1).trans ?_
  refine (rn_icmp_eq (t := 2982) (pc := 216) (dd bL_law dL_law_216) rfl).trans ((if_pos q3.symm).trans ?_)
  refine (rg_iinc (pc := 2982) (dd bL_law dL_law_2982) (x := i) rfl (Nat.le_of_ble_eq_true rfl) (by omega) (by omega) rfl).trans ?_
  exact rn_goto (t := 23) (pc := 2985) (dd bL_law dL_law_2985) rfl
theorem LC_1 {n i Ln : Int} {h : vH} {v5 v6 : vv} (J : JN n h) (hn : 0 ≤ n ∧ n ≤ 9000) (w : lwH h Ln) (hi : 0 ≤ i ∧ i + 6 ≤ Ln ∧ Ln ≤ 3072) : lwN n h i (vrun mL_law 221 [(1, 2), (1, 3), (1, 282), (1, 338), (0, i), v5, v6] [] h) := by
  obtain ⟨o, h2, k, r, z, y, t, f, j2, ks, rz⟩ := Wr_length (x1 := h 2 2 (i + 1)) J w.2.2.1 w.2.2.2.1
  have s2 : o 0 282 0 = 34 := ks.2.2.2.1.trans J.2.1.1.1.1.1.1
  have s3 : shModel h2 := j2.2.1.1.1.1.1
  have kk := kS_rZ ks rz J j2
  refine ⟨h2, (0, k), (0, r), ?_, j2, kk⟩
  refine (rn_aload_n (pc := 221) (dd bL_law dL_law_221) rfl).trans ?_
  refine (rn_aload_n (pc := 222) (dd bL_law dL_law_222) rfl).trans ?_
  refine (rn_iload (pc := 223) (dd bL_law dL_law_223) rfl).trans ?_
  refine (rn_iconst (pc := 225) (dd bL_law dL_law_225) (by decide)).trans ?_
  refine (rg_iadd (pc := 226) (dd bL_law dL_law_226) (by omega) (by omega)).trans ?_
  refine (rl_iaload (n := Ln) (pc := 227) (dd bL_law dL_law_227) w.1 w.2.1 (by omega) (by omega) (v := h 2 2 (i + 1)) rfl).trans ?_
  refine (rn_aload_n (pc := 228) (dd bL_law dL_law_228) rfl).trans ?_
  refine (rg_static (pc := 229) (dd bL_law dL_law_229) rfl (by decide) (Nat.le_of_ble_eq_true rfl) (as := [(1, 3), (0, h 2 2 (i + 1)), (1, 338)]) rfl rfl ⟨Nat.le_of_ble_eq_true rfl, Nat.le_of_ble_eq_true rfl, Nat.le_of_ble_eq_true rfl, Nat.le_of_ble_eq_true rfl⟩).trans ?_
  refine (vret_v z).trans ?_
  refine (rn_istore (pc := 232) (dd bL_law dL_law_232) (Nat.le_of_ble_eq_true rfl) rfl).trans ?_
  refine (rn_aload_n (pc := 234) (dd bL_law dL_law_234) rfl).trans ?_
  refine (rn_aload_n (pc := 235) (dd bL_law dL_law_235) rfl).trans ?_
  refine (rn_iload (pc := 236) (dd bL_law dL_law_236) rfl).trans ?_
  refine (rn_iconst (pc := 238) (dd bL_law dL_law_238) (by decide)).trans ?_
  refine (rg_iadd (pc := 239) (dd bL_law dL_law_239) (by omega) (by omega)).trans ?_
  refine (rl_iaload (n := Ln) (pc := 240) (dd bL_law dL_law_240) ((ks.1 0 0).trans w.1) ((ks.1 1 0).trans w.2.1) (by omega) (by omega) (v := h 2 2 (i + 1)) (ks.1 2 _)).trans ?_
  refine (rg_virtual (pc := 241) (dd bL_law dL_law_241) rfl rfl (by decide) (kc := 34) rfl s2 (as := [(1, 282), (0, h 2 2 (i + 1))]) rfl ⟨Nat.le_of_ble_eq_true rfl, Nat.le_of_ble_eq_true rfl, Nat.le_of_ble_eq_true rfl, Nat.le_of_ble_eq_true rfl⟩).trans ?_
  refine (vret_v y).trans ?_
  refine (rn_istore (pc := 244) (dd bL_law dL_law_244) (Nat.le_of_ble_eq_true rfl) rfl).trans ?_
  refine (rn_aload_n (pc := 246) (dd bL_law dL_law_246) rfl).trans ?_
  refine (rg_virtual (pc := 247) (dd bL_law dL_law_247) rfl rfl (by decide) (kc := 34) rfl s3.1 (as := [(1, 282)]) rfl ⟨Nat.le_of_ble_eq_true rfl, Nat.le_of_ble_eq_true rfl, Nat.le_of_ble_eq_true rfl, Nat.le_of_ble_eq_true rfl⟩).trans ?_
  refine (vret_v ((spX13_thrown s3).trans (by rw [t]))).trans ?_
  refine (rn_iload (pc := 250) (dd bL_law dL_law_250) rfl).trans ?_
  refine (rn_icmp_eq (t := 257) (pc := 252) (dd bL_law dL_law_252) rfl).trans ((if_pos rfl).trans ?_)
  refine (rn_iload (pc := 257) (dd bL_law dL_law_257) rfl).trans ?_
  refine (rg_if_ne (t := 274) (pc := 259) (dd bL_law dL_law_259) rfl).trans ?_
  by_cases kz : k = 0
  · rw [if_pos kz]
    have f := f kz
    refine (rn_aload_n (pc := 262) (dd bL_law dL_law_262) rfl).trans ?_
    refine (rn_iconst (pc := 263) (dd bL_law dL_law_263) (by decide)).trans ?_
    refine (rg_laload (n := 1) (pc := 264) (dd bL_law dL_law_264) (kk.2.1.trans w.2.2.1) (kk.2.2.1.trans w.2.2.2.1) (by decide) (by decide) ((rz 2 338 0 (by decide)).trans f)).trans ?_
    refine (rn_iload (pc := 265) (dd bL_law dL_law_265) rfl).trans ?_
    refine (rn_i2l (pc := 267) (dd bL_law dL_law_267)).trans ?_
    refine (rl_lcmp (pc := 268) (dd bL_law dL_law_268) rfl).trans ?_
    refine (rn_if_eq (t := 274) (pc := 269) (dd bL_law dL_law_269) rfl).trans ((if_pos rfl).trans ?_)
    refine (rn_goto (t := 2982) (pc := 274) (dd bL_law dL_law_274) rfl).trans ?_
    refine (rg_iinc (pc := 2982) (dd bL_law dL_law_2982) (x := i) rfl (Nat.le_of_ble_eq_true rfl) (by omega) (by omega) rfl).trans ?_
    exact rn_goto (t := 23) (pc := 2985) (dd bL_law dL_law_2985) rfl
  · rw [if_neg kz]
    refine (rn_goto (t := 2982) (pc := 274) (dd bL_law dL_law_274) rfl).trans ?_
    refine (rg_iinc (pc := 2982) (dd bL_law dL_law_2982) (x := i) rfl (Nat.le_of_ble_eq_true rfl) (by omega) (by omega) rfl).trans ?_
    exact rn_goto (t := 23) (pc := 2985) (dd bL_law dL_law_2985) rfl
theorem LC_2 {n i Ln : Int} {h : vH} {v5 v6 : vv} (J : JN n h) (hn : 0 ≤ n ∧ n ≤ 9000) (w : lwH h Ln) (hi : 0 ≤ i ∧ i + 6 ≤ Ln ∧ Ln ≤ 3072) : lwN n h i (vrun mL_law 277 [(1, 2), (1, 3), (1, 282), (1, 338), (0, i), v5, v6] [] h) := by
  obtain ⟨o, h2, k, r, z, y, t, f, j2, ks, rz⟩ := Wr_sign (x1 := h 2 2 (i + 1)) (x2 := h 2 2 (i + 2)) J w.2.2.1 w.2.2.2.1
  have s2 : o 0 282 0 = 34 := ks.2.2.2.1.trans J.2.1.1.1.1.1.1
  have s3 : shModel h2 := j2.2.1.1.1.1.1
  have kk := kS_rZ ks rz J j2
  refine ⟨h2, (0, k), (0, r), ?_, j2, kk⟩
  refine (rn_aload_n (pc := 277) (dd bL_law dL_law_277) rfl).trans ?_
  refine (rn_aload_n (pc := 278) (dd bL_law dL_law_278) rfl).trans ?_
  refine (rn_iload (pc := 279) (dd bL_law dL_law_279) rfl).trans ?_
  refine (rn_iconst (pc := 281) (dd bL_law dL_law_281) (by decide)).trans ?_
  refine (rg_iadd (pc := 282) (dd bL_law dL_law_282) (by omega) (by omega)).trans ?_
  refine (rl_iaload (n := Ln) (pc := 283) (dd bL_law dL_law_283) w.1 w.2.1 (by omega) (by omega) (v := h 2 2 (i + 1)) rfl).trans ?_
  refine (rn_aload_n (pc := 284) (dd bL_law dL_law_284) rfl).trans ?_
  refine (rn_iload (pc := 285) (dd bL_law dL_law_285) rfl).trans ?_
  refine (rn_iconst (pc := 287) (dd bL_law dL_law_287) (by decide)).trans ?_
  refine (rg_iadd (pc := 288) (dd bL_law dL_law_288) (by omega) (by omega)).trans ?_
  refine (rl_iaload (n := Ln) (pc := 289) (dd bL_law dL_law_289) w.1 w.2.1 (by omega) (by omega) (v := h 2 2 (i + 2)) rfl).trans ?_
  refine (rn_aload_n (pc := 290) (dd bL_law dL_law_290) rfl).trans ?_
  refine (rg_static (pc := 291) (dd bL_law dL_law_291) rfl (by decide) (Nat.le_of_ble_eq_true rfl) (as := [(1, 3), (0, h 2 2 (i + 1)), (0, h 2 2 (i + 2)), (1, 338)]) rfl rfl ⟨Nat.le_of_ble_eq_true rfl, Nat.le_of_ble_eq_true rfl, Nat.le_of_ble_eq_true rfl, Nat.le_of_ble_eq_true rfl⟩).trans ?_
  refine (vret_v z).trans ?_
  refine (rn_istore (pc := 294) (dd bL_law dL_law_294) (Nat.le_of_ble_eq_true rfl) rfl).trans ?_
  refine (rn_aload_n (pc := 296) (dd bL_law dL_law_296) rfl).trans ?_
  refine (rn_aload_n (pc := 297) (dd bL_law dL_law_297) rfl).trans ?_
  refine (rn_iload (pc := 298) (dd bL_law dL_law_298) rfl).trans ?_
  refine (rn_iconst (pc := 300) (dd bL_law dL_law_300) (by decide)).trans ?_
  refine (rg_iadd (pc := 301) (dd bL_law dL_law_301) (by omega) (by omega)).trans ?_
  refine (rl_iaload (n := Ln) (pc := 302) (dd bL_law dL_law_302) ((ks.1 0 0).trans w.1) ((ks.1 1 0).trans w.2.1) (by omega) (by omega) (v := h 2 2 (i + 1)) (ks.1 2 _)).trans ?_
  refine (rn_aload_n (pc := 303) (dd bL_law dL_law_303) rfl).trans ?_
  refine (rn_iload (pc := 304) (dd bL_law dL_law_304) rfl).trans ?_
  refine (rn_iconst (pc := 306) (dd bL_law dL_law_306) (by decide)).trans ?_
  refine (rg_iadd (pc := 307) (dd bL_law dL_law_307) (by omega) (by omega)).trans ?_
  refine (rl_iaload (n := Ln) (pc := 308) (dd bL_law dL_law_308) ((ks.1 0 0).trans w.1) ((ks.1 1 0).trans w.2.1) (by omega) (by omega) (v := h 2 2 (i + 2)) (ks.1 2 _)).trans ?_
  refine (rg_virtual (pc := 309) (dd bL_law dL_law_309) rfl rfl (by decide) (kc := 34) rfl s2 (as := [(1, 282), (0, h 2 2 (i + 1)), (0, h 2 2 (i + 2))]) rfl ⟨Nat.le_of_ble_eq_true rfl, Nat.le_of_ble_eq_true rfl, Nat.le_of_ble_eq_true rfl, Nat.le_of_ble_eq_true rfl⟩).trans ?_
  refine (vret_v y).trans ?_
  refine (rn_istore (pc := 312) (dd bL_law dL_law_312) (Nat.le_of_ble_eq_true rfl) rfl).trans ?_
  refine (rn_aload_n (pc := 314) (dd bL_law dL_law_314) rfl).trans ?_
  refine (rg_virtual (pc := 315) (dd bL_law dL_law_315) rfl rfl (by decide) (kc := 34) rfl s3.1 (as := [(1, 282)]) rfl ⟨Nat.le_of_ble_eq_true rfl, Nat.le_of_ble_eq_true rfl, Nat.le_of_ble_eq_true rfl, Nat.le_of_ble_eq_true rfl⟩).trans ?_
  refine (vret_v ((spX13_thrown s3).trans (by rw [t]))).trans ?_
  refine (rn_iload (pc := 318) (dd bL_law dL_law_318) rfl).trans ?_
  refine (rn_icmp_eq (t := 325) (pc := 320) (dd bL_law dL_law_320) rfl).trans ((if_pos rfl).trans ?_)
  refine (rn_iload (pc := 325) (dd bL_law dL_law_325) rfl).trans ?_
  refine (rg_if_ne (t := 342) (pc := 327) (dd bL_law dL_law_327) rfl).trans ?_
  by_cases kz : k = 0
  · rw [if_pos kz]
    have f := f kz
    refine (rn_aload_n (pc := 330) (dd bL_law dL_law_330) rfl).trans ?_
    refine (rn_iconst (pc := 331) (dd bL_law dL_law_331) (by decide)).trans ?_
    refine (rg_laload (n := 1) (pc := 332) (dd bL_law dL_law_332) (kk.2.1.trans w.2.2.1) (kk.2.2.1.trans w.2.2.2.1) (by decide) (by decide) ((rz 2 338 0 (by decide)).trans f)).trans ?_
    refine (rn_iload (pc := 333) (dd bL_law dL_law_333) rfl).trans ?_
    refine (rn_i2l (pc := 335) (dd bL_law dL_law_335)).trans ?_
    refine (rl_lcmp (pc := 336) (dd bL_law dL_law_336) rfl).trans ?_
    refine (rn_if_eq (t := 342) (pc := 337) (dd bL_law dL_law_337) rfl).trans ((if_pos rfl).trans ?_)
    refine (rn_goto (t := 2982) (pc := 342) (dd bL_law dL_law_342) rfl).trans ?_
    refine (rg_iinc (pc := 2982) (dd bL_law dL_law_2982) (x := i) rfl (Nat.le_of_ble_eq_true rfl) (by omega) (by omega) rfl).trans ?_
    exact rn_goto (t := 23) (pc := 2985) (dd bL_law dL_law_2985) rfl
  · rw [if_neg kz]
    refine (rn_goto (t := 2982) (pc := 342) (dd bL_law dL_law_342) rfl).trans ?_
    refine (rg_iinc (pc := 2982) (dd bL_law dL_law_2982) (x := i) rfl (Nat.le_of_ble_eq_true rfl) (by omega) (by omega) rfl).trans ?_
    exact rn_goto (t := 23) (pc := 2985) (dd bL_law dL_law_2985) rfl
theorem LC_3 {n i Ln : Int} {h : vH} {v5 v6 : vv} (J : JN n h) (hn : 0 ≤ n ∧ n ≤ 9000) (w : lwH h Ln) (hi : 0 ≤ i ∧ i + 6 ≤ Ln ∧ Ln ≤ 3072) : lwN n h i (vrun mL_law 345 [(1, 2), (1, 3), (1, 282), (1, 338), (0, i), v5, v6] [] h) := by
  obtain ⟨o, h2, k, r, z, y, t, f, j2, ks, rz⟩ := Wr_insert (x1 := h 2 2 (i + 1)) (x2 := h 2 2 (i + 2)) (x3 := h 2 2 (i + 3)) J hn w.2.2.1 w.2.2.2.1
  have s2 : o 0 282 0 = 34 := ks.2.2.2.1.trans J.2.1.1.1.1.1.1
  have s3 : shModel h2 := j2.2.1.1.1.1.1
  have kk := kS_rZ ks rz J j2
  refine ⟨h2, (0, k), (0, r), ?_, j2, kk⟩
  refine (rn_aload_n (pc := 345) (dd bL_law dL_law_345) rfl).trans ?_
  refine (rn_aload_n (pc := 346) (dd bL_law dL_law_346) rfl).trans ?_
  refine (rn_iload (pc := 347) (dd bL_law dL_law_347) rfl).trans ?_
  refine (rn_iconst (pc := 349) (dd bL_law dL_law_349) (by decide)).trans ?_
  refine (rg_iadd (pc := 350) (dd bL_law dL_law_350) (by omega) (by omega)).trans ?_
  refine (rl_iaload (n := Ln) (pc := 351) (dd bL_law dL_law_351) w.1 w.2.1 (by omega) (by omega) (v := h 2 2 (i + 1)) rfl).trans ?_
  refine (rn_aload_n (pc := 352) (dd bL_law dL_law_352) rfl).trans ?_
  refine (rn_iload (pc := 353) (dd bL_law dL_law_353) rfl).trans ?_
  refine (rn_iconst (pc := 355) (dd bL_law dL_law_355) (by decide)).trans ?_
  refine (rg_iadd (pc := 356) (dd bL_law dL_law_356) (by omega) (by omega)).trans ?_
  refine (rl_iaload (n := Ln) (pc := 357) (dd bL_law dL_law_357) w.1 w.2.1 (by omega) (by omega) (v := h 2 2 (i + 2)) rfl).trans ?_
  refine (rn_aload_n (pc := 358) (dd bL_law dL_law_358) rfl).trans ?_
  refine (rn_iload (pc := 359) (dd bL_law dL_law_359) rfl).trans ?_
  refine (rn_iconst (pc := 361) (dd bL_law dL_law_361) (by decide)).trans ?_
  refine (rg_iadd (pc := 362) (dd bL_law dL_law_362) (by omega) (by omega)).trans ?_
  refine (rl_iaload (n := Ln) (pc := 363) (dd bL_law dL_law_363) w.1 w.2.1 (by omega) (by omega) (v := h 2 2 (i + 3)) rfl).trans ?_
  refine (rn_aload_n (pc := 364) (dd bL_law dL_law_364) rfl).trans ?_
  refine (rg_static (pc := 365) (dd bL_law dL_law_365) rfl (by decide) (Nat.le_of_ble_eq_true rfl) (as := [(1, 3), (0, h 2 2 (i + 1)), (0, h 2 2 (i + 2)), (0, h 2 2 (i + 3)), (1, 338)]) rfl rfl ⟨Nat.le_of_ble_eq_true rfl, Nat.le_of_ble_eq_true rfl, Nat.le_of_ble_eq_true rfl, Nat.le_of_ble_eq_true rfl⟩).trans ?_
  refine (vret_v z).trans ?_
  refine (rn_istore (pc := 368) (dd bL_law dL_law_368) (Nat.le_of_ble_eq_true rfl) rfl).trans ?_
  refine (rn_aload_n (pc := 370) (dd bL_law dL_law_370) rfl).trans ?_
  refine (rn_aload_n (pc := 371) (dd bL_law dL_law_371) rfl).trans ?_
  refine (rn_iload (pc := 372) (dd bL_law dL_law_372) rfl).trans ?_
  refine (rn_iconst (pc := 374) (dd bL_law dL_law_374) (by decide)).trans ?_
  refine (rg_iadd (pc := 375) (dd bL_law dL_law_375) (by omega) (by omega)).trans ?_
  refine (rl_iaload (n := Ln) (pc := 376) (dd bL_law dL_law_376) ((ks.1 0 0).trans w.1) ((ks.1 1 0).trans w.2.1) (by omega) (by omega) (v := h 2 2 (i + 1)) (ks.1 2 _)).trans ?_
  refine (rn_aload_n (pc := 377) (dd bL_law dL_law_377) rfl).trans ?_
  refine (rn_iload (pc := 378) (dd bL_law dL_law_378) rfl).trans ?_
  refine (rn_iconst (pc := 380) (dd bL_law dL_law_380) (by decide)).trans ?_
  refine (rg_iadd (pc := 381) (dd bL_law dL_law_381) (by omega) (by omega)).trans ?_
  refine (rl_iaload (n := Ln) (pc := 382) (dd bL_law dL_law_382) ((ks.1 0 0).trans w.1) ((ks.1 1 0).trans w.2.1) (by omega) (by omega) (v := h 2 2 (i + 2)) (ks.1 2 _)).trans ?_
  refine (rn_aload_n (pc := 383) (dd bL_law dL_law_383) rfl).trans ?_
  refine (rn_iload (pc := 384) (dd bL_law dL_law_384) rfl).trans ?_
  refine (rn_iconst (pc := 386) (dd bL_law dL_law_386) (by decide)).trans ?_
  refine (rg_iadd (pc := 387) (dd bL_law dL_law_387) (by omega) (by omega)).trans ?_
  refine (rl_iaload (n := Ln) (pc := 388) (dd bL_law dL_law_388) ((ks.1 0 0).trans w.1) ((ks.1 1 0).trans w.2.1) (by omega) (by omega) (v := h 2 2 (i + 3)) (ks.1 2 _)).trans ?_
  refine (rg_virtual (pc := 389) (dd bL_law dL_law_389) rfl rfl (by decide) (kc := 34) rfl s2 (as := [(1, 282), (0, h 2 2 (i + 1)), (0, h 2 2 (i + 2)), (0, h 2 2 (i + 3))]) rfl ⟨Nat.le_of_ble_eq_true rfl, Nat.le_of_ble_eq_true rfl, Nat.le_of_ble_eq_true rfl, Nat.le_of_ble_eq_true rfl⟩).trans ?_
  refine (vret_v y).trans ?_
  refine (rn_istore (pc := 392) (dd bL_law dL_law_392) (Nat.le_of_ble_eq_true rfl) rfl).trans ?_
  refine (rn_aload_n (pc := 394) (dd bL_law dL_law_394) rfl).trans ?_
  refine (rg_virtual (pc := 395) (dd bL_law dL_law_395) rfl rfl (by decide) (kc := 34) rfl s3.1 (as := [(1, 282)]) rfl ⟨Nat.le_of_ble_eq_true rfl, Nat.le_of_ble_eq_true rfl, Nat.le_of_ble_eq_true rfl, Nat.le_of_ble_eq_true rfl⟩).trans ?_
  refine (vret_v ((spX13_thrown s3).trans (by rw [t]))).trans ?_
  refine (rn_iload (pc := 398) (dd bL_law dL_law_398) rfl).trans ?_
  refine (rn_icmp_eq (t := 405) (pc := 400) (dd bL_law dL_law_400) rfl).trans ((if_pos rfl).trans ?_)
  refine (rn_iload (pc := 405) (dd bL_law dL_law_405) rfl).trans ?_
  refine (rg_if_ne (t := 422) (pc := 407) (dd bL_law dL_law_407) rfl).trans ?_
  by_cases kz : k = 0
  · rw [if_pos kz]
    have f := f kz
    refine (rn_aload_n (pc := 410) (dd bL_law dL_law_410) rfl).trans ?_
    refine (rn_iconst (pc := 411) (dd bL_law dL_law_411) (by decide)).trans ?_
    refine (rg_laload (n := 1) (pc := 412) (dd bL_law dL_law_412) (kk.2.1.trans w.2.2.1) (kk.2.2.1.trans w.2.2.2.1) (by decide) (by decide) ((rz 2 338 0 (by decide)).trans f)).trans ?_
    refine (rn_iload (pc := 413) (dd bL_law dL_law_413) rfl).trans ?_
    refine (rn_i2l (pc := 415) (dd bL_law dL_law_415)).trans ?_
    refine (rl_lcmp (pc := 416) (dd bL_law dL_law_416) rfl).trans ?_
    refine (rn_if_eq (t := 422) (pc := 417) (dd bL_law dL_law_417) rfl).trans ((if_pos rfl).trans ?_)
    refine (rn_goto (t := 2982) (pc := 422) (dd bL_law dL_law_422) rfl).trans ?_
    refine (rg_iinc (pc := 2982) (dd bL_law dL_law_2982) (x := i) rfl (Nat.le_of_ble_eq_true rfl) (by omega) (by omega) rfl).trans ?_
    exact rn_goto (t := 23) (pc := 2985) (dd bL_law dL_law_2985) rfl
  · rw [if_neg kz]
    refine (rn_goto (t := 2982) (pc := 422) (dd bL_law dL_law_422) rfl).trans ?_
    refine (rg_iinc (pc := 2982) (dd bL_law dL_law_2982) (x := i) rfl (Nat.le_of_ble_eq_true rfl) (by omega) (by omega) rfl).trans ?_
    exact rn_goto (t := 23) (pc := 2985) (dd bL_law dL_law_2985) rfl
theorem LC_4 {n i Ln : Int} {h : vH} {v5 v6 : vv} (J : JN n h) (hn : 0 ≤ n ∧ n ≤ 9000) (w : lwH h Ln) (hi : 0 ≤ i ∧ i + 6 ≤ Ln ∧ Ln ≤ 3072) : lwN n h i (vrun mL_law 425 [(1, 2), (1, 3), (1, 282), (1, 338), (0, i), v5, v6] [] h) := by
  obtain ⟨o, h2, k, r, z, y, t, f, j2, ks, rz⟩ := Wr_remove (x1 := h 2 2 (i + 1)) (x2 := h 2 2 (i + 2)) (x3 := h 2 2 (i + 3)) J hn w.2.2.1 w.2.2.2.1
  have s2 : o 0 282 0 = 34 := ks.2.2.2.1.trans J.2.1.1.1.1.1.1
  have s3 : shModel h2 := j2.2.1.1.1.1.1
  have kk := kS_rZ ks rz J j2
  refine ⟨h2, (0, k), (0, r), ?_, j2, kk⟩
  refine (rn_aload_n (pc := 425) (dd bL_law dL_law_425) rfl).trans ?_
  refine (rn_aload_n (pc := 426) (dd bL_law dL_law_426) rfl).trans ?_
  refine (rn_iload (pc := 427) (dd bL_law dL_law_427) rfl).trans ?_
  refine (rn_iconst (pc := 429) (dd bL_law dL_law_429) (by decide)).trans ?_
  refine (rg_iadd (pc := 430) (dd bL_law dL_law_430) (by omega) (by omega)).trans ?_
  refine (rl_iaload (n := Ln) (pc := 431) (dd bL_law dL_law_431) w.1 w.2.1 (by omega) (by omega) (v := h 2 2 (i + 1)) rfl).trans ?_
  refine (rn_aload_n (pc := 432) (dd bL_law dL_law_432) rfl).trans ?_
  refine (rn_iload (pc := 433) (dd bL_law dL_law_433) rfl).trans ?_
  refine (rn_iconst (pc := 435) (dd bL_law dL_law_435) (by decide)).trans ?_
  refine (rg_iadd (pc := 436) (dd bL_law dL_law_436) (by omega) (by omega)).trans ?_
  refine (rl_iaload (n := Ln) (pc := 437) (dd bL_law dL_law_437) w.1 w.2.1 (by omega) (by omega) (v := h 2 2 (i + 2)) rfl).trans ?_
  refine (rn_aload_n (pc := 438) (dd bL_law dL_law_438) rfl).trans ?_
  refine (rn_iload (pc := 439) (dd bL_law dL_law_439) rfl).trans ?_
  refine (rn_iconst (pc := 441) (dd bL_law dL_law_441) (by decide)).trans ?_
  refine (rg_iadd (pc := 442) (dd bL_law dL_law_442) (by omega) (by omega)).trans ?_
  refine (rl_iaload (n := Ln) (pc := 443) (dd bL_law dL_law_443) w.1 w.2.1 (by omega) (by omega) (v := h 2 2 (i + 3)) rfl).trans ?_
  refine (rn_aload_n (pc := 444) (dd bL_law dL_law_444) rfl).trans ?_
  refine (rg_static (pc := 445) (dd bL_law dL_law_445) rfl (by decide) (Nat.le_of_ble_eq_true rfl) (as := [(1, 3), (0, h 2 2 (i + 1)), (0, h 2 2 (i + 2)), (0, h 2 2 (i + 3)), (1, 338)]) rfl rfl ⟨Nat.le_of_ble_eq_true rfl, Nat.le_of_ble_eq_true rfl, Nat.le_of_ble_eq_true rfl, Nat.le_of_ble_eq_true rfl⟩).trans ?_
  refine (vret_v z).trans ?_
  refine (rn_istore (pc := 448) (dd bL_law dL_law_448) (Nat.le_of_ble_eq_true rfl) rfl).trans ?_
  refine (rn_aload_n (pc := 450) (dd bL_law dL_law_450) rfl).trans ?_
  refine (rn_aload_n (pc := 451) (dd bL_law dL_law_451) rfl).trans ?_
  refine (rn_iload (pc := 452) (dd bL_law dL_law_452) rfl).trans ?_
  refine (rn_iconst (pc := 454) (dd bL_law dL_law_454) (by decide)).trans ?_
  refine (rg_iadd (pc := 455) (dd bL_law dL_law_455) (by omega) (by omega)).trans ?_
  refine (rl_iaload (n := Ln) (pc := 456) (dd bL_law dL_law_456) ((ks.1 0 0).trans w.1) ((ks.1 1 0).trans w.2.1) (by omega) (by omega) (v := h 2 2 (i + 1)) (ks.1 2 _)).trans ?_
  refine (rn_aload_n (pc := 457) (dd bL_law dL_law_457) rfl).trans ?_
  refine (rn_iload (pc := 458) (dd bL_law dL_law_458) rfl).trans ?_
  refine (rn_iconst (pc := 460) (dd bL_law dL_law_460) (by decide)).trans ?_
  refine (rg_iadd (pc := 461) (dd bL_law dL_law_461) (by omega) (by omega)).trans ?_
  refine (rl_iaload (n := Ln) (pc := 462) (dd bL_law dL_law_462) ((ks.1 0 0).trans w.1) ((ks.1 1 0).trans w.2.1) (by omega) (by omega) (v := h 2 2 (i + 2)) (ks.1 2 _)).trans ?_
  refine (rn_aload_n (pc := 463) (dd bL_law dL_law_463) rfl).trans ?_
  refine (rn_iload (pc := 464) (dd bL_law dL_law_464) rfl).trans ?_
  refine (rn_iconst (pc := 466) (dd bL_law dL_law_466) (by decide)).trans ?_
  refine (rg_iadd (pc := 467) (dd bL_law dL_law_467) (by omega) (by omega)).trans ?_
  refine (rl_iaload (n := Ln) (pc := 468) (dd bL_law dL_law_468) ((ks.1 0 0).trans w.1) ((ks.1 1 0).trans w.2.1) (by omega) (by omega) (v := h 2 2 (i + 3)) (ks.1 2 _)).trans ?_
  refine (rg_virtual (pc := 469) (dd bL_law dL_law_469) rfl rfl (by decide) (kc := 34) rfl s2 (as := [(1, 282), (0, h 2 2 (i + 1)), (0, h 2 2 (i + 2)), (0, h 2 2 (i + 3))]) rfl ⟨Nat.le_of_ble_eq_true rfl, Nat.le_of_ble_eq_true rfl, Nat.le_of_ble_eq_true rfl, Nat.le_of_ble_eq_true rfl⟩).trans ?_
  refine (vret_v y).trans ?_
  refine (rn_istore (pc := 472) (dd bL_law dL_law_472) (Nat.le_of_ble_eq_true rfl) rfl).trans ?_
  refine (rn_aload_n (pc := 474) (dd bL_law dL_law_474) rfl).trans ?_
  refine (rg_virtual (pc := 475) (dd bL_law dL_law_475) rfl rfl (by decide) (kc := 34) rfl s3.1 (as := [(1, 282)]) rfl ⟨Nat.le_of_ble_eq_true rfl, Nat.le_of_ble_eq_true rfl, Nat.le_of_ble_eq_true rfl, Nat.le_of_ble_eq_true rfl⟩).trans ?_
  refine (vret_v ((spX13_thrown s3).trans (by rw [t]))).trans ?_
  refine (rn_iload (pc := 478) (dd bL_law dL_law_478) rfl).trans ?_
  refine (rn_icmp_eq (t := 485) (pc := 480) (dd bL_law dL_law_480) rfl).trans ((if_pos rfl).trans ?_)
  refine (rn_iload (pc := 485) (dd bL_law dL_law_485) rfl).trans ?_
  refine (rg_if_ne (t := 502) (pc := 487) (dd bL_law dL_law_487) rfl).trans ?_
  by_cases kz : k = 0
  · rw [if_pos kz]
    have f := f kz
    refine (rn_aload_n (pc := 490) (dd bL_law dL_law_490) rfl).trans ?_
    refine (rn_iconst (pc := 491) (dd bL_law dL_law_491) (by decide)).trans ?_
    refine (rg_laload (n := 1) (pc := 492) (dd bL_law dL_law_492) (kk.2.1.trans w.2.2.1) (kk.2.2.1.trans w.2.2.2.1) (by decide) (by decide) ((rz 2 338 0 (by decide)).trans f)).trans ?_
    refine (rn_iload (pc := 493) (dd bL_law dL_law_493) rfl).trans ?_
    refine (rn_i2l (pc := 495) (dd bL_law dL_law_495)).trans ?_
    refine (rl_lcmp (pc := 496) (dd bL_law dL_law_496) rfl).trans ?_
    refine (rn_if_eq (t := 502) (pc := 497) (dd bL_law dL_law_497) rfl).trans ((if_pos rfl).trans ?_)
    refine (rn_goto (t := 2982) (pc := 502) (dd bL_law dL_law_502) rfl).trans ?_
    refine (rg_iinc (pc := 2982) (dd bL_law dL_law_2982) (x := i) rfl (Nat.le_of_ble_eq_true rfl) (by omega) (by omega) rfl).trans ?_
    exact rn_goto (t := 23) (pc := 2985) (dd bL_law dL_law_2985) rfl
  · rw [if_neg kz]
    refine (rn_goto (t := 2982) (pc := 502) (dd bL_law dL_law_502) rfl).trans ?_
    refine (rg_iinc (pc := 2982) (dd bL_law dL_law_2982) (x := i) rfl (Nat.le_of_ble_eq_true rfl) (by omega) (by omega) rfl).trans ?_
    exact rn_goto (t := 23) (pc := 2985) (dd bL_law dL_law_2985) rfl
theorem LC_5 {n i Ln : Int} {h : vH} {v5 v6 : vv} (J : JN n h) (hn : 0 ≤ n ∧ n ≤ 9000) (w : lwH h Ln) (hi : 0 ≤ i ∧ i + 6 ≤ Ln ∧ Ln ≤ 3072) : lwN n h i (vrun mL_law 505 [(1, 2), (1, 3), (1, 282), (1, 338), (0, i), v5, v6] [] h) := by
  obtain ⟨o, h2, k, r, z, y, t, f, j2, ks, rz⟩ := Wr_breakLine (x1 := h 2 2 (i + 1)) (x2 := h 2 2 (i + 2)) J hn w.2.2.1 w.2.2.2.1
  have s2 : o 0 282 0 = 34 := ks.2.2.2.1.trans J.2.1.1.1.1.1.1
  have s3 : shModel h2 := j2.2.1.1.1.1.1
  have kk := kS_rZ ks rz J j2
  refine ⟨h2, (0, k), (0, r), ?_, j2, kk⟩
  refine (rn_aload_n (pc := 505) (dd bL_law dL_law_505) rfl).trans ?_
  refine (rn_aload_n (pc := 506) (dd bL_law dL_law_506) rfl).trans ?_
  refine (rn_iload (pc := 507) (dd bL_law dL_law_507) rfl).trans ?_
  refine (rn_iconst (pc := 509) (dd bL_law dL_law_509) (by decide)).trans ?_
  refine (rg_iadd (pc := 510) (dd bL_law dL_law_510) (by omega) (by omega)).trans ?_
  refine (rl_iaload (n := Ln) (pc := 511) (dd bL_law dL_law_511) w.1 w.2.1 (by omega) (by omega) (v := h 2 2 (i + 1)) rfl).trans ?_
  refine (rn_aload_n (pc := 512) (dd bL_law dL_law_512) rfl).trans ?_
  refine (rn_iload (pc := 513) (dd bL_law dL_law_513) rfl).trans ?_
  refine (rn_iconst (pc := 515) (dd bL_law dL_law_515) (by decide)).trans ?_
  refine (rg_iadd (pc := 516) (dd bL_law dL_law_516) (by omega) (by omega)).trans ?_
  refine (rl_iaload (n := Ln) (pc := 517) (dd bL_law dL_law_517) w.1 w.2.1 (by omega) (by omega) (v := h 2 2 (i + 2)) rfl).trans ?_
  refine (rn_aload_n (pc := 518) (dd bL_law dL_law_518) rfl).trans ?_
  refine (rg_static (pc := 519) (dd bL_law dL_law_519) rfl (by decide) (Nat.le_of_ble_eq_true rfl) (as := [(1, 3), (0, h 2 2 (i + 1)), (0, h 2 2 (i + 2)), (1, 338)]) rfl rfl ⟨Nat.le_of_ble_eq_true rfl, Nat.le_of_ble_eq_true rfl, Nat.le_of_ble_eq_true rfl, Nat.le_of_ble_eq_true rfl⟩).trans ?_
  refine (vret_v z).trans ?_
  refine (rn_istore (pc := 522) (dd bL_law dL_law_522) (Nat.le_of_ble_eq_true rfl) rfl).trans ?_
  refine (rn_aload_n (pc := 524) (dd bL_law dL_law_524) rfl).trans ?_
  refine (rn_aload_n (pc := 525) (dd bL_law dL_law_525) rfl).trans ?_
  refine (rn_iload (pc := 526) (dd bL_law dL_law_526) rfl).trans ?_
  refine (rn_iconst (pc := 528) (dd bL_law dL_law_528) (by decide)).trans ?_
  refine (rg_iadd (pc := 529) (dd bL_law dL_law_529) (by omega) (by omega)).trans ?_
  refine (rl_iaload (n := Ln) (pc := 530) (dd bL_law dL_law_530) ((ks.1 0 0).trans w.1) ((ks.1 1 0).trans w.2.1) (by omega) (by omega) (v := h 2 2 (i + 1)) (ks.1 2 _)).trans ?_
  refine (rn_aload_n (pc := 531) (dd bL_law dL_law_531) rfl).trans ?_
  refine (rn_iload (pc := 532) (dd bL_law dL_law_532) rfl).trans ?_
  refine (rn_iconst (pc := 534) (dd bL_law dL_law_534) (by decide)).trans ?_
  refine (rg_iadd (pc := 535) (dd bL_law dL_law_535) (by omega) (by omega)).trans ?_
  refine (rl_iaload (n := Ln) (pc := 536) (dd bL_law dL_law_536) ((ks.1 0 0).trans w.1) ((ks.1 1 0).trans w.2.1) (by omega) (by omega) (v := h 2 2 (i + 2)) (ks.1 2 _)).trans ?_
  refine (rg_virtual (pc := 537) (dd bL_law dL_law_537) rfl rfl (by decide) (kc := 34) rfl s2 (as := [(1, 282), (0, h 2 2 (i + 1)), (0, h 2 2 (i + 2))]) rfl ⟨Nat.le_of_ble_eq_true rfl, Nat.le_of_ble_eq_true rfl, Nat.le_of_ble_eq_true rfl, Nat.le_of_ble_eq_true rfl⟩).trans ?_
  refine (vret_v y).trans ?_
  refine (rn_istore (pc := 540) (dd bL_law dL_law_540) (Nat.le_of_ble_eq_true rfl) rfl).trans ?_
  refine (rn_aload_n (pc := 542) (dd bL_law dL_law_542) rfl).trans ?_
  refine (rg_virtual (pc := 543) (dd bL_law dL_law_543) rfl rfl (by decide) (kc := 34) rfl s3.1 (as := [(1, 282)]) rfl ⟨Nat.le_of_ble_eq_true rfl, Nat.le_of_ble_eq_true rfl, Nat.le_of_ble_eq_true rfl, Nat.le_of_ble_eq_true rfl⟩).trans ?_
  refine (vret_v ((spX13_thrown s3).trans (by rw [t]))).trans ?_
  refine (rn_iload (pc := 546) (dd bL_law dL_law_546) rfl).trans ?_
  refine (rn_icmp_eq (t := 553) (pc := 548) (dd bL_law dL_law_548) rfl).trans ((if_pos rfl).trans ?_)
  refine (rn_iload (pc := 553) (dd bL_law dL_law_553) rfl).trans ?_
  refine (rg_if_ne (t := 570) (pc := 555) (dd bL_law dL_law_555) rfl).trans ?_
  by_cases kz : k = 0
  · rw [if_pos kz]
    have f := f kz
    refine (rn_aload_n (pc := 558) (dd bL_law dL_law_558) rfl).trans ?_
    refine (rn_iconst (pc := 559) (dd bL_law dL_law_559) (by decide)).trans ?_
    refine (rg_laload (n := 1) (pc := 560) (dd bL_law dL_law_560) (kk.2.1.trans w.2.2.1) (kk.2.2.1.trans w.2.2.2.1) (by decide) (by decide) ((rz 2 338 0 (by decide)).trans f)).trans ?_
    refine (rn_iload (pc := 561) (dd bL_law dL_law_561) rfl).trans ?_
    refine (rn_i2l (pc := 563) (dd bL_law dL_law_563)).trans ?_
    refine (rl_lcmp (pc := 564) (dd bL_law dL_law_564) rfl).trans ?_
    refine (rn_if_eq (t := 570) (pc := 565) (dd bL_law dL_law_565) rfl).trans ((if_pos rfl).trans ?_)
    refine (rn_goto (t := 2982) (pc := 570) (dd bL_law dL_law_570) rfl).trans ?_
    refine (rg_iinc (pc := 2982) (dd bL_law dL_law_2982) (x := i) rfl (Nat.le_of_ble_eq_true rfl) (by omega) (by omega) rfl).trans ?_
    exact rn_goto (t := 23) (pc := 2985) (dd bL_law dL_law_2985) rfl
  · rw [if_neg kz]
    refine (rn_goto (t := 2982) (pc := 570) (dd bL_law dL_law_570) rfl).trans ?_
    refine (rg_iinc (pc := 2982) (dd bL_law dL_law_2982) (x := i) rfl (Nat.le_of_ble_eq_true rfl) (by omega) (by omega) rfl).trans ?_
    exact rn_goto (t := 23) (pc := 2985) (dd bL_law dL_law_2985) rfl
theorem LC_6 {n i Ln : Int} {h : vH} {v5 v6 : vv} (J : JN n h) (hn : 0 ≤ n ∧ n ≤ 9000) (w : lwH h Ln) (hi : 0 ≤ i ∧ i + 6 ≤ Ln ∧ Ln ≤ 3072) : lwN n h i (vrun mL_law 573 [(1, 2), (1, 3), (1, 282), (1, 338), (0, i), v5, v6] [] h) := by
  obtain ⟨o, h2, k, r, z, y, t, f, j2, ks, rz⟩ := Wr_join (x1 := h 2 2 (i + 1)) J hn w.2.2.1 w.2.2.2.1
  have s2 : o 0 282 0 = 34 := ks.2.2.2.1.trans J.2.1.1.1.1.1.1
  have s3 : shModel h2 := j2.2.1.1.1.1.1
  have kk := kS_rZ ks rz J j2
  refine ⟨h2, (0, k), (0, r), ?_, j2, kk⟩
  refine (rn_aload_n (pc := 573) (dd bL_law dL_law_573) rfl).trans ?_
  refine (rn_aload_n (pc := 574) (dd bL_law dL_law_574) rfl).trans ?_
  refine (rn_iload (pc := 575) (dd bL_law dL_law_575) rfl).trans ?_
  refine (rn_iconst (pc := 577) (dd bL_law dL_law_577) (by decide)).trans ?_
  refine (rg_iadd (pc := 578) (dd bL_law dL_law_578) (by omega) (by omega)).trans ?_
  refine (rl_iaload (n := Ln) (pc := 579) (dd bL_law dL_law_579) w.1 w.2.1 (by omega) (by omega) (v := h 2 2 (i + 1)) rfl).trans ?_
  refine (rn_aload_n (pc := 580) (dd bL_law dL_law_580) rfl).trans ?_
  refine (rg_static (pc := 581) (dd bL_law dL_law_581) rfl (by decide) (Nat.le_of_ble_eq_true rfl) (as := [(1, 3), (0, h 2 2 (i + 1)), (1, 338)]) rfl rfl ⟨Nat.le_of_ble_eq_true rfl, Nat.le_of_ble_eq_true rfl, Nat.le_of_ble_eq_true rfl, Nat.le_of_ble_eq_true rfl⟩).trans ?_
  refine (vret_v z).trans ?_
  refine (rn_istore (pc := 584) (dd bL_law dL_law_584) (Nat.le_of_ble_eq_true rfl) rfl).trans ?_
  refine (rn_aload_n (pc := 586) (dd bL_law dL_law_586) rfl).trans ?_
  refine (rn_aload_n (pc := 587) (dd bL_law dL_law_587) rfl).trans ?_
  refine (rn_iload (pc := 588) (dd bL_law dL_law_588) rfl).trans ?_
  refine (rn_iconst (pc := 590) (dd bL_law dL_law_590) (by decide)).trans ?_
  refine (rg_iadd (pc := 591) (dd bL_law dL_law_591) (by omega) (by omega)).trans ?_
  refine (rl_iaload (n := Ln) (pc := 592) (dd bL_law dL_law_592) ((ks.1 0 0).trans w.1) ((ks.1 1 0).trans w.2.1) (by omega) (by omega) (v := h 2 2 (i + 1)) (ks.1 2 _)).trans ?_
  refine (rg_virtual (pc := 593) (dd bL_law dL_law_593) rfl rfl (by decide) (kc := 34) rfl s2 (as := [(1, 282), (0, h 2 2 (i + 1))]) rfl ⟨Nat.le_of_ble_eq_true rfl, Nat.le_of_ble_eq_true rfl, Nat.le_of_ble_eq_true rfl, Nat.le_of_ble_eq_true rfl⟩).trans ?_
  refine (vret_v y).trans ?_
  refine (rn_istore (pc := 596) (dd bL_law dL_law_596) (Nat.le_of_ble_eq_true rfl) rfl).trans ?_
  refine (rn_aload_n (pc := 598) (dd bL_law dL_law_598) rfl).trans ?_
  refine (rg_virtual (pc := 599) (dd bL_law dL_law_599) rfl rfl (by decide) (kc := 34) rfl s3.1 (as := [(1, 282)]) rfl ⟨Nat.le_of_ble_eq_true rfl, Nat.le_of_ble_eq_true rfl, Nat.le_of_ble_eq_true rfl, Nat.le_of_ble_eq_true rfl⟩).trans ?_
  refine (vret_v ((spX13_thrown s3).trans (by rw [t]))).trans ?_
  refine (rn_iload (pc := 602) (dd bL_law dL_law_602) rfl).trans ?_
  refine (rn_icmp_eq (t := 609) (pc := 604) (dd bL_law dL_law_604) rfl).trans ((if_pos rfl).trans ?_)
  refine (rn_iload (pc := 609) (dd bL_law dL_law_609) rfl).trans ?_
  refine (rg_if_ne (t := 626) (pc := 611) (dd bL_law dL_law_611) rfl).trans ?_
  by_cases kz : k = 0
  · rw [if_pos kz]
    have f := f kz
    refine (rn_aload_n (pc := 614) (dd bL_law dL_law_614) rfl).trans ?_
    refine (rn_iconst (pc := 615) (dd bL_law dL_law_615) (by decide)).trans ?_
    refine (rg_laload (n := 1) (pc := 616) (dd bL_law dL_law_616) (kk.2.1.trans w.2.2.1) (kk.2.2.1.trans w.2.2.2.1) (by decide) (by decide) ((rz 2 338 0 (by decide)).trans f)).trans ?_
    refine (rn_iload (pc := 617) (dd bL_law dL_law_617) rfl).trans ?_
    refine (rn_i2l (pc := 619) (dd bL_law dL_law_619)).trans ?_
    refine (rl_lcmp (pc := 620) (dd bL_law dL_law_620) rfl).trans ?_
    refine (rn_if_eq (t := 626) (pc := 621) (dd bL_law dL_law_621) rfl).trans ((if_pos rfl).trans ?_)
    refine (rn_goto (t := 2982) (pc := 626) (dd bL_law dL_law_626) rfl).trans ?_
    refine (rg_iinc (pc := 2982) (dd bL_law dL_law_2982) (x := i) rfl (Nat.le_of_ble_eq_true rfl) (by omega) (by omega) rfl).trans ?_
    exact rn_goto (t := 23) (pc := 2985) (dd bL_law dL_law_2985) rfl
  · rw [if_neg kz]
    refine (rn_goto (t := 2982) (pc := 626) (dd bL_law dL_law_626) rfl).trans ?_
    refine (rg_iinc (pc := 2982) (dd bL_law dL_law_2982) (x := i) rfl (Nat.le_of_ble_eq_true rfl) (by omega) (by omega) rfl).trans ?_
    exact rn_goto (t := 23) (pc := 2985) (dd bL_law dL_law_2985) rfl
theorem LC_7 {n i Ln : Int} {h : vH} {v5 v6 : vv} (J : JN n h) (hn : 0 ≤ n ∧ n ≤ 9000) (w : lwH h Ln) (hi : 0 ≤ i ∧ i + 6 ≤ Ln ∧ Ln ≤ 3072) : lwN n h i (vrun mL_law 629 [(1, 2), (1, 3), (1, 282), (1, 338), (0, i), v5, v6] [] h) := by
  obtain ⟨o, h2, k, r, z, y, t, f, j2, ks, rz⟩ := Wr_setMark (x1 := h 2 2 (i + 1)) (x2 := (if h 2 2 (i + 2) = 0 then 0 else 1)) J (by split <;> omega) w.2.2.1 w.2.2.2.1
  have s2 : o 0 282 0 = 34 := ks.2.2.2.1.trans J.2.1.1.1.1.1.1
  have s3 : shModel h2 := j2.2.1.1.1.1.1
  have kk := kS_rZ ks rz J j2
  refine ⟨h2, (0, k), (0, r), ?_, j2, kk⟩
  refine (rn_aload_n (pc := 629) (dd bL_law dL_law_629) rfl).trans ?_
  refine (rn_aload_n (pc := 630) (dd bL_law dL_law_630) rfl).trans ?_
  refine (rn_iload (pc := 631) (dd bL_law dL_law_631) rfl).trans ?_
  refine (rn_iconst (pc := 633) (dd bL_law dL_law_633) (by decide)).trans ?_
  refine (rg_iadd (pc := 634) (dd bL_law dL_law_634) (by omega) (by omega)).trans ?_
  refine (rl_iaload (n := Ln) (pc := 635) (dd bL_law dL_law_635) w.1 w.2.1 (by omega) (by omega) (v := h 2 2 (i + 1)) rfl).trans ?_
  refine (rn_aload_n (pc := 636) (dd bL_law dL_law_636) rfl).trans ?_
  refine (rn_iload (pc := 637) (dd bL_law dL_law_637) rfl).trans ?_
  refine (rn_iconst (pc := 639) (dd bL_law dL_law_639) (by decide)).trans ?_
  refine (rg_iadd (pc := 640) (dd bL_law dL_law_640) (by omega) (by omega)).trans ?_
  refine (rl_iaload (n := Ln) (pc := 641) (dd bL_law dL_law_641) w.1 w.2.1 (by omega) (by omega) (v := h 2 2 (i + 2)) rfl).trans ?_
  refine Eq.trans (b := vrun mL_law 650 [(1, 2), (1, 3), (1, 282), (1, 338), (0, i), v5, v6] ((0, (if h 2 2 (i + 2) = 0 then 0 else 1)) :: [(0, h 2 2 (i + 1)), (1, 3)]) h) ?_ ?_
  · refine (rn_if_eq (t := 649) (pc := 642) (dd bL_law dL_law_642) rfl).trans ?_
    by_cases c : h 2 2 (i + 2) = 0
    · rw [if_pos c, if_pos c]; exact rn_iconst (pc := 649) (dd bL_law dL_law_649) (by decide)
    · rw [if_neg c, if_neg c]; exact (rn_iconst (pc := 645) (dd bL_law dL_law_645) (by decide)).trans (rn_goto (t := 650) (pc := 646) (dd bL_law dL_law_646) rfl)
  refine (rn_aload_n (pc := 650) (dd bL_law dL_law_650) rfl).trans ?_
  refine (rg_static (pc := 651) (dd bL_law dL_law_651) rfl (by decide) (Nat.le_of_ble_eq_true rfl) (as := [(1, 3), (0, h 2 2 (i + 1)), (0, (if h 2 2 (i + 2) = 0 then 0 else 1)), (1, 338)]) rfl rfl ⟨Nat.le_of_ble_eq_true rfl, Nat.le_of_ble_eq_true rfl, Nat.le_of_ble_eq_true rfl, Nat.le_of_ble_eq_true rfl⟩).trans ?_
  refine (vret_v z).trans ?_
  refine (rn_istore (pc := 654) (dd bL_law dL_law_654) (Nat.le_of_ble_eq_true rfl) rfl).trans ?_
  refine (rn_aload_n (pc := 656) (dd bL_law dL_law_656) rfl).trans ?_
  refine (rn_aload_n (pc := 657) (dd bL_law dL_law_657) rfl).trans ?_
  refine (rn_iload (pc := 658) (dd bL_law dL_law_658) rfl).trans ?_
  refine (rn_iconst (pc := 660) (dd bL_law dL_law_660) (by decide)).trans ?_
  refine (rg_iadd (pc := 661) (dd bL_law dL_law_661) (by omega) (by omega)).trans ?_
  refine (rl_iaload (n := Ln) (pc := 662) (dd bL_law dL_law_662) ((ks.1 0 0).trans w.1) ((ks.1 1 0).trans w.2.1) (by omega) (by omega) (v := h 2 2 (i + 1)) (ks.1 2 _)).trans ?_
  refine (rn_aload_n (pc := 663) (dd bL_law dL_law_663) rfl).trans ?_
  refine (rn_iload (pc := 664) (dd bL_law dL_law_664) rfl).trans ?_
  refine (rn_iconst (pc := 666) (dd bL_law dL_law_666) (by decide)).trans ?_
  refine (rg_iadd (pc := 667) (dd bL_law dL_law_667) (by omega) (by omega)).trans ?_
  refine (rl_iaload (n := Ln) (pc := 668) (dd bL_law dL_law_668) ((ks.1 0 0).trans w.1) ((ks.1 1 0).trans w.2.1) (by omega) (by omega) (v := h 2 2 (i + 2)) (ks.1 2 _)).trans ?_
  refine Eq.trans (b := vrun mL_law 677 [(1, 2), (1, 3), (1, 282), (1, 338), (0, i), (0, k), v6] ((0, (if h 2 2 (i + 2) = 0 then 0 else 1)) :: [(0, h 2 2 (i + 1)), (1, 282)]) o) ?_ ?_
  · refine (rn_if_eq (t := 676) (pc := 669) (dd bL_law dL_law_669) rfl).trans ?_
    by_cases c : h 2 2 (i + 2) = 0
    · rw [if_pos c, if_pos c]; exact rn_iconst (pc := 676) (dd bL_law dL_law_676) (by decide)
    · rw [if_neg c, if_neg c]; exact (rn_iconst (pc := 672) (dd bL_law dL_law_672) (by decide)).trans (rn_goto (t := 677) (pc := 673) (dd bL_law dL_law_673) rfl)
  refine (rg_virtual (pc := 677) (dd bL_law dL_law_677) rfl rfl (by decide) (kc := 34) rfl s2 (as := [(1, 282), (0, h 2 2 (i + 1)), (0, (if h 2 2 (i + 2) = 0 then 0 else 1))]) rfl ⟨Nat.le_of_ble_eq_true rfl, Nat.le_of_ble_eq_true rfl, Nat.le_of_ble_eq_true rfl, Nat.le_of_ble_eq_true rfl⟩).trans ?_
  refine (vret_v y).trans ?_
  refine (rn_istore (pc := 680) (dd bL_law dL_law_680) (Nat.le_of_ble_eq_true rfl) rfl).trans ?_
  refine (rn_aload_n (pc := 682) (dd bL_law dL_law_682) rfl).trans ?_
  refine (rg_virtual (pc := 683) (dd bL_law dL_law_683) rfl rfl (by decide) (kc := 34) rfl s3.1 (as := [(1, 282)]) rfl ⟨Nat.le_of_ble_eq_true rfl, Nat.le_of_ble_eq_true rfl, Nat.le_of_ble_eq_true rfl, Nat.le_of_ble_eq_true rfl⟩).trans ?_
  refine (vret_v ((spX13_thrown s3).trans (by rw [t]))).trans ?_
  refine (rn_iload (pc := 686) (dd bL_law dL_law_686) rfl).trans ?_
  refine (rn_icmp_eq (t := 693) (pc := 688) (dd bL_law dL_law_688) rfl).trans ((if_pos rfl).trans ?_)
  refine (rn_iload (pc := 693) (dd bL_law dL_law_693) rfl).trans ?_
  refine (rg_if_ne (t := 717) (pc := 695) (dd bL_law dL_law_695) rfl).trans ?_
  by_cases kz : k = 0
  · rw [if_pos kz]
    have f := f kz
    refine (rn_aload_n (pc := 698) (dd bL_law dL_law_698) rfl).trans ?_
    refine (rn_iconst (pc := 699) (dd bL_law dL_law_699) (by decide)).trans ?_
    refine (rg_laload (n := 1) (pc := 700) (dd bL_law dL_law_700) (kk.2.1.trans w.2.2.1) (kk.2.2.1.trans w.2.2.2.1) (by decide) (by decide) ((rz 2 338 0 (by decide)).trans f)).trans ?_
    refine (rn_iload (pc := 701) (dd bL_law dL_law_701) rfl).trans ?_
    refine (rn_if_eq (t := 710) (pc := 703) (dd bL_law dL_law_703) rfl).trans ?_
    by_cases c : r = 0
    · rw [if_pos c]
      refine (rn_lconst (pc := 710) (dd bL_law dL_law_710)).trans ?_
      refine (rl_lcmp (pc := 711) (dd bL_law dL_law_711) (by first | exact if_pos c | exact if_neg c)).trans ?_
      refine (rn_if_eq (t := 717) (pc := 712) (dd bL_law dL_law_712) rfl).trans ((if_pos rfl).trans ?_)
      refine (rn_goto (t := 2982) (pc := 717) (dd bL_law dL_law_717) rfl).trans ?_
      refine (rg_iinc (pc := 2982) (dd bL_law dL_law_2982) (x := i) rfl (Nat.le_of_ble_eq_true rfl) (by omega) (by omega) rfl).trans ?_
      exact rn_goto (t := 23) (pc := 2985) (dd bL_law dL_law_2985) rfl
    · rw [if_neg c]
      refine (rn_lconst (pc := 706) (dd bL_law dL_law_706)).trans ?_
      refine (rn_goto (t := 711) (pc := 707) (dd bL_law dL_law_707) rfl).trans ?_
      refine (rl_lcmp (pc := 711) (dd bL_law dL_law_711) (by first | exact if_pos c | exact if_neg c)).trans ?_
      refine (rn_if_eq (t := 717) (pc := 712) (dd bL_law dL_law_712) rfl).trans ((if_pos rfl).trans ?_)
      refine (rn_goto (t := 2982) (pc := 717) (dd bL_law dL_law_717) rfl).trans ?_
      refine (rg_iinc (pc := 2982) (dd bL_law dL_law_2982) (x := i) rfl (Nat.le_of_ble_eq_true rfl) (by omega) (by omega) rfl).trans ?_
      exact rn_goto (t := 23) (pc := 2985) (dd bL_law dL_law_2985) rfl
  · rw [if_neg kz]
    refine (rn_goto (t := 2982) (pc := 717) (dd bL_law dL_law_717) rfl).trans ?_
    refine (rg_iinc (pc := 2982) (dd bL_law dL_law_2982) (x := i) rfl (Nat.le_of_ble_eq_true rfl) (by omega) (by omega) rfl).trans ?_
    exact rn_goto (t := 23) (pc := 2985) (dd bL_law dL_law_2985) rfl
theorem LC_8 {n i Ln : Int} {h : vH} {v5 v6 : vv} (J : JN n h) (hn : 0 ≤ n ∧ n ≤ 9000) (w : lwH h Ln) (hi : 0 ≤ i ∧ i + 6 ≤ Ln ∧ Ln ≤ 3072) : lwN n h i (vrun mL_law 720 [(1, 2), (1, 3), (1, 282), (1, 338), (0, i), v5, v6] [] h) := by
  obtain ⟨o, h2, k, z, y, t, j2, ks, rz⟩ := Wr_shape (x1 := h 2 2 (i + 1)) (x2 := h 2 2 (i + 2)) (x3 := h 2 2 (i + 3)) (x4 := h 2 2 (i + 4)) J
  have s2 : o 0 282 0 = 34 := ks.2.2.2.1.trans J.2.1.1.1.1.1.1
  have s3 : shModel h2 := j2.2.1.1.1.1.1
  have kk := kS_rZ ks rz J j2
  refine ⟨h2, (0, k), v6, ?_, j2, kk⟩
  refine (rn_aload_n (pc := 720) (dd bL_law dL_law_720) rfl).trans ?_
  refine (rn_aload_n (pc := 721) (dd bL_law dL_law_721) rfl).trans ?_
  refine (rn_iload (pc := 722) (dd bL_law dL_law_722) rfl).trans ?_
  refine (rn_iconst (pc := 724) (dd bL_law dL_law_724) (by decide)).trans ?_
  refine (rg_iadd (pc := 725) (dd bL_law dL_law_725) (by omega) (by omega)).trans ?_
  refine (rl_iaload (n := Ln) (pc := 726) (dd bL_law dL_law_726) w.1 w.2.1 (by omega) (by omega) (v := h 2 2 (i + 1)) rfl).trans ?_
  refine (rn_aload_n (pc := 727) (dd bL_law dL_law_727) rfl).trans ?_
  refine (rn_iload (pc := 728) (dd bL_law dL_law_728) rfl).trans ?_
  refine (rn_iconst (pc := 730) (dd bL_law dL_law_730) (by decide)).trans ?_
  refine (rg_iadd (pc := 731) (dd bL_law dL_law_731) (by omega) (by omega)).trans ?_
  refine (rl_iaload (n := Ln) (pc := 732) (dd bL_law dL_law_732) w.1 w.2.1 (by omega) (by omega) (v := h 2 2 (i + 2)) rfl).trans ?_
  refine (rn_aload_n (pc := 733) (dd bL_law dL_law_733) rfl).trans ?_
  refine (rn_iload (pc := 734) (dd bL_law dL_law_734) rfl).trans ?_
  refine (rn_iconst (pc := 736) (dd bL_law dL_law_736) (by decide)).trans ?_
  refine (rg_iadd (pc := 737) (dd bL_law dL_law_737) (by omega) (by omega)).trans ?_
  refine (rl_iaload (n := Ln) (pc := 738) (dd bL_law dL_law_738) w.1 w.2.1 (by omega) (by omega) (v := h 2 2 (i + 3)) rfl).trans ?_
  refine (rn_aload_n (pc := 739) (dd bL_law dL_law_739) rfl).trans ?_
  refine (rn_iload (pc := 740) (dd bL_law dL_law_740) rfl).trans ?_
  refine (rn_iconst (pc := 742) (dd bL_law dL_law_742) (by decide)).trans ?_
  refine (rg_iadd (pc := 743) (dd bL_law dL_law_743) (by omega) (by omega)).trans ?_
  refine (rl_iaload (n := Ln) (pc := 744) (dd bL_law dL_law_744) w.1 w.2.1 (by omega) (by omega) (v := h 2 2 (i + 4)) rfl).trans ?_
  refine (rg_static (pc := 745) (dd bL_law dL_law_745) rfl (by decide) (Nat.le_of_ble_eq_true rfl) (as := [(1, 3), (0, h 2 2 (i + 1)), (0, h 2 2 (i + 2)), (0, h 2 2 (i + 3)), (0, h 2 2 (i + 4))]) rfl rfl ⟨Nat.le_of_ble_eq_true rfl, Nat.le_of_ble_eq_true rfl, Nat.le_of_ble_eq_true rfl, Nat.le_of_ble_eq_true rfl⟩).trans ?_
  refine (vret_v z).trans ?_
  refine (rn_istore (pc := 748) (dd bL_law dL_law_748) (Nat.le_of_ble_eq_true rfl) rfl).trans ?_
  refine (rn_aload_n (pc := 750) (dd bL_law dL_law_750) rfl).trans ?_
  refine (rn_aload_n (pc := 751) (dd bL_law dL_law_751) rfl).trans ?_
  refine (rn_iload (pc := 752) (dd bL_law dL_law_752) rfl).trans ?_
  refine (rn_iconst (pc := 754) (dd bL_law dL_law_754) (by decide)).trans ?_
  refine (rg_iadd (pc := 755) (dd bL_law dL_law_755) (by omega) (by omega)).trans ?_
  refine (rl_iaload (n := Ln) (pc := 756) (dd bL_law dL_law_756) ((ks.1 0 0).trans w.1) ((ks.1 1 0).trans w.2.1) (by omega) (by omega) (v := h 2 2 (i + 1)) (ks.1 2 _)).trans ?_
  refine (rn_aload_n (pc := 757) (dd bL_law dL_law_757) rfl).trans ?_
  refine (rn_iload (pc := 758) (dd bL_law dL_law_758) rfl).trans ?_
  refine (rn_iconst (pc := 760) (dd bL_law dL_law_760) (by decide)).trans ?_
  refine (rg_iadd (pc := 761) (dd bL_law dL_law_761) (by omega) (by omega)).trans ?_
  refine (rl_iaload (n := Ln) (pc := 762) (dd bL_law dL_law_762) ((ks.1 0 0).trans w.1) ((ks.1 1 0).trans w.2.1) (by omega) (by omega) (v := h 2 2 (i + 2)) (ks.1 2 _)).trans ?_
  refine (rn_aload_n (pc := 763) (dd bL_law dL_law_763) rfl).trans ?_
  refine (rn_iload (pc := 764) (dd bL_law dL_law_764) rfl).trans ?_
  refine (rn_iconst (pc := 766) (dd bL_law dL_law_766) (by decide)).trans ?_
  refine (rg_iadd (pc := 767) (dd bL_law dL_law_767) (by omega) (by omega)).trans ?_
  refine (rl_iaload (n := Ln) (pc := 768) (dd bL_law dL_law_768) ((ks.1 0 0).trans w.1) ((ks.1 1 0).trans w.2.1) (by omega) (by omega) (v := h 2 2 (i + 3)) (ks.1 2 _)).trans ?_
  refine (rn_aload_n (pc := 769) (dd bL_law dL_law_769) rfl).trans ?_
  refine (rn_iload (pc := 770) (dd bL_law dL_law_770) rfl).trans ?_
  refine (rn_iconst (pc := 772) (dd bL_law dL_law_772) (by decide)).trans ?_
  refine (rg_iadd (pc := 773) (dd bL_law dL_law_773) (by omega) (by omega)).trans ?_
  refine (rl_iaload (n := Ln) (pc := 774) (dd bL_law dL_law_774) ((ks.1 0 0).trans w.1) ((ks.1 1 0).trans w.2.1) (by omega) (by omega) (v := h 2 2 (i + 4)) (ks.1 2 _)).trans ?_
  refine (rg_virtual (pc := 775) (dd bL_law dL_law_775) rfl rfl (by decide) (kc := 34) rfl s2 (as := [(1, 282), (0, h 2 2 (i + 1)), (0, h 2 2 (i + 2)), (0, h 2 2 (i + 3)), (0, h 2 2 (i + 4))]) rfl ⟨Nat.le_of_ble_eq_true rfl, Nat.le_of_ble_eq_true rfl, Nat.le_of_ble_eq_true rfl, Nat.le_of_ble_eq_true rfl⟩).trans ?_
  refine (vret_n y).trans ?_
  refine (rn_aload_n (pc := 778) (dd bL_law dL_law_778) rfl).trans ?_
  refine (rg_virtual (pc := 779) (dd bL_law dL_law_779) rfl rfl (by decide) (kc := 34) rfl s3.1 (as := [(1, 282)]) rfl ⟨Nat.le_of_ble_eq_true rfl, Nat.le_of_ble_eq_true rfl, Nat.le_of_ble_eq_true rfl, Nat.le_of_ble_eq_true rfl⟩).trans ?_
  refine (vret_v ((spX13_thrown s3).trans (by rw [t]))).trans ?_
  refine (rn_iload (pc := 782) (dd bL_law dL_law_782) rfl).trans ?_
  refine (rn_icmp_eq (t := 789) (pc := 784) (dd bL_law dL_law_784) rfl).trans ((if_pos rfl).trans ?_)
  refine (rn_goto (t := 2982) (pc := 789) (dd bL_law dL_law_789) rfl).trans ?_
  refine (rg_iinc (pc := 2982) (dd bL_law dL_law_2982) (x := i) rfl (Nat.le_of_ble_eq_true rfl) (by omega) (by omega) rfl).trans ?_
  exact rn_goto (t := 23) (pc := 2985) (dd bL_law dL_law_2985) rfl
theorem LC_9 {n i Ln : Int} {h : vH} {v5 v6 : vv} (J : JN n h) (hn : 0 ≤ n ∧ n ≤ 9000) (w : lwH h Ln) (hi : 0 ≤ i ∧ i + 6 ≤ Ln ∧ Ln ≤ 3072) : lwN n h i (vrun mL_law 792 [(1, 2), (1, 3), (1, 282), (1, 338), (0, i), v5, v6] [] h) := by
  obtain ⟨o, h2, k, r, z, y, t, f, j2, ks, rz⟩ := Wr_hide (x1 := h 2 2 (i + 1)) (x2 := h 2 2 (i + 2)) (x3 := h 2 2 (i + 3)) (x4 := h 2 2 (i + 4)) J hn w.2.2.1 w.2.2.2.1
  have s2 : o 0 282 0 = 34 := ks.2.2.2.1.trans J.2.1.1.1.1.1.1
  have s3 : shModel h2 := j2.2.1.1.1.1.1
  have kk := kS_rZ ks rz J j2
  refine ⟨h2, (0, k), (0, r), ?_, j2, kk⟩
  refine (rn_aload_n (pc := 792) (dd bL_law dL_law_792) rfl).trans ?_
  refine (rn_aload_n (pc := 793) (dd bL_law dL_law_793) rfl).trans ?_
  refine (rn_iload (pc := 794) (dd bL_law dL_law_794) rfl).trans ?_
  refine (rn_iconst (pc := 796) (dd bL_law dL_law_796) (by decide)).trans ?_
  refine (rg_iadd (pc := 797) (dd bL_law dL_law_797) (by omega) (by omega)).trans ?_
  refine (rl_iaload (n := Ln) (pc := 798) (dd bL_law dL_law_798) w.1 w.2.1 (by omega) (by omega) (v := h 2 2 (i + 1)) rfl).trans ?_
  refine (rn_aload_n (pc := 799) (dd bL_law dL_law_799) rfl).trans ?_
  refine (rn_iload (pc := 800) (dd bL_law dL_law_800) rfl).trans ?_
  refine (rn_iconst (pc := 802) (dd bL_law dL_law_802) (by decide)).trans ?_
  refine (rg_iadd (pc := 803) (dd bL_law dL_law_803) (by omega) (by omega)).trans ?_
  refine (rl_iaload (n := Ln) (pc := 804) (dd bL_law dL_law_804) w.1 w.2.1 (by omega) (by omega) (v := h 2 2 (i + 2)) rfl).trans ?_
  refine (rn_aload_n (pc := 805) (dd bL_law dL_law_805) rfl).trans ?_
  refine (rn_iload (pc := 806) (dd bL_law dL_law_806) rfl).trans ?_
  refine (rn_iconst (pc := 808) (dd bL_law dL_law_808) (by decide)).trans ?_
  refine (rg_iadd (pc := 809) (dd bL_law dL_law_809) (by omega) (by omega)).trans ?_
  refine (rl_iaload (n := Ln) (pc := 810) (dd bL_law dL_law_810) w.1 w.2.1 (by omega) (by omega) (v := h 2 2 (i + 3)) rfl).trans ?_
  refine (rn_aload_n (pc := 811) (dd bL_law dL_law_811) rfl).trans ?_
  refine (rn_iload (pc := 812) (dd bL_law dL_law_812) rfl).trans ?_
  refine (rn_iconst (pc := 814) (dd bL_law dL_law_814) (by decide)).trans ?_
  refine (rg_iadd (pc := 815) (dd bL_law dL_law_815) (by omega) (by omega)).trans ?_
  refine (rl_iaload (n := Ln) (pc := 816) (dd bL_law dL_law_816) w.1 w.2.1 (by omega) (by omega) (v := h 2 2 (i + 4)) rfl).trans ?_
  refine (rn_aload_n (pc := 817) (dd bL_law dL_law_817) rfl).trans ?_
  refine (rg_static (pc := 818) (dd bL_law dL_law_818) rfl (by decide) (Nat.le_of_ble_eq_true rfl) (as := [(1, 3), (0, h 2 2 (i + 1)), (0, h 2 2 (i + 2)), (0, h 2 2 (i + 3)), (0, h 2 2 (i + 4)), (1, 338)]) rfl rfl ⟨Nat.le_of_ble_eq_true rfl, Nat.le_of_ble_eq_true rfl, Nat.le_of_ble_eq_true rfl, Nat.le_of_ble_eq_true rfl⟩).trans ?_
  refine (vret_v z).trans ?_
  refine (rn_istore (pc := 821) (dd bL_law dL_law_821) (Nat.le_of_ble_eq_true rfl) rfl).trans ?_
  refine (rn_aload_n (pc := 823) (dd bL_law dL_law_823) rfl).trans ?_
  refine (rn_aload_n (pc := 824) (dd bL_law dL_law_824) rfl).trans ?_
  refine (rn_iload (pc := 825) (dd bL_law dL_law_825) rfl).trans ?_
  refine (rn_iconst (pc := 827) (dd bL_law dL_law_827) (by decide)).trans ?_
  refine (rg_iadd (pc := 828) (dd bL_law dL_law_828) (by omega) (by omega)).trans ?_
  refine (rl_iaload (n := Ln) (pc := 829) (dd bL_law dL_law_829) ((ks.1 0 0).trans w.1) ((ks.1 1 0).trans w.2.1) (by omega) (by omega) (v := h 2 2 (i + 1)) (ks.1 2 _)).trans ?_
  refine (rn_aload_n (pc := 830) (dd bL_law dL_law_830) rfl).trans ?_
  refine (rn_iload (pc := 831) (dd bL_law dL_law_831) rfl).trans ?_
  refine (rn_iconst (pc := 833) (dd bL_law dL_law_833) (by decide)).trans ?_
  refine (rg_iadd (pc := 834) (dd bL_law dL_law_834) (by omega) (by omega)).trans ?_
  refine (rl_iaload (n := Ln) (pc := 835) (dd bL_law dL_law_835) ((ks.1 0 0).trans w.1) ((ks.1 1 0).trans w.2.1) (by omega) (by omega) (v := h 2 2 (i + 2)) (ks.1 2 _)).trans ?_
  refine (rn_aload_n (pc := 836) (dd bL_law dL_law_836) rfl).trans ?_
  refine (rn_iload (pc := 837) (dd bL_law dL_law_837) rfl).trans ?_
  refine (rn_iconst (pc := 839) (dd bL_law dL_law_839) (by decide)).trans ?_
  refine (rg_iadd (pc := 840) (dd bL_law dL_law_840) (by omega) (by omega)).trans ?_
  refine (rl_iaload (n := Ln) (pc := 841) (dd bL_law dL_law_841) ((ks.1 0 0).trans w.1) ((ks.1 1 0).trans w.2.1) (by omega) (by omega) (v := h 2 2 (i + 3)) (ks.1 2 _)).trans ?_
  refine (rn_aload_n (pc := 842) (dd bL_law dL_law_842) rfl).trans ?_
  refine (rn_iload (pc := 843) (dd bL_law dL_law_843) rfl).trans ?_
  refine (rn_iconst (pc := 845) (dd bL_law dL_law_845) (by decide)).trans ?_
  refine (rg_iadd (pc := 846) (dd bL_law dL_law_846) (by omega) (by omega)).trans ?_
  refine (rl_iaload (n := Ln) (pc := 847) (dd bL_law dL_law_847) ((ks.1 0 0).trans w.1) ((ks.1 1 0).trans w.2.1) (by omega) (by omega) (v := h 2 2 (i + 4)) (ks.1 2 _)).trans ?_
  refine (rg_virtual (pc := 848) (dd bL_law dL_law_848) rfl rfl (by decide) (kc := 34) rfl s2 (as := [(1, 282), (0, h 2 2 (i + 1)), (0, h 2 2 (i + 2)), (0, h 2 2 (i + 3)), (0, h 2 2 (i + 4))]) rfl ⟨Nat.le_of_ble_eq_true rfl, Nat.le_of_ble_eq_true rfl, Nat.le_of_ble_eq_true rfl, Nat.le_of_ble_eq_true rfl⟩).trans ?_
  refine (vret_v y).trans ?_
  refine (rn_istore (pc := 851) (dd bL_law dL_law_851) (Nat.le_of_ble_eq_true rfl) rfl).trans ?_
  refine (rn_aload_n (pc := 853) (dd bL_law dL_law_853) rfl).trans ?_
  refine (rg_virtual (pc := 854) (dd bL_law dL_law_854) rfl rfl (by decide) (kc := 34) rfl s3.1 (as := [(1, 282)]) rfl ⟨Nat.le_of_ble_eq_true rfl, Nat.le_of_ble_eq_true rfl, Nat.le_of_ble_eq_true rfl, Nat.le_of_ble_eq_true rfl⟩).trans ?_
  refine (vret_v ((spX13_thrown s3).trans (by rw [t]))).trans ?_
  refine (rn_iload (pc := 857) (dd bL_law dL_law_857) rfl).trans ?_
  refine (rn_icmp_eq (t := 864) (pc := 859) (dd bL_law dL_law_859) rfl).trans ((if_pos rfl).trans ?_)
  refine (rn_iload (pc := 864) (dd bL_law dL_law_864) rfl).trans ?_
  refine (rg_if_ne (t := 881) (pc := 866) (dd bL_law dL_law_866) rfl).trans ?_
  by_cases kz : k = 0
  · rw [if_pos kz]
    have f := f kz
    refine (rn_aload_n (pc := 869) (dd bL_law dL_law_869) rfl).trans ?_
    refine (rn_iconst (pc := 870) (dd bL_law dL_law_870) (by decide)).trans ?_
    refine (rg_laload (n := 1) (pc := 871) (dd bL_law dL_law_871) (kk.2.1.trans w.2.2.1) (kk.2.2.1.trans w.2.2.2.1) (by decide) (by decide) ((rz 2 338 0 (by decide)).trans f)).trans ?_
    refine (rn_iload (pc := 872) (dd bL_law dL_law_872) rfl).trans ?_
    refine (rn_i2l (pc := 874) (dd bL_law dL_law_874)).trans ?_
    refine (rl_lcmp (pc := 875) (dd bL_law dL_law_875) rfl).trans ?_
    refine (rn_if_eq (t := 881) (pc := 876) (dd bL_law dL_law_876) rfl).trans ((if_pos rfl).trans ?_)
    refine (rn_goto (t := 2982) (pc := 881) (dd bL_law dL_law_881) rfl).trans ?_
    refine (rg_iinc (pc := 2982) (dd bL_law dL_law_2982) (x := i) rfl (Nat.le_of_ble_eq_true rfl) (by omega) (by omega) rfl).trans ?_
    exact rn_goto (t := 23) (pc := 2985) (dd bL_law dL_law_2985) rfl
  · rw [if_neg kz]
    refine (rn_goto (t := 2982) (pc := 881) (dd bL_law dL_law_881) rfl).trans ?_
    refine (rg_iinc (pc := 2982) (dd bL_law dL_law_2982) (x := i) rfl (Nat.le_of_ble_eq_true rfl) (by omega) (by omega) rfl).trans ?_
    exact rn_goto (t := 23) (pc := 2985) (dd bL_law dL_law_2985) rfl
theorem LC_10 {n i Ln : Int} {h : vH} {v5 v6 : vv} (J : JN n h) (hn : 0 ≤ n ∧ n ≤ 9000) (w : lwH h Ln) (hi : 0 ≤ i ∧ i + 6 ≤ Ln ∧ Ln ≤ 3072) : lwN n h i (vrun mL_law 884 [(1, 2), (1, 3), (1, 282), (1, 338), (0, i), v5, v6] [] h) := by
  obtain ⟨o, h2, k, r, z, y, t, f, j2, ks, rz⟩ := Wr_show (x1 := h 2 2 (i + 1)) (x2 := h 2 2 (i + 2)) J w.2.2.1 w.2.2.2.1
  have s2 : o 0 282 0 = 34 := ks.2.2.2.1.trans J.2.1.1.1.1.1.1
  have s3 : shModel h2 := j2.2.1.1.1.1.1
  have kk := kS_rZ ks rz J j2
  refine ⟨h2, (0, k), (0, r), ?_, j2, kk⟩
  refine (rn_aload_n (pc := 884) (dd bL_law dL_law_884) rfl).trans ?_
  refine (rn_aload_n (pc := 885) (dd bL_law dL_law_885) rfl).trans ?_
  refine (rn_iload (pc := 886) (dd bL_law dL_law_886) rfl).trans ?_
  refine (rn_iconst (pc := 888) (dd bL_law dL_law_888) (by decide)).trans ?_
  refine (rg_iadd (pc := 889) (dd bL_law dL_law_889) (by omega) (by omega)).trans ?_
  refine (rl_iaload (n := Ln) (pc := 890) (dd bL_law dL_law_890) w.1 w.2.1 (by omega) (by omega) (v := h 2 2 (i + 1)) rfl).trans ?_
  refine (rn_aload_n (pc := 891) (dd bL_law dL_law_891) rfl).trans ?_
  refine (rn_iload (pc := 892) (dd bL_law dL_law_892) rfl).trans ?_
  refine (rn_iconst (pc := 894) (dd bL_law dL_law_894) (by decide)).trans ?_
  refine (rg_iadd (pc := 895) (dd bL_law dL_law_895) (by omega) (by omega)).trans ?_
  refine (rl_iaload (n := Ln) (pc := 896) (dd bL_law dL_law_896) w.1 w.2.1 (by omega) (by omega) (v := h 2 2 (i + 2)) rfl).trans ?_
  refine (rn_aload_n (pc := 897) (dd bL_law dL_law_897) rfl).trans ?_
  refine (rg_static (pc := 898) (dd bL_law dL_law_898) rfl (by decide) (Nat.le_of_ble_eq_true rfl) (as := [(1, 3), (0, h 2 2 (i + 1)), (0, h 2 2 (i + 2)), (1, 338)]) rfl rfl ⟨Nat.le_of_ble_eq_true rfl, Nat.le_of_ble_eq_true rfl, Nat.le_of_ble_eq_true rfl, Nat.le_of_ble_eq_true rfl⟩).trans ?_
  refine (vret_v z).trans ?_
  refine (rn_istore (pc := 901) (dd bL_law dL_law_901) (Nat.le_of_ble_eq_true rfl) rfl).trans ?_
  refine (rn_aload_n (pc := 903) (dd bL_law dL_law_903) rfl).trans ?_
  refine (rn_aload_n (pc := 904) (dd bL_law dL_law_904) rfl).trans ?_
  refine (rn_iload (pc := 905) (dd bL_law dL_law_905) rfl).trans ?_
  refine (rn_iconst (pc := 907) (dd bL_law dL_law_907) (by decide)).trans ?_
  refine (rg_iadd (pc := 908) (dd bL_law dL_law_908) (by omega) (by omega)).trans ?_
  refine (rl_iaload (n := Ln) (pc := 909) (dd bL_law dL_law_909) ((ks.1 0 0).trans w.1) ((ks.1 1 0).trans w.2.1) (by omega) (by omega) (v := h 2 2 (i + 1)) (ks.1 2 _)).trans ?_
  refine (rn_aload_n (pc := 910) (dd bL_law dL_law_910) rfl).trans ?_
  refine (rn_iload (pc := 911) (dd bL_law dL_law_911) rfl).trans ?_
  refine (rn_iconst (pc := 913) (dd bL_law dL_law_913) (by decide)).trans ?_
  refine (rg_iadd (pc := 914) (dd bL_law dL_law_914) (by omega) (by omega)).trans ?_
  refine (rl_iaload (n := Ln) (pc := 915) (dd bL_law dL_law_915) ((ks.1 0 0).trans w.1) ((ks.1 1 0).trans w.2.1) (by omega) (by omega) (v := h 2 2 (i + 2)) (ks.1 2 _)).trans ?_
  refine (rg_virtual (pc := 916) (dd bL_law dL_law_916) rfl rfl (by decide) (kc := 34) rfl s2 (as := [(1, 282), (0, h 2 2 (i + 1)), (0, h 2 2 (i + 2))]) rfl ⟨Nat.le_of_ble_eq_true rfl, Nat.le_of_ble_eq_true rfl, Nat.le_of_ble_eq_true rfl, Nat.le_of_ble_eq_true rfl⟩).trans ?_
  refine (vret_v y).trans ?_
  refine (rn_istore (pc := 919) (dd bL_law dL_law_919) (Nat.le_of_ble_eq_true rfl) rfl).trans ?_
  refine (rn_aload_n (pc := 921) (dd bL_law dL_law_921) rfl).trans ?_
  refine (rg_virtual (pc := 922) (dd bL_law dL_law_922) rfl rfl (by decide) (kc := 34) rfl s3.1 (as := [(1, 282)]) rfl ⟨Nat.le_of_ble_eq_true rfl, Nat.le_of_ble_eq_true rfl, Nat.le_of_ble_eq_true rfl, Nat.le_of_ble_eq_true rfl⟩).trans ?_
  refine (vret_v ((spX13_thrown s3).trans (by rw [t]))).trans ?_
  refine (rn_iload (pc := 925) (dd bL_law dL_law_925) rfl).trans ?_
  refine (rn_icmp_eq (t := 932) (pc := 927) (dd bL_law dL_law_927) rfl).trans ((if_pos rfl).trans ?_)
  refine (rn_iload (pc := 932) (dd bL_law dL_law_932) rfl).trans ?_
  refine (rg_if_ne (t := 949) (pc := 934) (dd bL_law dL_law_934) rfl).trans ?_
  by_cases kz : k = 0
  · rw [if_pos kz]
    have f := f kz
    refine (rn_aload_n (pc := 937) (dd bL_law dL_law_937) rfl).trans ?_
    refine (rn_iconst (pc := 938) (dd bL_law dL_law_938) (by decide)).trans ?_
    refine (rg_laload (n := 1) (pc := 939) (dd bL_law dL_law_939) (kk.2.1.trans w.2.2.1) (kk.2.2.1.trans w.2.2.2.1) (by decide) (by decide) ((rz 2 338 0 (by decide)).trans f)).trans ?_
    refine (rn_iload (pc := 940) (dd bL_law dL_law_940) rfl).trans ?_
    refine (rn_i2l (pc := 942) (dd bL_law dL_law_942)).trans ?_
    refine (rl_lcmp (pc := 943) (dd bL_law dL_law_943) rfl).trans ?_
    refine (rn_if_eq (t := 949) (pc := 944) (dd bL_law dL_law_944) rfl).trans ((if_pos rfl).trans ?_)
    refine (rn_goto (t := 2982) (pc := 949) (dd bL_law dL_law_949) rfl).trans ?_
    refine (rg_iinc (pc := 2982) (dd bL_law dL_law_2982) (x := i) rfl (Nat.le_of_ble_eq_true rfl) (by omega) (by omega) rfl).trans ?_
    exact rn_goto (t := 23) (pc := 2985) (dd bL_law dL_law_2985) rfl
  · rw [if_neg kz]
    refine (rn_goto (t := 2982) (pc := 949) (dd bL_law dL_law_949) rfl).trans ?_
    refine (rg_iinc (pc := 2982) (dd bL_law dL_law_2982) (x := i) rfl (Nat.le_of_ble_eq_true rfl) (by omega) (by omega) rfl).trans ?_
    exact rn_goto (t := 23) (pc := 2985) (dd bL_law dL_law_2985) rfl
theorem LC_11 {n i Ln : Int} {h : vH} {v5 v6 : vv} (J : JN n h) (hn : 0 ≤ n ∧ n ≤ 9000) (w : lwH h Ln) (hi : 0 ≤ i ∧ i + 6 ≤ Ln ∧ Ln ≤ 3072) : lwN n h i (vrun mL_law 952 [(1, 2), (1, 3), (1, 282), (1, 338), (0, i), v5, v6] [] h) := by
  obtain ⟨o, h2, k, r, z, y, t, f, j2, ks, rz⟩ := Wr_addVirtual (x1 := h 2 2 (i + 1)) (x2 := h 2 2 (i + 2)) (x3 := h 2 2 (i + 3)) (x4 := blor (blshl (h 2 2 (i + 4)) (32)) (bland (h 2 2 (i + 5)) (4294967295))) J hn blor_in w.2.2.1 w.2.2.2.1
  have s2 : o 0 282 0 = 34 := ks.2.2.2.1.trans J.2.1.1.1.1.1.1
  have s3 : shModel h2 := j2.2.1.1.1.1.1
  have kk := kS_rZ ks rz J j2
  refine ⟨h2, (0, k), (0, r), ?_, j2, kk⟩
  refine (rn_aload_n (pc := 952) (dd bL_law dL_law_952) rfl).trans ?_
  refine (rn_aload_n (pc := 953) (dd bL_law dL_law_953) rfl).trans ?_
  refine (rn_iload (pc := 954) (dd bL_law dL_law_954) rfl).trans ?_
  refine (rn_iconst (pc := 956) (dd bL_law dL_law_956) (by decide)).trans ?_
  refine (rg_iadd (pc := 957) (dd bL_law dL_law_957) (by omega) (by omega)).trans ?_
  refine (rl_iaload (n := Ln) (pc := 958) (dd bL_law dL_law_958) w.1 w.2.1 (by omega) (by omega) (v := h 2 2 (i + 1)) rfl).trans ?_
  refine (rn_aload_n (pc := 959) (dd bL_law dL_law_959) rfl).trans ?_
  refine (rn_iload (pc := 960) (dd bL_law dL_law_960) rfl).trans ?_
  refine (rn_iconst (pc := 962) (dd bL_law dL_law_962) (by decide)).trans ?_
  refine (rg_iadd (pc := 963) (dd bL_law dL_law_963) (by omega) (by omega)).trans ?_
  refine (rl_iaload (n := Ln) (pc := 964) (dd bL_law dL_law_964) w.1 w.2.1 (by omega) (by omega) (v := h 2 2 (i + 2)) rfl).trans ?_
  refine (rn_aload_n (pc := 965) (dd bL_law dL_law_965) rfl).trans ?_
  refine (rn_iload (pc := 966) (dd bL_law dL_law_966) rfl).trans ?_
  refine (rn_iconst (pc := 968) (dd bL_law dL_law_968) (by decide)).trans ?_
  refine (rg_iadd (pc := 969) (dd bL_law dL_law_969) (by omega) (by omega)).trans ?_
  refine (rl_iaload (n := Ln) (pc := 970) (dd bL_law dL_law_970) w.1 w.2.1 (by omega) (by omega) (v := h 2 2 (i + 3)) rfl).trans ?_
  refine (rn_aload_n (pc := 971) (dd bL_law dL_law_971) rfl).trans ?_
  refine (rn_iload (pc := 972) (dd bL_law dL_law_972) rfl).trans ?_
  refine (rn_iconst (pc := 974) (dd bL_law dL_law_974) (by decide)).trans ?_
  refine (rg_iadd (pc := 975) (dd bL_law dL_law_975) (by omega) (by omega)).trans ?_
  refine (rl_iaload (n := Ln) (pc := 976) (dd bL_law dL_law_976) w.1 w.2.1 (by omega) (by omega) (v := h 2 2 (i + 4)) rfl).trans ?_
  refine (rn_i2l (pc := 977) (dd bL_law dL_law_977)).trans ?_
  refine (rn_bipush (pc := 978) (dd bL_law dL_law_978) (by decide)).trans ?_
  refine (rg_lshl (pc := 980) (dd bL_law dL_law_980)).trans ?_
  refine (rn_aload_n (pc := 981) (dd bL_law dL_law_981) rfl).trans ?_
  refine (rn_iload (pc := 982) (dd bL_law dL_law_982) rfl).trans ?_
  refine (rn_iconst (pc := 984) (dd bL_law dL_law_984) (by decide)).trans ?_
  refine (rg_iadd (pc := 985) (dd bL_law dL_law_985) (by omega) (by omega)).trans ?_
  refine (rl_iaload (n := Ln) (pc := 986) (dd bL_law dL_law_986) w.1 w.2.1 (by omega) (by omega) (v := h 2 2 (i + 5)) rfl).trans ?_
  refine (rn_i2l (pc := 987) (dd bL_law dL_law_987)).trans ?_
  refine (rn_ldc2_w (pc := 988) (dd bL_law dL_law_988) (z := 4294967295) rfl).trans ?_
  refine (rg_land (pc := 991) (dd bL_law dL_law_991)).trans ?_
  refine (rg_lor (pc := 992) (dd bL_law dL_law_992)).trans ?_
  refine (rn_aload_n (pc := 993) (dd bL_law dL_law_993) rfl).trans ?_
  refine (rg_static (pc := 994) (dd bL_law dL_law_994) rfl (by decide) (Nat.le_of_ble_eq_true rfl) (as := [(1, 3), (0, h 2 2 (i + 1)), (0, h 2 2 (i + 2)), (0, h 2 2 (i + 3)), (2, blor (blshl (h 2 2 (i + 4)) (32)) (bland (h 2 2 (i + 5)) (4294967295))), (1, 338)]) rfl rfl ⟨Nat.le_of_ble_eq_true rfl, Nat.le_of_ble_eq_true rfl, Nat.le_of_ble_eq_true rfl, Nat.le_of_ble_eq_true rfl⟩).trans ?_
  refine (vret_v z).trans ?_
  refine (rn_istore (pc := 997) (dd bL_law dL_law_997) (Nat.le_of_ble_eq_true rfl) rfl).trans ?_
  refine (rn_aload_n (pc := 999) (dd bL_law dL_law_999) rfl).trans ?_
  refine (rn_aload_n (pc := 1000) (dd bL_law dL_law_1000) rfl).trans ?_
  refine (rn_iload (pc := 1001) (dd bL_law dL_law_1001) rfl).trans ?_
  refine (rn_iconst (pc := 1003) (dd bL_law dL_law_1003) (by decide)).trans ?_
  refine (rg_iadd (pc := 1004) (dd bL_law dL_law_1004) (by omega) (by omega)).trans ?_
  refine (rl_iaload (n := Ln) (pc := 1005) (dd bL_law dL_law_1005) ((ks.1 0 0).trans w.1) ((ks.1 1 0).trans w.2.1) (by omega) (by omega) (v := h 2 2 (i + 1)) (ks.1 2 _)).trans ?_
  refine (rn_aload_n (pc := 1006) (dd bL_law dL_law_1006) rfl).trans ?_
  refine (rn_iload (pc := 1007) (dd bL_law dL_law_1007) rfl).trans ?_
  refine (rn_iconst (pc := 1009) (dd bL_law dL_law_1009) (by decide)).trans ?_
  refine (rg_iadd (pc := 1010) (dd bL_law dL_law_1010) (by omega) (by omega)).trans ?_
  refine (rl_iaload (n := Ln) (pc := 1011) (dd bL_law dL_law_1011) ((ks.1 0 0).trans w.1) ((ks.1 1 0).trans w.2.1) (by omega) (by omega) (v := h 2 2 (i + 2)) (ks.1 2 _)).trans ?_
  refine (rn_aload_n (pc := 1012) (dd bL_law dL_law_1012) rfl).trans ?_
  refine (rn_iload (pc := 1013) (dd bL_law dL_law_1013) rfl).trans ?_
  refine (rn_iconst (pc := 1015) (dd bL_law dL_law_1015) (by decide)).trans ?_
  refine (rg_iadd (pc := 1016) (dd bL_law dL_law_1016) (by omega) (by omega)).trans ?_
  refine (rl_iaload (n := Ln) (pc := 1017) (dd bL_law dL_law_1017) ((ks.1 0 0).trans w.1) ((ks.1 1 0).trans w.2.1) (by omega) (by omega) (v := h 2 2 (i + 3)) (ks.1 2 _)).trans ?_
  refine (rn_aload_n (pc := 1018) (dd bL_law dL_law_1018) rfl).trans ?_
  refine (rn_iload (pc := 1019) (dd bL_law dL_law_1019) rfl).trans ?_
  refine (rn_iconst (pc := 1021) (dd bL_law dL_law_1021) (by decide)).trans ?_
  refine (rg_iadd (pc := 1022) (dd bL_law dL_law_1022) (by omega) (by omega)).trans ?_
  refine (rl_iaload (n := Ln) (pc := 1023) (dd bL_law dL_law_1023) ((ks.1 0 0).trans w.1) ((ks.1 1 0).trans w.2.1) (by omega) (by omega) (v := h 2 2 (i + 4)) (ks.1 2 _)).trans ?_
  refine (rn_i2l (pc := 1024) (dd bL_law dL_law_1024)).trans ?_
  refine (rn_bipush (pc := 1025) (dd bL_law dL_law_1025) (by decide)).trans ?_
  refine (rg_lshl (pc := 1027) (dd bL_law dL_law_1027)).trans ?_
  refine (rn_aload_n (pc := 1028) (dd bL_law dL_law_1028) rfl).trans ?_
  refine (rn_iload (pc := 1029) (dd bL_law dL_law_1029) rfl).trans ?_
  refine (rn_iconst (pc := 1031) (dd bL_law dL_law_1031) (by decide)).trans ?_
  refine (rg_iadd (pc := 1032) (dd bL_law dL_law_1032) (by omega) (by omega)).trans ?_
  refine (rl_iaload (n := Ln) (pc := 1033) (dd bL_law dL_law_1033) ((ks.1 0 0).trans w.1) ((ks.1 1 0).trans w.2.1) (by omega) (by omega) (v := h 2 2 (i + 5)) (ks.1 2 _)).trans ?_
  refine (rn_i2l (pc := 1034) (dd bL_law dL_law_1034)).trans ?_
  refine (rn_ldc2_w (pc := 1035) (dd bL_law dL_law_1035) (z := 4294967295) rfl).trans ?_
  refine (rg_land (pc := 1038) (dd bL_law dL_law_1038)).trans ?_
  refine (rg_lor (pc := 1039) (dd bL_law dL_law_1039)).trans ?_
  refine (rg_virtual (pc := 1040) (dd bL_law dL_law_1040) rfl rfl (by decide) (kc := 34) rfl s2 (as := [(1, 282), (0, h 2 2 (i + 1)), (0, h 2 2 (i + 2)), (0, h 2 2 (i + 3)), (2, blor (blshl (h 2 2 (i + 4)) (32)) (bland (h 2 2 (i + 5)) (4294967295)))]) rfl ⟨Nat.le_of_ble_eq_true rfl, Nat.le_of_ble_eq_true rfl, Nat.le_of_ble_eq_true rfl, Nat.le_of_ble_eq_true rfl⟩).trans ?_
  refine (vret_v y).trans ?_
  refine (rn_istore (pc := 1043) (dd bL_law dL_law_1043) (Nat.le_of_ble_eq_true rfl) rfl).trans ?_
  refine (rn_aload_n (pc := 1045) (dd bL_law dL_law_1045) rfl).trans ?_
  refine (rg_virtual (pc := 1046) (dd bL_law dL_law_1046) rfl rfl (by decide) (kc := 34) rfl s3.1 (as := [(1, 282)]) rfl ⟨Nat.le_of_ble_eq_true rfl, Nat.le_of_ble_eq_true rfl, Nat.le_of_ble_eq_true rfl, Nat.le_of_ble_eq_true rfl⟩).trans ?_
  refine (vret_v ((spX13_thrown s3).trans (by rw [t]))).trans ?_
  refine (rn_iload (pc := 1049) (dd bL_law dL_law_1049) rfl).trans ?_
  refine (rn_icmp_eq (t := 1056) (pc := 1051) (dd bL_law dL_law_1051) rfl).trans ((if_pos rfl).trans ?_)
  refine (rn_iload (pc := 1056) (dd bL_law dL_law_1056) rfl).trans ?_
  refine (rg_if_ne (t := 1073) (pc := 1058) (dd bL_law dL_law_1058) rfl).trans ?_
  by_cases kz : k = 0
  · rw [if_pos kz]
    have f := f kz
    refine (rn_aload_n (pc := 1061) (dd bL_law dL_law_1061) rfl).trans ?_
    refine (rn_iconst (pc := 1062) (dd bL_law dL_law_1062) (by decide)).trans ?_
    refine (rg_laload (n := 1) (pc := 1063) (dd bL_law dL_law_1063) (kk.2.1.trans w.2.2.1) (kk.2.2.1.trans w.2.2.2.1) (by decide) (by decide) ((rz 2 338 0 (by decide)).trans f)).trans ?_
    refine (rn_iload (pc := 1064) (dd bL_law dL_law_1064) rfl).trans ?_
    refine (rn_i2l (pc := 1066) (dd bL_law dL_law_1066)).trans ?_
    refine (rl_lcmp (pc := 1067) (dd bL_law dL_law_1067) rfl).trans ?_
    refine (rn_if_eq (t := 1073) (pc := 1068) (dd bL_law dL_law_1068) rfl).trans ((if_pos rfl).trans ?_)
    refine (rn_goto (t := 2982) (pc := 1073) (dd bL_law dL_law_1073) rfl).trans ?_
    refine (rg_iinc (pc := 2982) (dd bL_law dL_law_2982) (x := i) rfl (Nat.le_of_ble_eq_true rfl) (by omega) (by omega) rfl).trans ?_
    exact rn_goto (t := 23) (pc := 2985) (dd bL_law dL_law_2985) rfl
  · rw [if_neg kz]
    refine (rn_goto (t := 2982) (pc := 1073) (dd bL_law dL_law_1073) rfl).trans ?_
    refine (rg_iinc (pc := 2982) (dd bL_law dL_law_2982) (x := i) rfl (Nat.le_of_ble_eq_true rfl) (by omega) (by omega) rfl).trans ?_
    exact rn_goto (t := 23) (pc := 2985) (dd bL_law dL_law_2985) rfl
theorem LC_12 {n i Ln : Int} {h : vH} {v5 v6 : vv} (J : JN n h) (hn : 0 ≤ n ∧ n ≤ 9000) (w : lwH h Ln) (hi : 0 ≤ i ∧ i + 6 ≤ Ln ∧ Ln ≤ 3072) : lwN n h i (vrun mL_law 1076 [(1, 2), (1, 3), (1, 282), (1, 338), (0, i), v5, v6] [] h) := by
  obtain ⟨o, h2, k, r, z, y, t, f, j2, ks, rz⟩ := Wr_dropVirtual (x1 := h 2 2 (i + 1)) (x2 := h 2 2 (i + 2)) J w.2.2.1 w.2.2.2.1
  have s2 : o 0 282 0 = 34 := ks.2.2.2.1.trans J.2.1.1.1.1.1.1
  have s3 : shModel h2 := j2.2.1.1.1.1.1
  have kk := kS_rZ ks rz J j2
  refine ⟨h2, (0, k), (0, r), ?_, j2, kk⟩
  refine (rn_aload_n (pc := 1076) (dd bL_law dL_law_1076) rfl).trans ?_
  refine (rn_aload_n (pc := 1077) (dd bL_law dL_law_1077) rfl).trans ?_
  refine (rn_iload (pc := 1078) (dd bL_law dL_law_1078) rfl).trans ?_
  refine (rn_iconst (pc := 1080) (dd bL_law dL_law_1080) (by decide)).trans ?_
  refine (rg_iadd (pc := 1081) (dd bL_law dL_law_1081) (by omega) (by omega)).trans ?_
  refine (rl_iaload (n := Ln) (pc := 1082) (dd bL_law dL_law_1082) w.1 w.2.1 (by omega) (by omega) (v := h 2 2 (i + 1)) rfl).trans ?_
  refine (rn_aload_n (pc := 1083) (dd bL_law dL_law_1083) rfl).trans ?_
  refine (rn_iload (pc := 1084) (dd bL_law dL_law_1084) rfl).trans ?_
  refine (rn_iconst (pc := 1086) (dd bL_law dL_law_1086) (by decide)).trans ?_
  refine (rg_iadd (pc := 1087) (dd bL_law dL_law_1087) (by omega) (by omega)).trans ?_
  refine (rl_iaload (n := Ln) (pc := 1088) (dd bL_law dL_law_1088) w.1 w.2.1 (by omega) (by omega) (v := h 2 2 (i + 2)) rfl).trans ?_
  refine (rn_aload_n (pc := 1089) (dd bL_law dL_law_1089) rfl).trans ?_
  refine (rg_static (pc := 1090) (dd bL_law dL_law_1090) rfl (by decide) (Nat.le_of_ble_eq_true rfl) (as := [(1, 3), (0, h 2 2 (i + 1)), (0, h 2 2 (i + 2)), (1, 338)]) rfl rfl ⟨Nat.le_of_ble_eq_true rfl, Nat.le_of_ble_eq_true rfl, Nat.le_of_ble_eq_true rfl, Nat.le_of_ble_eq_true rfl⟩).trans ?_
  refine (vret_v z).trans ?_
  refine (rn_istore (pc := 1093) (dd bL_law dL_law_1093) (Nat.le_of_ble_eq_true rfl) rfl).trans ?_
  refine (rn_aload_n (pc := 1095) (dd bL_law dL_law_1095) rfl).trans ?_
  refine (rn_aload_n (pc := 1096) (dd bL_law dL_law_1096) rfl).trans ?_
  refine (rn_iload (pc := 1097) (dd bL_law dL_law_1097) rfl).trans ?_
  refine (rn_iconst (pc := 1099) (dd bL_law dL_law_1099) (by decide)).trans ?_
  refine (rg_iadd (pc := 1100) (dd bL_law dL_law_1100) (by omega) (by omega)).trans ?_
  refine (rl_iaload (n := Ln) (pc := 1101) (dd bL_law dL_law_1101) ((ks.1 0 0).trans w.1) ((ks.1 1 0).trans w.2.1) (by omega) (by omega) (v := h 2 2 (i + 1)) (ks.1 2 _)).trans ?_
  refine (rn_aload_n (pc := 1102) (dd bL_law dL_law_1102) rfl).trans ?_
  refine (rn_iload (pc := 1103) (dd bL_law dL_law_1103) rfl).trans ?_
  refine (rn_iconst (pc := 1105) (dd bL_law dL_law_1105) (by decide)).trans ?_
  refine (rg_iadd (pc := 1106) (dd bL_law dL_law_1106) (by omega) (by omega)).trans ?_
  refine (rl_iaload (n := Ln) (pc := 1107) (dd bL_law dL_law_1107) ((ks.1 0 0).trans w.1) ((ks.1 1 0).trans w.2.1) (by omega) (by omega) (v := h 2 2 (i + 2)) (ks.1 2 _)).trans ?_
  refine (rg_virtual (pc := 1108) (dd bL_law dL_law_1108) rfl rfl (by decide) (kc := 34) rfl s2 (as := [(1, 282), (0, h 2 2 (i + 1)), (0, h 2 2 (i + 2))]) rfl ⟨Nat.le_of_ble_eq_true rfl, Nat.le_of_ble_eq_true rfl, Nat.le_of_ble_eq_true rfl, Nat.le_of_ble_eq_true rfl⟩).trans ?_
  refine (vret_v y).trans ?_
  refine (rn_istore (pc := 1111) (dd bL_law dL_law_1111) (Nat.le_of_ble_eq_true rfl) rfl).trans ?_
  refine (rn_aload_n (pc := 1113) (dd bL_law dL_law_1113) rfl).trans ?_
  refine (rg_virtual (pc := 1114) (dd bL_law dL_law_1114) rfl rfl (by decide) (kc := 34) rfl s3.1 (as := [(1, 282)]) rfl ⟨Nat.le_of_ble_eq_true rfl, Nat.le_of_ble_eq_true rfl, Nat.le_of_ble_eq_true rfl, Nat.le_of_ble_eq_true rfl⟩).trans ?_
  refine (vret_v ((spX13_thrown s3).trans (by rw [t]))).trans ?_
  refine (rn_iload (pc := 1117) (dd bL_law dL_law_1117) rfl).trans ?_
  refine (rn_icmp_eq (t := 1124) (pc := 1119) (dd bL_law dL_law_1119) rfl).trans ((if_pos rfl).trans ?_)
  refine (rn_iload (pc := 1124) (dd bL_law dL_law_1124) rfl).trans ?_
  refine (rg_if_ne (t := 1141) (pc := 1126) (dd bL_law dL_law_1126) rfl).trans ?_
  by_cases kz : k = 0
  · rw [if_pos kz]
    have f := f kz
    refine (rn_aload_n (pc := 1129) (dd bL_law dL_law_1129) rfl).trans ?_
    refine (rn_iconst (pc := 1130) (dd bL_law dL_law_1130) (by decide)).trans ?_
    refine (rg_laload (n := 1) (pc := 1131) (dd bL_law dL_law_1131) (kk.2.1.trans w.2.2.1) (kk.2.2.1.trans w.2.2.2.1) (by decide) (by decide) ((rz 2 338 0 (by decide)).trans f)).trans ?_
    refine (rn_iload (pc := 1132) (dd bL_law dL_law_1132) rfl).trans ?_
    refine (rn_i2l (pc := 1134) (dd bL_law dL_law_1134)).trans ?_
    refine (rl_lcmp (pc := 1135) (dd bL_law dL_law_1135) rfl).trans ?_
    refine (rn_if_eq (t := 1141) (pc := 1136) (dd bL_law dL_law_1136) rfl).trans ((if_pos rfl).trans ?_)
    refine (rn_goto (t := 2982) (pc := 1141) (dd bL_law dL_law_1141) rfl).trans ?_
    refine (rg_iinc (pc := 2982) (dd bL_law dL_law_2982) (x := i) rfl (Nat.le_of_ble_eq_true rfl) (by omega) (by omega) rfl).trans ?_
    exact rn_goto (t := 23) (pc := 2985) (dd bL_law dL_law_2985) rfl
  · rw [if_neg kz]
    refine (rn_goto (t := 2982) (pc := 1141) (dd bL_law dL_law_1141) rfl).trans ?_
    refine (rg_iinc (pc := 2982) (dd bL_law dL_law_2982) (x := i) rfl (Nat.le_of_ble_eq_true rfl) (by omega) (by omega) rfl).trans ?_
    exact rn_goto (t := 23) (pc := 2985) (dd bL_law dL_law_2985) rfl
theorem LC_13 {n i Ln : Int} {h : vH} {v5 v6 : vv} (J : JN n h) (hn : 0 ≤ n ∧ n ≤ 9000) (w : lwH h Ln) (hi : 0 ≤ i ∧ i + 6 ≤ Ln ∧ Ln ≤ 3072) : lwN n h i (vrun mL_law 1144 [(1, 2), (1, 3), (1, 282), (1, 338), (0, i), v5, v6] [] h) := by
  obtain ⟨o, h2, k, r, z, y, t, f, j2, ks, rz⟩ := Wr_addFold (x1 := h 2 2 (i + 1)) (x2 := h 2 2 (i + 2)) (x3 := h 2 2 (i + 3)) J hn w.2.2.1 w.2.2.2.1
  have s2 : o 0 282 0 = 34 := ks.2.2.2.1.trans J.2.1.1.1.1.1.1
  have s3 : shModel h2 := j2.2.1.1.1.1.1
  have kk := kS_rZ ks rz J j2
  refine ⟨h2, (0, k), (0, r), ?_, j2, kk⟩
  refine (rn_aload_n (pc := 1144) (dd bL_law dL_law_1144) rfl).trans ?_
  refine (rn_aload_n (pc := 1145) (dd bL_law dL_law_1145) rfl).trans ?_
  refine (rn_iload (pc := 1146) (dd bL_law dL_law_1146) rfl).trans ?_
  refine (rn_iconst (pc := 1148) (dd bL_law dL_law_1148) (by decide)).trans ?_
  refine (rg_iadd (pc := 1149) (dd bL_law dL_law_1149) (by omega) (by omega)).trans ?_
  refine (rl_iaload (n := Ln) (pc := 1150) (dd bL_law dL_law_1150) w.1 w.2.1 (by omega) (by omega) (v := h 2 2 (i + 1)) rfl).trans ?_
  refine (rn_aload_n (pc := 1151) (dd bL_law dL_law_1151) rfl).trans ?_
  refine (rn_iload (pc := 1152) (dd bL_law dL_law_1152) rfl).trans ?_
  refine (rn_iconst (pc := 1154) (dd bL_law dL_law_1154) (by decide)).trans ?_
  refine (rg_iadd (pc := 1155) (dd bL_law dL_law_1155) (by omega) (by omega)).trans ?_
  refine (rl_iaload (n := Ln) (pc := 1156) (dd bL_law dL_law_1156) w.1 w.2.1 (by omega) (by omega) (v := h 2 2 (i + 2)) rfl).trans ?_
  refine (rn_aload_n (pc := 1157) (dd bL_law dL_law_1157) rfl).trans ?_
  refine (rn_iload (pc := 1158) (dd bL_law dL_law_1158) rfl).trans ?_
  refine (rn_iconst (pc := 1160) (dd bL_law dL_law_1160) (by decide)).trans ?_
  refine (rg_iadd (pc := 1161) (dd bL_law dL_law_1161) (by omega) (by omega)).trans ?_
  refine (rl_iaload (n := Ln) (pc := 1162) (dd bL_law dL_law_1162) w.1 w.2.1 (by omega) (by omega) (v := h 2 2 (i + 3)) rfl).trans ?_
  refine (rn_aload_n (pc := 1163) (dd bL_law dL_law_1163) rfl).trans ?_
  refine (rg_static (pc := 1164) (dd bL_law dL_law_1164) rfl (by decide) (Nat.le_of_ble_eq_true rfl) (as := [(1, 3), (0, h 2 2 (i + 1)), (0, h 2 2 (i + 2)), (0, h 2 2 (i + 3)), (1, 338)]) rfl rfl ⟨Nat.le_of_ble_eq_true rfl, Nat.le_of_ble_eq_true rfl, Nat.le_of_ble_eq_true rfl, Nat.le_of_ble_eq_true rfl⟩).trans ?_
  refine (vret_v z).trans ?_
  refine (rn_istore (pc := 1167) (dd bL_law dL_law_1167) (Nat.le_of_ble_eq_true rfl) rfl).trans ?_
  refine (rn_aload_n (pc := 1169) (dd bL_law dL_law_1169) rfl).trans ?_
  refine (rn_aload_n (pc := 1170) (dd bL_law dL_law_1170) rfl).trans ?_
  refine (rn_iload (pc := 1171) (dd bL_law dL_law_1171) rfl).trans ?_
  refine (rn_iconst (pc := 1173) (dd bL_law dL_law_1173) (by decide)).trans ?_
  refine (rg_iadd (pc := 1174) (dd bL_law dL_law_1174) (by omega) (by omega)).trans ?_
  refine (rl_iaload (n := Ln) (pc := 1175) (dd bL_law dL_law_1175) ((ks.1 0 0).trans w.1) ((ks.1 1 0).trans w.2.1) (by omega) (by omega) (v := h 2 2 (i + 1)) (ks.1 2 _)).trans ?_
  refine (rn_aload_n (pc := 1176) (dd bL_law dL_law_1176) rfl).trans ?_
  refine (rn_iload (pc := 1177) (dd bL_law dL_law_1177) rfl).trans ?_
  refine (rn_iconst (pc := 1179) (dd bL_law dL_law_1179) (by decide)).trans ?_
  refine (rg_iadd (pc := 1180) (dd bL_law dL_law_1180) (by omega) (by omega)).trans ?_
  refine (rl_iaload (n := Ln) (pc := 1181) (dd bL_law dL_law_1181) ((ks.1 0 0).trans w.1) ((ks.1 1 0).trans w.2.1) (by omega) (by omega) (v := h 2 2 (i + 2)) (ks.1 2 _)).trans ?_
  refine (rn_aload_n (pc := 1182) (dd bL_law dL_law_1182) rfl).trans ?_
  refine (rn_iload (pc := 1183) (dd bL_law dL_law_1183) rfl).trans ?_
  refine (rn_iconst (pc := 1185) (dd bL_law dL_law_1185) (by decide)).trans ?_
  refine (rg_iadd (pc := 1186) (dd bL_law dL_law_1186) (by omega) (by omega)).trans ?_
  refine (rl_iaload (n := Ln) (pc := 1187) (dd bL_law dL_law_1187) ((ks.1 0 0).trans w.1) ((ks.1 1 0).trans w.2.1) (by omega) (by omega) (v := h 2 2 (i + 3)) (ks.1 2 _)).trans ?_
  refine (rg_virtual (pc := 1188) (dd bL_law dL_law_1188) rfl rfl (by decide) (kc := 34) rfl s2 (as := [(1, 282), (0, h 2 2 (i + 1)), (0, h 2 2 (i + 2)), (0, h 2 2 (i + 3))]) rfl ⟨Nat.le_of_ble_eq_true rfl, Nat.le_of_ble_eq_true rfl, Nat.le_of_ble_eq_true rfl, Nat.le_of_ble_eq_true rfl⟩).trans ?_
  refine (vret_v y).trans ?_
  refine (rn_istore (pc := 1191) (dd bL_law dL_law_1191) (Nat.le_of_ble_eq_true rfl) rfl).trans ?_
  refine (rn_aload_n (pc := 1193) (dd bL_law dL_law_1193) rfl).trans ?_
  refine (rg_virtual (pc := 1194) (dd bL_law dL_law_1194) rfl rfl (by decide) (kc := 34) rfl s3.1 (as := [(1, 282)]) rfl ⟨Nat.le_of_ble_eq_true rfl, Nat.le_of_ble_eq_true rfl, Nat.le_of_ble_eq_true rfl, Nat.le_of_ble_eq_true rfl⟩).trans ?_
  refine (vret_v ((spX13_thrown s3).trans (by rw [t]))).trans ?_
  refine (rn_iload (pc := 1197) (dd bL_law dL_law_1197) rfl).trans ?_
  refine (rn_icmp_eq (t := 1204) (pc := 1199) (dd bL_law dL_law_1199) rfl).trans ((if_pos rfl).trans ?_)
  refine (rn_iload (pc := 1204) (dd bL_law dL_law_1204) rfl).trans ?_
  refine (rg_if_ne (t := 1221) (pc := 1206) (dd bL_law dL_law_1206) rfl).trans ?_
  by_cases kz : k = 0
  · rw [if_pos kz]
    have f := f kz
    refine (rn_aload_n (pc := 1209) (dd bL_law dL_law_1209) rfl).trans ?_
    refine (rn_iconst (pc := 1210) (dd bL_law dL_law_1210) (by decide)).trans ?_
    refine (rg_laload (n := 1) (pc := 1211) (dd bL_law dL_law_1211) (kk.2.1.trans w.2.2.1) (kk.2.2.1.trans w.2.2.2.1) (by decide) (by decide) ((rz 2 338 0 (by decide)).trans f)).trans ?_
    refine (rn_iload (pc := 1212) (dd bL_law dL_law_1212) rfl).trans ?_
    refine (rn_i2l (pc := 1214) (dd bL_law dL_law_1214)).trans ?_
    refine (rl_lcmp (pc := 1215) (dd bL_law dL_law_1215) rfl).trans ?_
    refine (rn_if_eq (t := 1221) (pc := 1216) (dd bL_law dL_law_1216) rfl).trans ((if_pos rfl).trans ?_)
    refine (rn_goto (t := 2982) (pc := 1221) (dd bL_law dL_law_1221) rfl).trans ?_
    refine (rg_iinc (pc := 2982) (dd bL_law dL_law_2982) (x := i) rfl (Nat.le_of_ble_eq_true rfl) (by omega) (by omega) rfl).trans ?_
    exact rn_goto (t := 23) (pc := 2985) (dd bL_law dL_law_2985) rfl
  · rw [if_neg kz]
    refine (rn_goto (t := 2982) (pc := 1221) (dd bL_law dL_law_1221) rfl).trans ?_
    refine (rg_iinc (pc := 2982) (dd bL_law dL_law_2982) (x := i) rfl (Nat.le_of_ble_eq_true rfl) (by omega) (by omega) rfl).trans ?_
    exact rn_goto (t := 23) (pc := 2985) (dd bL_law dL_law_2985) rfl
theorem LC_14 {n i Ln : Int} {h : vH} {v5 v6 : vv} (J : JN n h) (hn : 0 ≤ n ∧ n ≤ 9000) (w : lwH h Ln) (hi : 0 ≤ i ∧ i + 6 ≤ Ln ∧ Ln ≤ 3072) : lwN n h i (vrun mL_law 1224 [(1, 2), (1, 3), (1, 282), (1, 338), (0, i), v5, v6] [] h) := by
  obtain ⟨o, h2, k, r, z, y, t, f, j2, ks, rz⟩ := Wr_setClosed (x1 := h 2 2 (i + 1)) (x2 := h 2 2 (i + 2)) (x3 := (if h 2 2 (i + 3) = 0 then 0 else 1)) J (by split <;> omega) w.2.2.1 w.2.2.2.1
  have s2 : o 0 282 0 = 34 := ks.2.2.2.1.trans J.2.1.1.1.1.1.1
  have s3 : shModel h2 := j2.2.1.1.1.1.1
  have kk := kS_rZ ks rz J j2
  refine ⟨h2, (0, k), (0, r), ?_, j2, kk⟩
  refine (rn_aload_n (pc := 1224) (dd bL_law dL_law_1224) rfl).trans ?_
  refine (rn_aload_n (pc := 1225) (dd bL_law dL_law_1225) rfl).trans ?_
  refine (rn_iload (pc := 1226) (dd bL_law dL_law_1226) rfl).trans ?_
  refine (rn_iconst (pc := 1228) (dd bL_law dL_law_1228) (by decide)).trans ?_
  refine (rg_iadd (pc := 1229) (dd bL_law dL_law_1229) (by omega) (by omega)).trans ?_
  refine (rl_iaload (n := Ln) (pc := 1230) (dd bL_law dL_law_1230) w.1 w.2.1 (by omega) (by omega) (v := h 2 2 (i + 1)) rfl).trans ?_
  refine (rn_aload_n (pc := 1231) (dd bL_law dL_law_1231) rfl).trans ?_
  refine (rn_iload (pc := 1232) (dd bL_law dL_law_1232) rfl).trans ?_
  refine (rn_iconst (pc := 1234) (dd bL_law dL_law_1234) (by decide)).trans ?_
  refine (rg_iadd (pc := 1235) (dd bL_law dL_law_1235) (by omega) (by omega)).trans ?_
  refine (rl_iaload (n := Ln) (pc := 1236) (dd bL_law dL_law_1236) w.1 w.2.1 (by omega) (by omega) (v := h 2 2 (i + 2)) rfl).trans ?_
  refine (rn_aload_n (pc := 1237) (dd bL_law dL_law_1237) rfl).trans ?_
  refine (rn_iload (pc := 1238) (dd bL_law dL_law_1238) rfl).trans ?_
  refine (rn_iconst (pc := 1240) (dd bL_law dL_law_1240) (by decide)).trans ?_
  refine (rg_iadd (pc := 1241) (dd bL_law dL_law_1241) (by omega) (by omega)).trans ?_
  refine (rl_iaload (n := Ln) (pc := 1242) (dd bL_law dL_law_1242) w.1 w.2.1 (by omega) (by omega) (v := h 2 2 (i + 3)) rfl).trans ?_
  refine Eq.trans (b := vrun mL_law 1251 [(1, 2), (1, 3), (1, 282), (1, 338), (0, i), v5, v6] ((0, (if h 2 2 (i + 3) = 0 then 0 else 1)) :: [(0, h 2 2 (i + 2)), (0, h 2 2 (i + 1)), (1, 3)]) h) ?_ ?_
  · refine (rn_if_eq (t := 1250) (pc := 1243) (dd bL_law dL_law_1243) rfl).trans ?_
    by_cases c : h 2 2 (i + 3) = 0
    · rw [if_pos c, if_pos c]; exact rn_iconst (pc := 1250) (dd bL_law dL_law_1250) (by decide)
    · rw [if_neg c, if_neg c]; exact (rn_iconst (pc := 1246) (dd bL_law dL_law_1246) (by decide)).trans (rn_goto (t := 1251) (pc := 1247) (dd bL_law dL_law_1247) rfl)
  refine (rn_aload_n (pc := 1251) (dd bL_law dL_law_1251) rfl).trans ?_
  refine (rg_static (pc := 1252) (dd bL_law dL_law_1252) rfl (by decide) (Nat.le_of_ble_eq_true rfl) (as := [(1, 3), (0, h 2 2 (i + 1)), (0, h 2 2 (i + 2)), (0, (if h 2 2 (i + 3) = 0 then 0 else 1)), (1, 338)]) rfl rfl ⟨Nat.le_of_ble_eq_true rfl, Nat.le_of_ble_eq_true rfl, Nat.le_of_ble_eq_true rfl, Nat.le_of_ble_eq_true rfl⟩).trans ?_
  refine (vret_v z).trans ?_
  refine (rn_istore (pc := 1255) (dd bL_law dL_law_1255) (Nat.le_of_ble_eq_true rfl) rfl).trans ?_
  refine (rn_aload_n (pc := 1257) (dd bL_law dL_law_1257) rfl).trans ?_
  refine (rn_aload_n (pc := 1258) (dd bL_law dL_law_1258) rfl).trans ?_
  refine (rn_iload (pc := 1259) (dd bL_law dL_law_1259) rfl).trans ?_
  refine (rn_iconst (pc := 1261) (dd bL_law dL_law_1261) (by decide)).trans ?_
  refine (rg_iadd (pc := 1262) (dd bL_law dL_law_1262) (by omega) (by omega)).trans ?_
  refine (rl_iaload (n := Ln) (pc := 1263) (dd bL_law dL_law_1263) ((ks.1 0 0).trans w.1) ((ks.1 1 0).trans w.2.1) (by omega) (by omega) (v := h 2 2 (i + 1)) (ks.1 2 _)).trans ?_
  refine (rn_aload_n (pc := 1264) (dd bL_law dL_law_1264) rfl).trans ?_
  refine (rn_iload (pc := 1265) (dd bL_law dL_law_1265) rfl).trans ?_
  refine (rn_iconst (pc := 1267) (dd bL_law dL_law_1267) (by decide)).trans ?_
  refine (rg_iadd (pc := 1268) (dd bL_law dL_law_1268) (by omega) (by omega)).trans ?_
  refine (rl_iaload (n := Ln) (pc := 1269) (dd bL_law dL_law_1269) ((ks.1 0 0).trans w.1) ((ks.1 1 0).trans w.2.1) (by omega) (by omega) (v := h 2 2 (i + 2)) (ks.1 2 _)).trans ?_
  refine (rn_aload_n (pc := 1270) (dd bL_law dL_law_1270) rfl).trans ?_
  refine (rn_iload (pc := 1271) (dd bL_law dL_law_1271) rfl).trans ?_
  refine (rn_iconst (pc := 1273) (dd bL_law dL_law_1273) (by decide)).trans ?_
  refine (rg_iadd (pc := 1274) (dd bL_law dL_law_1274) (by omega) (by omega)).trans ?_
  refine (rl_iaload (n := Ln) (pc := 1275) (dd bL_law dL_law_1275) ((ks.1 0 0).trans w.1) ((ks.1 1 0).trans w.2.1) (by omega) (by omega) (v := h 2 2 (i + 3)) (ks.1 2 _)).trans ?_
  refine Eq.trans (b := vrun mL_law 1284 [(1, 2), (1, 3), (1, 282), (1, 338), (0, i), (0, k), v6] ((0, (if h 2 2 (i + 3) = 0 then 0 else 1)) :: [(0, h 2 2 (i + 2)), (0, h 2 2 (i + 1)), (1, 282)]) o) ?_ ?_
  · refine (rn_if_eq (t := 1283) (pc := 1276) (dd bL_law dL_law_1276) rfl).trans ?_
    by_cases c : h 2 2 (i + 3) = 0
    · rw [if_pos c, if_pos c]; exact rn_iconst (pc := 1283) (dd bL_law dL_law_1283) (by decide)
    · rw [if_neg c, if_neg c]; exact (rn_iconst (pc := 1279) (dd bL_law dL_law_1279) (by decide)).trans (rn_goto (t := 1284) (pc := 1280) (dd bL_law dL_law_1280) rfl)
  refine (rg_virtual (pc := 1284) (dd bL_law dL_law_1284) rfl rfl (by decide) (kc := 34) rfl s2 (as := [(1, 282), (0, h 2 2 (i + 1)), (0, h 2 2 (i + 2)), (0, (if h 2 2 (i + 3) = 0 then 0 else 1))]) rfl ⟨Nat.le_of_ble_eq_true rfl, Nat.le_of_ble_eq_true rfl, Nat.le_of_ble_eq_true rfl, Nat.le_of_ble_eq_true rfl⟩).trans ?_
  refine (vret_v y).trans ?_
  refine (rn_istore (pc := 1287) (dd bL_law dL_law_1287) (Nat.le_of_ble_eq_true rfl) rfl).trans ?_
  refine (rn_aload_n (pc := 1289) (dd bL_law dL_law_1289) rfl).trans ?_
  refine (rg_virtual (pc := 1290) (dd bL_law dL_law_1290) rfl rfl (by decide) (kc := 34) rfl s3.1 (as := [(1, 282)]) rfl ⟨Nat.le_of_ble_eq_true rfl, Nat.le_of_ble_eq_true rfl, Nat.le_of_ble_eq_true rfl, Nat.le_of_ble_eq_true rfl⟩).trans ?_
  refine (vret_v ((spX13_thrown s3).trans (by rw [t]))).trans ?_
  refine (rn_iload (pc := 1293) (dd bL_law dL_law_1293) rfl).trans ?_
  refine (rn_icmp_eq (t := 1300) (pc := 1295) (dd bL_law dL_law_1295) rfl).trans ((if_pos rfl).trans ?_)
  refine (rn_iload (pc := 1300) (dd bL_law dL_law_1300) rfl).trans ?_
  refine (rg_if_ne (t := 1324) (pc := 1302) (dd bL_law dL_law_1302) rfl).trans ?_
  by_cases kz : k = 0
  · rw [if_pos kz]
    have f := f kz
    refine (rn_aload_n (pc := 1305) (dd bL_law dL_law_1305) rfl).trans ?_
    refine (rn_iconst (pc := 1306) (dd bL_law dL_law_1306) (by decide)).trans ?_
    refine (rg_laload (n := 1) (pc := 1307) (dd bL_law dL_law_1307) (kk.2.1.trans w.2.2.1) (kk.2.2.1.trans w.2.2.2.1) (by decide) (by decide) ((rz 2 338 0 (by decide)).trans f)).trans ?_
    refine (rn_iload (pc := 1308) (dd bL_law dL_law_1308) rfl).trans ?_
    refine (rn_if_eq (t := 1317) (pc := 1310) (dd bL_law dL_law_1310) rfl).trans ?_
    by_cases c : r = 0
    · rw [if_pos c]
      refine (rn_lconst (pc := 1317) (dd bL_law dL_law_1317)).trans ?_
      refine (rl_lcmp (pc := 1318) (dd bL_law dL_law_1318) (by first | exact if_pos c | exact if_neg c)).trans ?_
      refine (rn_if_eq (t := 1324) (pc := 1319) (dd bL_law dL_law_1319) rfl).trans ((if_pos rfl).trans ?_)
      refine (rn_goto (t := 2982) (pc := 1324) (dd bL_law dL_law_1324) rfl).trans ?_
      refine (rg_iinc (pc := 2982) (dd bL_law dL_law_2982) (x := i) rfl (Nat.le_of_ble_eq_true rfl) (by omega) (by omega) rfl).trans ?_
      exact rn_goto (t := 23) (pc := 2985) (dd bL_law dL_law_2985) rfl
    · rw [if_neg c]
      refine (rn_lconst (pc := 1313) (dd bL_law dL_law_1313)).trans ?_
      refine (rn_goto (t := 1318) (pc := 1314) (dd bL_law dL_law_1314) rfl).trans ?_
      refine (rl_lcmp (pc := 1318) (dd bL_law dL_law_1318) (by first | exact if_pos c | exact if_neg c)).trans ?_
      refine (rn_if_eq (t := 1324) (pc := 1319) (dd bL_law dL_law_1319) rfl).trans ((if_pos rfl).trans ?_)
      refine (rn_goto (t := 2982) (pc := 1324) (dd bL_law dL_law_1324) rfl).trans ?_
      refine (rg_iinc (pc := 2982) (dd bL_law dL_law_2982) (x := i) rfl (Nat.le_of_ble_eq_true rfl) (by omega) (by omega) rfl).trans ?_
      exact rn_goto (t := 23) (pc := 2985) (dd bL_law dL_law_2985) rfl
  · rw [if_neg kz]
    refine (rn_goto (t := 2982) (pc := 1324) (dd bL_law dL_law_1324) rfl).trans ?_
    refine (rg_iinc (pc := 2982) (dd bL_law dL_law_2982) (x := i) rfl (Nat.le_of_ble_eq_true rfl) (by omega) (by omega) rfl).trans ?_
    exact rn_goto (t := 23) (pc := 2985) (dd bL_law dL_law_2985) rfl
theorem LC_15 {n i Ln : Int} {h : vH} {v5 v6 : vv} (J : JN n h) (hn : 0 ≤ n ∧ n ≤ 9000) (w : lwH h Ln) (hi : 0 ≤ i ∧ i + 6 ≤ Ln ∧ Ln ≤ 3072) : lwN n h i (vrun mL_law 1327 [(1, 2), (1, 3), (1, 282), (1, 338), (0, i), v5, v6] [] h) := by
  obtain ⟨o, h2, k, r, z, y, t, f, j2, ks, rz⟩ := Wr_rows (x1 := h 2 2 (i + 1)) J w.2.2.1 w.2.2.2.1
  have s2 : o 0 282 0 = 34 := ks.2.2.2.1.trans J.2.1.1.1.1.1.1
  have s3 : shModel h2 := j2.2.1.1.1.1.1
  have kk := kS_rZ ks rz J j2
  refine ⟨h2, (0, k), (0, r), ?_, j2, kk⟩
  refine (rn_aload_n (pc := 1327) (dd bL_law dL_law_1327) rfl).trans ?_
  refine (rn_aload_n (pc := 1328) (dd bL_law dL_law_1328) rfl).trans ?_
  refine (rn_iload (pc := 1329) (dd bL_law dL_law_1329) rfl).trans ?_
  refine (rn_iconst (pc := 1331) (dd bL_law dL_law_1331) (by decide)).trans ?_
  refine (rg_iadd (pc := 1332) (dd bL_law dL_law_1332) (by omega) (by omega)).trans ?_
  refine (rl_iaload (n := Ln) (pc := 1333) (dd bL_law dL_law_1333) w.1 w.2.1 (by omega) (by omega) (v := h 2 2 (i + 1)) rfl).trans ?_
  refine (rn_aload_n (pc := 1334) (dd bL_law dL_law_1334) rfl).trans ?_
  refine (rg_static (pc := 1335) (dd bL_law dL_law_1335) rfl (by decide) (Nat.le_of_ble_eq_true rfl) (as := [(1, 3), (0, h 2 2 (i + 1)), (1, 338)]) rfl rfl ⟨Nat.le_of_ble_eq_true rfl, Nat.le_of_ble_eq_true rfl, Nat.le_of_ble_eq_true rfl, Nat.le_of_ble_eq_true rfl⟩).trans ?_
  refine (vret_v z).trans ?_
  refine (rn_istore (pc := 1338) (dd bL_law dL_law_1338) (Nat.le_of_ble_eq_true rfl) rfl).trans ?_
  refine (rn_aload_n (pc := 1340) (dd bL_law dL_law_1340) rfl).trans ?_
  refine (rn_aload_n (pc := 1341) (dd bL_law dL_law_1341) rfl).trans ?_
  refine (rn_iload (pc := 1342) (dd bL_law dL_law_1342) rfl).trans ?_
  refine (rn_iconst (pc := 1344) (dd bL_law dL_law_1344) (by decide)).trans ?_
  refine (rg_iadd (pc := 1345) (dd bL_law dL_law_1345) (by omega) (by omega)).trans ?_
  refine (rl_iaload (n := Ln) (pc := 1346) (dd bL_law dL_law_1346) ((ks.1 0 0).trans w.1) ((ks.1 1 0).trans w.2.1) (by omega) (by omega) (v := h 2 2 (i + 1)) (ks.1 2 _)).trans ?_
  refine (rg_virtual (pc := 1347) (dd bL_law dL_law_1347) rfl rfl (by decide) (kc := 34) rfl s2 (as := [(1, 282), (0, h 2 2 (i + 1))]) rfl ⟨Nat.le_of_ble_eq_true rfl, Nat.le_of_ble_eq_true rfl, Nat.le_of_ble_eq_true rfl, Nat.le_of_ble_eq_true rfl⟩).trans ?_
  refine (vret_v y).trans ?_
  refine (rn_istore (pc := 1350) (dd bL_law dL_law_1350) (Nat.le_of_ble_eq_true rfl) rfl).trans ?_
  refine (rn_aload_n (pc := 1352) (dd bL_law dL_law_1352) rfl).trans ?_
  refine (rg_virtual (pc := 1353) (dd bL_law dL_law_1353) rfl rfl (by decide) (kc := 34) rfl s3.1 (as := [(1, 282)]) rfl ⟨Nat.le_of_ble_eq_true rfl, Nat.le_of_ble_eq_true rfl, Nat.le_of_ble_eq_true rfl, Nat.le_of_ble_eq_true rfl⟩).trans ?_
  refine (vret_v ((spX13_thrown s3).trans (by rw [t]))).trans ?_
  refine (rn_iload (pc := 1356) (dd bL_law dL_law_1356) rfl).trans ?_
  refine (rn_icmp_eq (t := 1363) (pc := 1358) (dd bL_law dL_law_1358) rfl).trans ((if_pos rfl).trans ?_)
  refine (rn_iload (pc := 1363) (dd bL_law dL_law_1363) rfl).trans ?_
  refine (rg_if_ne (t := 1380) (pc := 1365) (dd bL_law dL_law_1365) rfl).trans ?_
  by_cases kz : k = 0
  · rw [if_pos kz]
    have f := f kz
    refine (rn_aload_n (pc := 1368) (dd bL_law dL_law_1368) rfl).trans ?_
    refine (rn_iconst (pc := 1369) (dd bL_law dL_law_1369) (by decide)).trans ?_
    refine (rg_laload (n := 1) (pc := 1370) (dd bL_law dL_law_1370) (kk.2.1.trans w.2.2.1) (kk.2.2.1.trans w.2.2.2.1) (by decide) (by decide) ((rz 2 338 0 (by decide)).trans f)).trans ?_
    refine (rn_iload (pc := 1371) (dd bL_law dL_law_1371) rfl).trans ?_
    refine (rn_i2l (pc := 1373) (dd bL_law dL_law_1373)).trans ?_
    refine (rl_lcmp (pc := 1374) (dd bL_law dL_law_1374) rfl).trans ?_
    refine (rn_if_eq (t := 1380) (pc := 1375) (dd bL_law dL_law_1375) rfl).trans ((if_pos rfl).trans ?_)
    refine (rn_goto (t := 2982) (pc := 1380) (dd bL_law dL_law_1380) rfl).trans ?_
    refine (rg_iinc (pc := 2982) (dd bL_law dL_law_2982) (x := i) rfl (Nat.le_of_ble_eq_true rfl) (by omega) (by omega) rfl).trans ?_
    exact rn_goto (t := 23) (pc := 2985) (dd bL_law dL_law_2985) rfl
  · rw [if_neg kz]
    refine (rn_goto (t := 2982) (pc := 1380) (dd bL_law dL_law_1380) rfl).trans ?_
    refine (rg_iinc (pc := 2982) (dd bL_law dL_law_2982) (x := i) rfl (Nat.le_of_ble_eq_true rfl) (by omega) (by omega) rfl).trans ?_
    exact rn_goto (t := 23) (pc := 2985) (dd bL_law dL_law_2985) rfl
theorem LC_16 {n i Ln : Int} {h : vH} {v5 v6 : vv} (J : JN n h) (hn : 0 ≤ n ∧ n ≤ 9000) (w : lwH h Ln) (hi : 0 ≤ i ∧ i + 6 ≤ Ln ∧ Ln ≤ 3072) : lwN n h i (vrun mL_law 1383 [(1, 2), (1, 3), (1, 282), (1, 338), (0, i), v5, v6] [] h) := by
  obtain ⟨o, h2, k, r, z, y, t, f, j2, ks, rz⟩ := Wr_rowsOf (x1 := h 2 2 (i + 1)) (x2 := h 2 2 (i + 2)) J w.2.2.1 w.2.2.2.1
  have s2 : o 0 282 0 = 34 := ks.2.2.2.1.trans J.2.1.1.1.1.1.1
  have s3 : shModel h2 := j2.2.1.1.1.1.1
  have kk := kS_rZ ks rz J j2
  refine ⟨h2, (0, k), (0, r), ?_, j2, kk⟩
  refine (rn_aload_n (pc := 1383) (dd bL_law dL_law_1383) rfl).trans ?_
  refine (rn_aload_n (pc := 1384) (dd bL_law dL_law_1384) rfl).trans ?_
  refine (rn_iload (pc := 1385) (dd bL_law dL_law_1385) rfl).trans ?_
  refine (rn_iconst (pc := 1387) (dd bL_law dL_law_1387) (by decide)).trans ?_
  refine (rg_iadd (pc := 1388) (dd bL_law dL_law_1388) (by omega) (by omega)).trans ?_
  refine (rl_iaload (n := Ln) (pc := 1389) (dd bL_law dL_law_1389) w.1 w.2.1 (by omega) (by omega) (v := h 2 2 (i + 1)) rfl).trans ?_
  refine (rn_aload_n (pc := 1390) (dd bL_law dL_law_1390) rfl).trans ?_
  refine (rn_iload (pc := 1391) (dd bL_law dL_law_1391) rfl).trans ?_
  refine (rn_iconst (pc := 1393) (dd bL_law dL_law_1393) (by decide)).trans ?_
  refine (rg_iadd (pc := 1394) (dd bL_law dL_law_1394) (by omega) (by omega)).trans ?_
  refine (rl_iaload (n := Ln) (pc := 1395) (dd bL_law dL_law_1395) w.1 w.2.1 (by omega) (by omega) (v := h 2 2 (i + 2)) rfl).trans ?_
  refine (rn_aload_n (pc := 1396) (dd bL_law dL_law_1396) rfl).trans ?_
  refine (rg_static (pc := 1397) (dd bL_law dL_law_1397) rfl (by decide) (Nat.le_of_ble_eq_true rfl) (as := [(1, 3), (0, h 2 2 (i + 1)), (0, h 2 2 (i + 2)), (1, 338)]) rfl rfl ⟨Nat.le_of_ble_eq_true rfl, Nat.le_of_ble_eq_true rfl, Nat.le_of_ble_eq_true rfl, Nat.le_of_ble_eq_true rfl⟩).trans ?_
  refine (vret_v z).trans ?_
  refine (rn_istore (pc := 1400) (dd bL_law dL_law_1400) (Nat.le_of_ble_eq_true rfl) rfl).trans ?_
  refine (rn_aload_n (pc := 1402) (dd bL_law dL_law_1402) rfl).trans ?_
  refine (rn_aload_n (pc := 1403) (dd bL_law dL_law_1403) rfl).trans ?_
  refine (rn_iload (pc := 1404) (dd bL_law dL_law_1404) rfl).trans ?_
  refine (rn_iconst (pc := 1406) (dd bL_law dL_law_1406) (by decide)).trans ?_
  refine (rg_iadd (pc := 1407) (dd bL_law dL_law_1407) (by omega) (by omega)).trans ?_
  refine (rl_iaload (n := Ln) (pc := 1408) (dd bL_law dL_law_1408) ((ks.1 0 0).trans w.1) ((ks.1 1 0).trans w.2.1) (by omega) (by omega) (v := h 2 2 (i + 1)) (ks.1 2 _)).trans ?_
  refine (rn_aload_n (pc := 1409) (dd bL_law dL_law_1409) rfl).trans ?_
  refine (rn_iload (pc := 1410) (dd bL_law dL_law_1410) rfl).trans ?_
  refine (rn_iconst (pc := 1412) (dd bL_law dL_law_1412) (by decide)).trans ?_
  refine (rg_iadd (pc := 1413) (dd bL_law dL_law_1413) (by omega) (by omega)).trans ?_
  refine (rl_iaload (n := Ln) (pc := 1414) (dd bL_law dL_law_1414) ((ks.1 0 0).trans w.1) ((ks.1 1 0).trans w.2.1) (by omega) (by omega) (v := h 2 2 (i + 2)) (ks.1 2 _)).trans ?_
  refine (rg_virtual (pc := 1415) (dd bL_law dL_law_1415) rfl rfl (by decide) (kc := 34) rfl s2 (as := [(1, 282), (0, h 2 2 (i + 1)), (0, h 2 2 (i + 2))]) rfl ⟨Nat.le_of_ble_eq_true rfl, Nat.le_of_ble_eq_true rfl, Nat.le_of_ble_eq_true rfl, Nat.le_of_ble_eq_true rfl⟩).trans ?_
  refine (vret_v y).trans ?_
  refine (rn_istore (pc := 1418) (dd bL_law dL_law_1418) (Nat.le_of_ble_eq_true rfl) rfl).trans ?_
  refine (rn_aload_n (pc := 1420) (dd bL_law dL_law_1420) rfl).trans ?_
  refine (rg_virtual (pc := 1421) (dd bL_law dL_law_1421) rfl rfl (by decide) (kc := 34) rfl s3.1 (as := [(1, 282)]) rfl ⟨Nat.le_of_ble_eq_true rfl, Nat.le_of_ble_eq_true rfl, Nat.le_of_ble_eq_true rfl, Nat.le_of_ble_eq_true rfl⟩).trans ?_
  refine (vret_v ((spX13_thrown s3).trans (by rw [t]))).trans ?_
  refine (rn_iload (pc := 1424) (dd bL_law dL_law_1424) rfl).trans ?_
  refine (rn_icmp_eq (t := 1431) (pc := 1426) (dd bL_law dL_law_1426) rfl).trans ((if_pos rfl).trans ?_)
  refine (rn_iload (pc := 1431) (dd bL_law dL_law_1431) rfl).trans ?_
  refine (rg_if_ne (t := 1448) (pc := 1433) (dd bL_law dL_law_1433) rfl).trans ?_
  by_cases kz : k = 0
  · rw [if_pos kz]
    have f := f kz
    refine (rn_aload_n (pc := 1436) (dd bL_law dL_law_1436) rfl).trans ?_
    refine (rn_iconst (pc := 1437) (dd bL_law dL_law_1437) (by decide)).trans ?_
    refine (rg_laload (n := 1) (pc := 1438) (dd bL_law dL_law_1438) (kk.2.1.trans w.2.2.1) (kk.2.2.1.trans w.2.2.2.1) (by decide) (by decide) ((rz 2 338 0 (by decide)).trans f)).trans ?_
    refine (rn_iload (pc := 1439) (dd bL_law dL_law_1439) rfl).trans ?_
    refine (rn_i2l (pc := 1441) (dd bL_law dL_law_1441)).trans ?_
    refine (rl_lcmp (pc := 1442) (dd bL_law dL_law_1442) rfl).trans ?_
    refine (rn_if_eq (t := 1448) (pc := 1443) (dd bL_law dL_law_1443) rfl).trans ((if_pos rfl).trans ?_)
    refine (rn_goto (t := 2982) (pc := 1448) (dd bL_law dL_law_1448) rfl).trans ?_
    refine (rg_iinc (pc := 2982) (dd bL_law dL_law_2982) (x := i) rfl (Nat.le_of_ble_eq_true rfl) (by omega) (by omega) rfl).trans ?_
    exact rn_goto (t := 23) (pc := 2985) (dd bL_law dL_law_2985) rfl
  · rw [if_neg kz]
    refine (rn_goto (t := 2982) (pc := 1448) (dd bL_law dL_law_1448) rfl).trans ?_
    refine (rg_iinc (pc := 2982) (dd bL_law dL_law_2982) (x := i) rfl (Nat.le_of_ble_eq_true rfl) (by omega) (by omega) rfl).trans ?_
    exact rn_goto (t := 23) (pc := 2985) (dd bL_law dL_law_2985) rfl
theorem LC_17 {n i Ln : Int} {h : vH} {v5 v6 : vv} (J : JN n h) (hn : 0 ≤ n ∧ n ≤ 9000) (w : lwH h Ln) (hi : 0 ≤ i ∧ i + 6 ≤ Ln ∧ Ln ≤ 3072) : lwN n h i (vrun mL_law 1451 [(1, 2), (1, 3), (1, 282), (1, 338), (0, i), v5, v6] [] h) := by
  obtain ⟨o, h2, k, r, z, y, t, f, j2, ks, rz⟩ := Wr_clusters (x1 := h 2 2 (i + 1)) (x2 := h 2 2 (i + 2)) J w.2.2.1 w.2.2.2.1
  have s2 : o 0 282 0 = 34 := ks.2.2.2.1.trans J.2.1.1.1.1.1.1
  have s3 : shModel h2 := j2.2.1.1.1.1.1
  have kk := kS_rZ ks rz J j2
  refine ⟨h2, (0, k), (0, r), ?_, j2, kk⟩
  refine (rn_aload_n (pc := 1451) (dd bL_law dL_law_1451) rfl).trans ?_
  refine (rn_aload_n (pc := 1452) (dd bL_law dL_law_1452) rfl).trans ?_
  refine (rn_iload (pc := 1453) (dd bL_law dL_law_1453) rfl).trans ?_
  refine (rn_iconst (pc := 1455) (dd bL_law dL_law_1455) (by decide)).trans ?_
  refine (rg_iadd (pc := 1456) (dd bL_law dL_law_1456) (by omega) (by omega)).trans ?_
  refine (rl_iaload (n := Ln) (pc := 1457) (dd bL_law dL_law_1457) w.1 w.2.1 (by omega) (by omega) (v := h 2 2 (i + 1)) rfl).trans ?_
  refine (rn_aload_n (pc := 1458) (dd bL_law dL_law_1458) rfl).trans ?_
  refine (rn_iload (pc := 1459) (dd bL_law dL_law_1459) rfl).trans ?_
  refine (rn_iconst (pc := 1461) (dd bL_law dL_law_1461) (by decide)).trans ?_
  refine (rg_iadd (pc := 1462) (dd bL_law dL_law_1462) (by omega) (by omega)).trans ?_
  refine (rl_iaload (n := Ln) (pc := 1463) (dd bL_law dL_law_1463) w.1 w.2.1 (by omega) (by omega) (v := h 2 2 (i + 2)) rfl).trans ?_
  refine (rn_aload_n (pc := 1464) (dd bL_law dL_law_1464) rfl).trans ?_
  refine (rg_static (pc := 1465) (dd bL_law dL_law_1465) rfl (by decide) (Nat.le_of_ble_eq_true rfl) (as := [(1, 3), (0, h 2 2 (i + 1)), (0, h 2 2 (i + 2)), (1, 338)]) rfl rfl ⟨Nat.le_of_ble_eq_true rfl, Nat.le_of_ble_eq_true rfl, Nat.le_of_ble_eq_true rfl, Nat.le_of_ble_eq_true rfl⟩).trans ?_
  refine (vret_v z).trans ?_
  refine (rn_istore (pc := 1468) (dd bL_law dL_law_1468) (Nat.le_of_ble_eq_true rfl) rfl).trans ?_
  refine (rn_aload_n (pc := 1470) (dd bL_law dL_law_1470) rfl).trans ?_
  refine (rn_aload_n (pc := 1471) (dd bL_law dL_law_1471) rfl).trans ?_
  refine (rn_iload (pc := 1472) (dd bL_law dL_law_1472) rfl).trans ?_
  refine (rn_iconst (pc := 1474) (dd bL_law dL_law_1474) (by decide)).trans ?_
  refine (rg_iadd (pc := 1475) (dd bL_law dL_law_1475) (by omega) (by omega)).trans ?_
  refine (rl_iaload (n := Ln) (pc := 1476) (dd bL_law dL_law_1476) ((ks.1 0 0).trans w.1) ((ks.1 1 0).trans w.2.1) (by omega) (by omega) (v := h 2 2 (i + 1)) (ks.1 2 _)).trans ?_
  refine (rn_aload_n (pc := 1477) (dd bL_law dL_law_1477) rfl).trans ?_
  refine (rn_iload (pc := 1478) (dd bL_law dL_law_1478) rfl).trans ?_
  refine (rn_iconst (pc := 1480) (dd bL_law dL_law_1480) (by decide)).trans ?_
  refine (rg_iadd (pc := 1481) (dd bL_law dL_law_1481) (by omega) (by omega)).trans ?_
  refine (rl_iaload (n := Ln) (pc := 1482) (dd bL_law dL_law_1482) ((ks.1 0 0).trans w.1) ((ks.1 1 0).trans w.2.1) (by omega) (by omega) (v := h 2 2 (i + 2)) (ks.1 2 _)).trans ?_
  refine (rg_virtual (pc := 1483) (dd bL_law dL_law_1483) rfl rfl (by decide) (kc := 34) rfl s2 (as := [(1, 282), (0, h 2 2 (i + 1)), (0, h 2 2 (i + 2))]) rfl ⟨Nat.le_of_ble_eq_true rfl, Nat.le_of_ble_eq_true rfl, Nat.le_of_ble_eq_true rfl, Nat.le_of_ble_eq_true rfl⟩).trans ?_
  refine (vret_v y).trans ?_
  refine (rn_istore (pc := 1486) (dd bL_law dL_law_1486) (Nat.le_of_ble_eq_true rfl) rfl).trans ?_
  refine (rn_aload_n (pc := 1488) (dd bL_law dL_law_1488) rfl).trans ?_
  refine (rg_virtual (pc := 1489) (dd bL_law dL_law_1489) rfl rfl (by decide) (kc := 34) rfl s3.1 (as := [(1, 282)]) rfl ⟨Nat.le_of_ble_eq_true rfl, Nat.le_of_ble_eq_true rfl, Nat.le_of_ble_eq_true rfl, Nat.le_of_ble_eq_true rfl⟩).trans ?_
  refine (vret_v ((spX13_thrown s3).trans (by rw [t]))).trans ?_
  refine (rn_iload (pc := 1492) (dd bL_law dL_law_1492) rfl).trans ?_
  refine (rn_icmp_eq (t := 1499) (pc := 1494) (dd bL_law dL_law_1494) rfl).trans ((if_pos rfl).trans ?_)
  refine (rn_iload (pc := 1499) (dd bL_law dL_law_1499) rfl).trans ?_
  refine (rg_if_ne (t := 1516) (pc := 1501) (dd bL_law dL_law_1501) rfl).trans ?_
  by_cases kz : k = 0
  · rw [if_pos kz]
    have f := f kz
    refine (rn_aload_n (pc := 1504) (dd bL_law dL_law_1504) rfl).trans ?_
    refine (rn_iconst (pc := 1505) (dd bL_law dL_law_1505) (by decide)).trans ?_
    refine (rg_laload (n := 1) (pc := 1506) (dd bL_law dL_law_1506) (kk.2.1.trans w.2.2.1) (kk.2.2.1.trans w.2.2.2.1) (by decide) (by decide) ((rz 2 338 0 (by decide)).trans f)).trans ?_
    refine (rn_iload (pc := 1507) (dd bL_law dL_law_1507) rfl).trans ?_
    refine (rn_i2l (pc := 1509) (dd bL_law dL_law_1509)).trans ?_
    refine (rl_lcmp (pc := 1510) (dd bL_law dL_law_1510) rfl).trans ?_
    refine (rn_if_eq (t := 1516) (pc := 1511) (dd bL_law dL_law_1511) rfl).trans ((if_pos rfl).trans ?_)
    refine (rn_goto (t := 2982) (pc := 1516) (dd bL_law dL_law_1516) rfl).trans ?_
    refine (rg_iinc (pc := 2982) (dd bL_law dL_law_2982) (x := i) rfl (Nat.le_of_ble_eq_true rfl) (by omega) (by omega) rfl).trans ?_
    exact rn_goto (t := 23) (pc := 2985) (dd bL_law dL_law_2985) rfl
  · rw [if_neg kz]
    refine (rn_goto (t := 2982) (pc := 1516) (dd bL_law dL_law_1516) rfl).trans ?_
    refine (rg_iinc (pc := 2982) (dd bL_law dL_law_2982) (x := i) rfl (Nat.le_of_ble_eq_true rfl) (by omega) (by omega) rfl).trans ?_
    exact rn_goto (t := 23) (pc := 2985) (dd bL_law dL_law_2985) rfl
theorem LC_18 {n i Ln : Int} {h : vH} {v5 v6 : vv} (J : JN n h) (hn : 0 ≤ n ∧ n ≤ 9000) (w : lwH h Ln) (hi : 0 ≤ i ∧ i + 6 ≤ Ln ∧ Ln ≤ 3072) : lwN n h i (vrun mL_law 1519 [(1, 2), (1, 3), (1, 282), (1, 338), (0, i), v5, v6] [] h) := by
  obtain ⟨o, h2, k, r, z, y, t, f, j2, ks, rz⟩ := Wr_cell (x1 := h 2 2 (i + 1)) (x2 := h 2 2 (i + 2)) (x3 := h 2 2 (i + 3)) (x4 := h 2 2 (i + 4)) J (w.2.2.2.2 _ (by omega) (by omega)) w.2.2.1 w.2.2.2.1
  have s2 : o 0 282 0 = 34 := ks.2.2.2.1.trans J.2.1.1.1.1.1.1
  have s3 : shModel h2 := j2.2.1.1.1.1.1
  have kk := kS_rZ ks rz J j2
  refine ⟨h2, (0, k), (0, r), ?_, j2, kk⟩
  refine (rn_aload_n (pc := 1519) (dd bL_law dL_law_1519) rfl).trans ?_
  refine (rn_aload_n (pc := 1520) (dd bL_law dL_law_1520) rfl).trans ?_
  refine (rn_iload (pc := 1521) (dd bL_law dL_law_1521) rfl).trans ?_
  refine (rn_iconst (pc := 1523) (dd bL_law dL_law_1523) (by decide)).trans ?_
  refine (rg_iadd (pc := 1524) (dd bL_law dL_law_1524) (by omega) (by omega)).trans ?_
  refine (rl_iaload (n := Ln) (pc := 1525) (dd bL_law dL_law_1525) w.1 w.2.1 (by omega) (by omega) (v := h 2 2 (i + 1)) rfl).trans ?_
  refine (rn_aload_n (pc := 1526) (dd bL_law dL_law_1526) rfl).trans ?_
  refine (rn_iload (pc := 1527) (dd bL_law dL_law_1527) rfl).trans ?_
  refine (rn_iconst (pc := 1529) (dd bL_law dL_law_1529) (by decide)).trans ?_
  refine (rg_iadd (pc := 1530) (dd bL_law dL_law_1530) (by omega) (by omega)).trans ?_
  refine (rl_iaload (n := Ln) (pc := 1531) (dd bL_law dL_law_1531) w.1 w.2.1 (by omega) (by omega) (v := h 2 2 (i + 2)) rfl).trans ?_
  refine (rn_aload_n (pc := 1532) (dd bL_law dL_law_1532) rfl).trans ?_
  refine (rn_iload (pc := 1533) (dd bL_law dL_law_1533) rfl).trans ?_
  refine (rn_iconst (pc := 1535) (dd bL_law dL_law_1535) (by decide)).trans ?_
  refine (rg_iadd (pc := 1536) (dd bL_law dL_law_1536) (by omega) (by omega)).trans ?_
  refine (rl_iaload (n := Ln) (pc := 1537) (dd bL_law dL_law_1537) w.1 w.2.1 (by omega) (by omega) (v := h 2 2 (i + 3)) rfl).trans ?_
  refine (rn_aload_n (pc := 1538) (dd bL_law dL_law_1538) rfl).trans ?_
  refine (rn_iload (pc := 1539) (dd bL_law dL_law_1539) rfl).trans ?_
  refine (rn_iconst (pc := 1541) (dd bL_law dL_law_1541) (by decide)).trans ?_
  refine (rg_iadd (pc := 1542) (dd bL_law dL_law_1542) (by omega) (by omega)).trans ?_
  refine (rl_iaload (n := Ln) (pc := 1543) (dd bL_law dL_law_1543) w.1 w.2.1 (by omega) (by omega) (v := h 2 2 (i + 4)) rfl).trans ?_
  refine (rn_aload_n (pc := 1544) (dd bL_law dL_law_1544) rfl).trans ?_
  refine (rg_static (pc := 1545) (dd bL_law dL_law_1545) rfl (by decide) (Nat.le_of_ble_eq_true rfl) (as := [(1, 3), (0, h 2 2 (i + 1)), (0, h 2 2 (i + 2)), (0, h 2 2 (i + 3)), (0, h 2 2 (i + 4)), (1, 338)]) rfl rfl ⟨Nat.le_of_ble_eq_true rfl, Nat.le_of_ble_eq_true rfl, Nat.le_of_ble_eq_true rfl, Nat.le_of_ble_eq_true rfl⟩).trans ?_
  refine (vret_v z).trans ?_
  refine (rn_istore (pc := 1548) (dd bL_law dL_law_1548) (Nat.le_of_ble_eq_true rfl) rfl).trans ?_
  refine (rn_aload_n (pc := 1550) (dd bL_law dL_law_1550) rfl).trans ?_
  refine (rn_aload_n (pc := 1551) (dd bL_law dL_law_1551) rfl).trans ?_
  refine (rn_iload (pc := 1552) (dd bL_law dL_law_1552) rfl).trans ?_
  refine (rn_iconst (pc := 1554) (dd bL_law dL_law_1554) (by decide)).trans ?_
  refine (rg_iadd (pc := 1555) (dd bL_law dL_law_1555) (by omega) (by omega)).trans ?_
  refine (rl_iaload (n := Ln) (pc := 1556) (dd bL_law dL_law_1556) ((ks.1 0 0).trans w.1) ((ks.1 1 0).trans w.2.1) (by omega) (by omega) (v := h 2 2 (i + 1)) (ks.1 2 _)).trans ?_
  refine (rn_aload_n (pc := 1557) (dd bL_law dL_law_1557) rfl).trans ?_
  refine (rn_iload (pc := 1558) (dd bL_law dL_law_1558) rfl).trans ?_
  refine (rn_iconst (pc := 1560) (dd bL_law dL_law_1560) (by decide)).trans ?_
  refine (rg_iadd (pc := 1561) (dd bL_law dL_law_1561) (by omega) (by omega)).trans ?_
  refine (rl_iaload (n := Ln) (pc := 1562) (dd bL_law dL_law_1562) ((ks.1 0 0).trans w.1) ((ks.1 1 0).trans w.2.1) (by omega) (by omega) (v := h 2 2 (i + 2)) (ks.1 2 _)).trans ?_
  refine (rn_aload_n (pc := 1563) (dd bL_law dL_law_1563) rfl).trans ?_
  refine (rn_iload (pc := 1564) (dd bL_law dL_law_1564) rfl).trans ?_
  refine (rn_iconst (pc := 1566) (dd bL_law dL_law_1566) (by decide)).trans ?_
  refine (rg_iadd (pc := 1567) (dd bL_law dL_law_1567) (by omega) (by omega)).trans ?_
  refine (rl_iaload (n := Ln) (pc := 1568) (dd bL_law dL_law_1568) ((ks.1 0 0).trans w.1) ((ks.1 1 0).trans w.2.1) (by omega) (by omega) (v := h 2 2 (i + 3)) (ks.1 2 _)).trans ?_
  refine (rn_aload_n (pc := 1569) (dd bL_law dL_law_1569) rfl).trans ?_
  refine (rn_iload (pc := 1570) (dd bL_law dL_law_1570) rfl).trans ?_
  refine (rn_iconst (pc := 1572) (dd bL_law dL_law_1572) (by decide)).trans ?_
  refine (rg_iadd (pc := 1573) (dd bL_law dL_law_1573) (by omega) (by omega)).trans ?_
  refine (rl_iaload (n := Ln) (pc := 1574) (dd bL_law dL_law_1574) ((ks.1 0 0).trans w.1) ((ks.1 1 0).trans w.2.1) (by omega) (by omega) (v := h 2 2 (i + 4)) (ks.1 2 _)).trans ?_
  refine (rg_virtual (pc := 1575) (dd bL_law dL_law_1575) rfl rfl (by decide) (kc := 34) rfl s2 (as := [(1, 282), (0, h 2 2 (i + 1)), (0, h 2 2 (i + 2)), (0, h 2 2 (i + 3)), (0, h 2 2 (i + 4))]) rfl ⟨Nat.le_of_ble_eq_true rfl, Nat.le_of_ble_eq_true rfl, Nat.le_of_ble_eq_true rfl, Nat.le_of_ble_eq_true rfl⟩).trans ?_
  refine (vret_v y).trans ?_
  refine (rn_istore (pc := 1578) (dd bL_law dL_law_1578) (Nat.le_of_ble_eq_true rfl) rfl).trans ?_
  refine (rn_aload_n (pc := 1580) (dd bL_law dL_law_1580) rfl).trans ?_
  refine (rg_virtual (pc := 1581) (dd bL_law dL_law_1581) rfl rfl (by decide) (kc := 34) rfl s3.1 (as := [(1, 282)]) rfl ⟨Nat.le_of_ble_eq_true rfl, Nat.le_of_ble_eq_true rfl, Nat.le_of_ble_eq_true rfl, Nat.le_of_ble_eq_true rfl⟩).trans ?_
  refine (vret_v ((spX13_thrown s3).trans (by rw [t]))).trans ?_
  refine (rn_iload (pc := 1584) (dd bL_law dL_law_1584) rfl).trans ?_
  refine (rn_icmp_eq (t := 1591) (pc := 1586) (dd bL_law dL_law_1586) rfl).trans ((if_pos rfl).trans ?_)
  refine (rn_iload (pc := 1591) (dd bL_law dL_law_1591) rfl).trans ?_
  refine (rg_if_ne (t := 1608) (pc := 1593) (dd bL_law dL_law_1593) rfl).trans ?_
  by_cases kz : k = 0
  · rw [if_pos kz]
    have f := f kz
    refine (rn_aload_n (pc := 1596) (dd bL_law dL_law_1596) rfl).trans ?_
    refine (rn_iconst (pc := 1597) (dd bL_law dL_law_1597) (by decide)).trans ?_
    refine (rg_laload (n := 1) (pc := 1598) (dd bL_law dL_law_1598) (kk.2.1.trans w.2.2.1) (kk.2.2.1.trans w.2.2.2.1) (by decide) (by decide) ((rz 2 338 0 (by decide)).trans f)).trans ?_
    refine (rn_iload (pc := 1599) (dd bL_law dL_law_1599) rfl).trans ?_
    refine (rn_i2l (pc := 1601) (dd bL_law dL_law_1601)).trans ?_
    refine (rl_lcmp (pc := 1602) (dd bL_law dL_law_1602) rfl).trans ?_
    refine (rn_if_eq (t := 1608) (pc := 1603) (dd bL_law dL_law_1603) rfl).trans ((if_pos rfl).trans ?_)
    refine (rn_goto (t := 2982) (pc := 1608) (dd bL_law dL_law_1608) rfl).trans ?_
    refine (rg_iinc (pc := 2982) (dd bL_law dL_law_2982) (x := i) rfl (Nat.le_of_ble_eq_true rfl) (by omega) (by omega) rfl).trans ?_
    exact rn_goto (t := 23) (pc := 2985) (dd bL_law dL_law_2985) rfl
  · rw [if_neg kz]
    refine (rn_goto (t := 2982) (pc := 1608) (dd bL_law dL_law_1608) rfl).trans ?_
    refine (rg_iinc (pc := 2982) (dd bL_law dL_law_2982) (x := i) rfl (Nat.le_of_ble_eq_true rfl) (by omega) (by omega) rfl).trans ?_
    exact rn_goto (t := 23) (pc := 2985) (dd bL_law dL_law_2985) rfl
