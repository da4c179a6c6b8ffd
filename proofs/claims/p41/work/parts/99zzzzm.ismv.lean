def Q2 (n m : Int) : vR → vH → Prop := fun r h => r = .inl (some (0, 1)) ∧ ∃ a, JG n m h a
theorem ru_2 {n m : Int} {X : Option (vR × vH)} (x : Ru (Q2 n m) X) : ∃ h1 a, X = some (.inl (some (0, 1)), h1) ∧ JG n m h1 a := by
  obtain ⟨r, h', e, rfl, a, j⟩ := x
  exact ⟨h', a, e, j⟩
theorem ru_Q2 {n m n2 m2 : Int} {X : Option (vR × vH)} (x : Ru (Q2 n m) X) (e1 : n ≤ n2) (e2 : m ≤ m2) : Ru (Q2 n2 m2) X := by
  obtain ⟨r, h', e, y, a, j⟩ := x
  exact ⟨r, h', e, y, a, JG_le j e1 e2⟩
theorem S_moveD {h a : vH} {n m p mv d : Int} (j : JG n m h a) (hp : 0 ≤ p ∧ p < 4) (hm : 0 ≤ mv ∧ mv ≤ 7) (ho : ¬ a 2 289 p = 0) (md : mvd a p mv = d) : ∃ h1 a1, vcl mX12_move [(1, 3), (0, p), (0, mv)] h = some (.inl (some (0, d)), h1) ∧ JG (n + 1) (m + 1) h1 a1 ∧ mvP a a1 p mv := by
  subst md
  exact S_move j hp hm ho
theorem mv_last {h a : vH} {n m p mv li pl wa d w : Int} {v9 v10 : vv} (j : JG n m h a) (hp : 0 ≤ p ∧ p < 4) (h2 : mv = 2 → cuL a p ≤ li) (h3 : mv = 3 → li ≤ cuL a p) : Ru (Q2 n (m + 2)) (vrun mL_isMove 246 [(1, 3), (0, p), (0, mv), (0, li), (0, pl), (0, wa), (0, d), (0, w), (0, 1), v9, v10] [] h) := by
  refine ru (rn_iload (pc := 246) (dd bL_isMove dL_isMove_246) rfl) ?_
  refine ru ((rn_if_eq (t := 285) (pc := 248) (dd bL_isMove dL_isMove_248) rfl).trans (if_neg (by decide))) ?_
  refine ru (rn_iload_n (pc := 251) (dd bL_isMove dL_isMove_251) rfl) ?_
  refine ru (rn_iconst (pc := 252) (dd bL_isMove dL_isMove_252) (by decide)) ?_
  by_cases c2 : mv ≠ 2
  · refine ru ((rn_icmp_ne (t := 266) (pc := 253) (dd bL_isMove dL_isMove_253) rfl).trans (if_pos c2)) ?_
    refine ru (rn_iload_n (pc := 266) (dd bL_isMove dL_isMove_266) rfl) ?_
    refine ru (rn_iconst (pc := 267) (dd bL_isMove dL_isMove_267) (by decide)) ?_
    by_cases c3 : mv ≠ 3
    · refine ru ((rn_icmp_ne (t := 281) (pc := 268) (dd bL_isMove dL_isMove_268) rfl).trans (if_pos c3)) ?_
      refine ru (rn_iconst (pc := 281) (dd bL_isMove dL_isMove_281) (by decide)) ?_
      refine ru (rn_goto (t := 286) (pc := 282) (dd bL_isMove dL_isMove_282) rfl) ?_
      exact ru_end (rn_ireturn (pc := 286) (dd bL_isMove dL_isMove_286) (Or.inr ⟨rfl, Or.inr rfl⟩)) ⟨rfl, _, JG_le j (by omega) (by omega)⟩
    · refine ru ((rn_icmp_ne (t := 281) (pc := 268) (dd bL_isMove dL_isMove_268) rfl).trans (if_neg c3)) ?_
      refine ru (rn_aload_n (pc := 271) (dd bL_isMove dL_isMove_271) rfl) ?_
      refine ru (rn_iload_n (pc := 272) (dd bL_isMove dL_isMove_272) rfl) ?_
      refine ru (rn_iconst (pc := 273) (dd bL_isMove dL_isMove_273) (by decide)) ?_
      obtain ⟨h1, e2, J3⟩ := S_c0 j hp
      refine ru ((rg_virtual (pc := 274) (dd bL_isMove dL_isMove_274) rfl rfl (by decide) (kc := 33) rfl (jPL j) (as := [(1, 3), (0, p), (0, 0)]) rfl ⟨Nat.le_of_ble_eq_true rfl, Nat.le_of_ble_eq_true rfl, Nat.le_of_ble_eq_true rfl, Nat.le_of_ble_eq_true rfl⟩).trans (vret_v e2)) ?_
      refine ru (rn_iload_n (pc := 277) (dd bL_isMove dL_isMove_277) rfl) ?_
      refine ru ((rn_icmp_lt (t := 285) (pc := 278) (dd bL_isMove dL_isMove_278) rfl).trans (if_neg (by have := h3 (by omega); omega))) ?_
      refine ru (rn_iconst (pc := 281) (dd bL_isMove dL_isMove_281) (by decide)) ?_
      refine ru (rn_goto (t := 286) (pc := 282) (dd bL_isMove dL_isMove_282) rfl) ?_
      exact ru_end (rn_ireturn (pc := 286) (dd bL_isMove dL_isMove_286) (Or.inr ⟨rfl, Or.inr rfl⟩)) ⟨rfl, _, JG_le J3 (by omega) (by omega)⟩
  · refine ru ((rn_icmp_ne (t := 266) (pc := 253) (dd bL_isMove dL_isMove_253) rfl).trans (if_neg c2)) ?_
    refine ru (rn_aload_n (pc := 256) (dd bL_isMove dL_isMove_256) rfl) ?_
    refine ru (rn_iload_n (pc := 257) (dd bL_isMove dL_isMove_257) rfl) ?_
    refine ru (rn_iconst (pc := 258) (dd bL_isMove dL_isMove_258) (by decide)) ?_
    obtain ⟨h4, e5, J6⟩ := S_c0 j hp
    refine ru ((rg_virtual (pc := 259) (dd bL_isMove dL_isMove_259) rfl rfl (by decide) (kc := 33) rfl (jPL j) (as := [(1, 3), (0, p), (0, 0)]) rfl ⟨Nat.le_of_ble_eq_true rfl, Nat.le_of_ble_eq_true rfl, Nat.le_of_ble_eq_true rfl, Nat.le_of_ble_eq_true rfl⟩).trans (vret_v e5)) ?_
    refine ru (rn_iload_n (pc := 262) (dd bL_isMove dL_isMove_262) rfl) ?_
    refine ru ((rn_icmp_gt (t := 285) (pc := 263) (dd bL_isMove dL_isMove_263) rfl).trans (if_neg (by have := h2 (by omega); omega))) ?_
    refine ru (rn_iload_n (pc := 266) (dd bL_isMove dL_isMove_266) rfl) ?_
    refine ru (rn_iconst (pc := 267) (dd bL_isMove dL_isMove_267) (by decide)) ?_
    by_cases c3 : mv ≠ 3
    · refine ru ((rn_icmp_ne (t := 281) (pc := 268) (dd bL_isMove dL_isMove_268) rfl).trans (if_pos c3)) ?_
      refine ru (rn_iconst (pc := 281) (dd bL_isMove dL_isMove_281) (by decide)) ?_
      refine ru (rn_goto (t := 286) (pc := 282) (dd bL_isMove dL_isMove_282) rfl) ?_
      exact ru_end (rn_ireturn (pc := 286) (dd bL_isMove dL_isMove_286) (Or.inr ⟨rfl, Or.inr rfl⟩)) ⟨rfl, _, JG_le J6 (by omega) (by omega)⟩
    · refine ru ((rn_icmp_ne (t := 281) (pc := 268) (dd bL_isMove dL_isMove_268) rfl).trans (if_neg c3)) ?_
      refine ru (rn_aload_n (pc := 271) (dd bL_isMove dL_isMove_271) rfl) ?_
      refine ru (rn_iload_n (pc := 272) (dd bL_isMove dL_isMove_272) rfl) ?_
      refine ru (rn_iconst (pc := 273) (dd bL_isMove dL_isMove_273) (by decide)) ?_
      obtain ⟨h7, e8, J9⟩ := S_c0 J6 hp
      refine ru ((rg_virtual (pc := 274) (dd bL_isMove dL_isMove_274) rfl rfl (by decide) (kc := 33) rfl (jPL J6) (as := [(1, 3), (0, p), (0, 0)]) rfl ⟨Nat.le_of_ble_eq_true rfl, Nat.le_of_ble_eq_true rfl, Nat.le_of_ble_eq_true rfl, Nat.le_of_ble_eq_true rfl⟩).trans (vret_v e8)) ?_
      refine ru (rn_iload_n (pc := 277) (dd bL_isMove dL_isMove_277) rfl) ?_
      refine ru ((rn_icmp_lt (t := 285) (pc := 278) (dd bL_isMove dL_isMove_278) rfl).trans (if_neg (by have := h3 (by omega); omega))) ?_
      refine ru (rn_iconst (pc := 281) (dd bL_isMove dL_isMove_281) (by decide)) ?_
      refine ru (rn_goto (t := 286) (pc := 282) (dd bL_isMove dL_isMove_282) rfl) ?_
      exact ru_end (rn_ireturn (pc := 286) (dd bL_isMove dL_isMove_286) (Or.inr ⟨rfl, Or.inr rfl⟩)) ⟨rfl, _, JG_le J9 (by omega) (by omega)⟩
theorem mv_again {h a : vH} {n m p li pl wa d w to at1 : Int} (j : JG n m h a) (hp : 0 ≤ p ∧ p < 4) (ho : ¬ a 2 289 p = 0) (md : mvd a p 1 = 1) (gm : gMv a p 1 = (at1, to)) : Ru (Q2 (n + 1) (m + 6)) (vrun mL_isMove 208 [(1, 3), (0, p), (0, 1), (0, li), (0, pl), (0, wa), (0, d), (0, w), (0, 1), (0, to), (0, at1)] [] h) := by
  refine ru (rn_aload_n (pc := 208) (dd bL_isMove dL_isMove_208) rfl) ?_
  refine ru (rn_iload_n (pc := 209) (dd bL_isMove dL_isMove_209) rfl) ?_
  refine ru (rn_iconst (pc := 210) (dd bL_isMove dL_isMove_210) (by decide)) ?_
  obtain ⟨h1, a4, e2, J3, f5⟩ := S_moveD (mv := 1) j hp (by decide) ho md
  refine ru ((rg_virtual (pc := 211) (dd bL_isMove dL_isMove_211) rfl rfl (by decide) (kc := 33) rfl (jPL j) (as := [(1, 3), (0, p), (0, 1)]) rfl ⟨Nat.le_of_ble_eq_true rfl, Nat.le_of_ble_eq_true rfl, Nat.le_of_ble_eq_true rfl, Nat.le_of_ble_eq_true rfl⟩).trans (vret_v e2)) ?_
  obtain ⟨E1, O1, ⟨eL, eX⟩, W1, Z1⟩ := f5
  refine ru ((rn_if_eq (t := 243) (pc := 214) (dd bL_isMove dL_isMove_214) rfl).trans (if_neg (by decide))) ?_
  refine ru (rn_aload_n (pc := 217) (dd bL_isMove dL_isMove_217) rfl) ?_
  refine ru (rn_iload_n (pc := 218) (dd bL_isMove dL_isMove_218) rfl) ?_
  refine ru (rn_iconst (pc := 219) (dd bL_isMove dL_isMove_219) (by decide)) ?_
  obtain ⟨h6, e7, J8⟩ := S_c0 J3 hp
  refine ru ((rg_virtual (pc := 220) (dd bL_isMove dL_isMove_220) rfl rfl (by decide) (kc := 33) rfl (jPL J3) (as := [(1, 3), (0, p), (0, 0)]) rfl ⟨Nat.le_of_ble_eq_true rfl, Nat.le_of_ble_eq_true rfl, Nat.le_of_ble_eq_true rfl, Nat.le_of_ble_eq_true rfl⟩).trans (vret_v e7)) ?_
  refine ru (rn_iload (pc := 223) (dd bL_isMove dL_isMove_223) rfl) ?_
  refine ru ((rn_icmp_ne (t := 243) (pc := 225) (dd bL_isMove dL_isMove_225) rfl).trans (if_neg (by rw [eL, gm]; exact fun z => z rfl))) ?_
  refine ru (rn_aload_n (pc := 228) (dd bL_isMove dL_isMove_228) rfl) ?_
  refine ru (rn_iload_n (pc := 229) (dd bL_isMove dL_isMove_229) rfl) ?_
  refine ru (rn_iconst (pc := 230) (dd bL_isMove dL_isMove_230) (by decide)) ?_
  obtain ⟨h9, e10, J11⟩ := S_c1 J8 hp
  refine ru ((rg_virtual (pc := 231) (dd bL_isMove dL_isMove_231) rfl rfl (by decide) (kc := 33) rfl (jPL J8) (as := [(1, 3), (0, p), (0, 1)]) rfl ⟨Nat.le_of_ble_eq_true rfl, Nat.le_of_ble_eq_true rfl, Nat.le_of_ble_eq_true rfl, Nat.le_of_ble_eq_true rfl⟩).trans (vret_v e10)) ?_
  refine ru (rn_iload (pc := 234) (dd bL_isMove dL_isMove_234) rfl) ?_
  refine ru ((rn_icmp_ne (t := 243) (pc := 236) (dd bL_isMove dL_isMove_236) rfl).trans (if_neg (by rw [eX, gm]; exact fun z => z rfl))) ?_
  refine ru (rn_iconst (pc := 239) (dd bL_isMove dL_isMove_239) (by decide)) ?_
  refine ru (rn_goto (t := 244) (pc := 240) (dd bL_isMove dL_isMove_240) rfl) ?_
  refine ru (rn_istore (pc := 244) (dd bL_isMove dL_isMove_244) (Nat.le_of_ble_eq_true rfl) (L2 := [(1, 3), (0, p), (0, 1), (0, li), (0, pl), (0, wa), (0, d), (0, w), (0, 1), (0, to), (0, at1)]) rfl) ?_
  exact ru_Q2 (mv_last J11 hp (fun z => by omega) (fun z => by omega)) (by omega) (by omega)
theorem mv_back0 {h a : vH} {n m p li pl wa d w to at1 : Int} (j : JG n m h a) (hp : 0 ≤ p ∧ p < 4) (ho : ¬ a 2 289 p = 0) (md : mvd a p 0 = 0) : Ru (Q2 (n + 2) (m + 20)) (vrun mL_isMove 166 [(1, 3), (0, p), (0, 1), (0, li), (0, pl), (0, wa), (0, d), (0, w), (0, 1), (0, to), (0, at1)] [] h) := by
  refine ru (rn_aload_n (pc := 166) (dd bL_isMove dL_isMove_166) rfl) ?_
  refine ru (rn_iload_n (pc := 167) (dd bL_isMove dL_isMove_167) rfl) ?_
  refine ru (rn_iconst (pc := 168) (dd bL_isMove dL_isMove_168) (by decide)) ?_
  obtain ⟨h1, a4, e2, J3, f5⟩ := S_moveD (mv := 0) j hp (by decide) ho md
  refine ru ((rg_virtual (pc := 169) (dd bL_isMove dL_isMove_169) rfl rfl (by decide) (kc := 33) rfl (jPL j) (as := [(1, 3), (0, p), (0, 0)]) rfl ⟨Nat.le_of_ble_eq_true rfl, Nat.le_of_ble_eq_true rfl, Nat.le_of_ble_eq_true rfl, Nat.le_of_ble_eq_true rfl⟩).trans (vret_v e2)) ?_
  refine ru ((rn_if_eq (t := 239) (pc := 172) (dd bL_isMove dL_isMove_172) rfl).trans (if_pos (by decide))) ?_
  refine ru (rn_iconst (pc := 239) (dd bL_isMove dL_isMove_239) (by decide)) ?_
  refine ru (rn_goto (t := 244) (pc := 240) (dd bL_isMove dL_isMove_240) rfl) ?_
  refine ru (rn_istore (pc := 244) (dd bL_isMove dL_isMove_244) (Nat.le_of_ble_eq_true rfl) (L2 := [(1, 3), (0, p), (0, 1), (0, li), (0, pl), (0, wa), (0, d), (0, w), (0, 1), (0, to), (0, at1)]) rfl) ?_
  exact ru_Q2 (mv_last J3 hp (fun z => by omega) (fun z => by omega)) (by omega) (by omega)
theorem mv_back1 {h a : vH} {n m p li pl wa d w to at1 : Int} (j : JG n m h a) (hp : 0 ≤ p ∧ p < 4) (ho : ¬ a 2 289 p = 0) (md : mvd a p 0 = 1)
    (lt : ∀ {x y : Int}, x = (gMv a p 0).1 → y = (gMv a p 0).2 → x < at1 ∨ x = at1 ∧ y < to)
    (md3 : ∀ a1, eqA a a1 → cuL a1 p = (gMv a p 0).1 → cuX a1 p = (gMv a p 0).2 → mvd a1 p 1 = 1) (gm3 : ∀ a1, eqA a a1 → cuL a1 p = (gMv a p 0).1 → cuX a1 p = (gMv a p 0).2 → gMv a1 p 1 = (at1, to)) : Ru (Q2 (n + 2) (m + 20)) (vrun mL_isMove 166 [(1, 3), (0, p), (0, 1), (0, li), (0, pl), (0, wa), (0, d), (0, w), (0, 1), (0, to), (0, at1)] [] h) := by
  refine ru (rn_aload_n (pc := 166) (dd bL_isMove dL_isMove_166) rfl) ?_
  refine ru (rn_iload_n (pc := 167) (dd bL_isMove dL_isMove_167) rfl) ?_
  refine ru (rn_iconst (pc := 168) (dd bL_isMove dL_isMove_168) (by decide)) ?_
  obtain ⟨h1, a4, e2, J3, f5⟩ := S_moveD (mv := 0) j hp (by decide) ho md
  refine ru ((rg_virtual (pc := 169) (dd bL_isMove dL_isMove_169) rfl rfl (by decide) (kc := 33) rfl (jPL j) (as := [(1, 3), (0, p), (0, 0)]) rfl ⟨Nat.le_of_ble_eq_true rfl, Nat.le_of_ble_eq_true rfl, Nat.le_of_ble_eq_true rfl, Nat.le_of_ble_eq_true rfl⟩).trans (vret_v e2)) ?_
  obtain ⟨E1, O1, ⟨eL, eX⟩, W1, Z1⟩ := f5
  have lt2 := lt  eL eX
  refine ru ((rn_if_eq (t := 239) (pc := 172) (dd bL_isMove dL_isMove_172) rfl).trans (if_neg (by decide))) ?_
  refine ru (rn_aload_n (pc := 175) (dd bL_isMove dL_isMove_175) rfl) ?_
  refine ru (rn_iload_n (pc := 176) (dd bL_isMove dL_isMove_176) rfl) ?_
  refine ru (rn_iconst (pc := 177) (dd bL_isMove dL_isMove_177) (by decide)) ?_
  obtain ⟨h6, e7, J8⟩ := S_c0 J3 hp
  refine ru ((rg_virtual (pc := 178) (dd bL_isMove dL_isMove_178) rfl rfl (by decide) (kc := 33) rfl (jPL J3) (as := [(1, 3), (0, p), (0, 0)]) rfl ⟨Nat.le_of_ble_eq_true rfl, Nat.le_of_ble_eq_true rfl, Nat.le_of_ble_eq_true rfl, Nat.le_of_ble_eq_true rfl⟩).trans (vret_v e7)) ?_
  refine ru (rn_iload (pc := 181) (dd bL_isMove dL_isMove_181) rfl) ?_
  by_cases c1 : cuL a4 p < at1
  · refine ru ((rn_icmp_lt (t := 208) (pc := 183) (dd bL_isMove dL_isMove_183) rfl).trans (if_pos c1)) ?_
    exact ru_Q2 (mv_again J8 hp (by rw [O1]; exact ho) (md3 _ E1 eL eX) (gm3 _ E1 eL eX)) (by omega) (by omega)
  · refine ru ((rn_icmp_lt (t := 208) (pc := 183) (dd bL_isMove dL_isMove_183) rfl).trans (if_neg c1)) ?_
    refine ru (rn_aload_n (pc := 186) (dd bL_isMove dL_isMove_186) rfl) ?_
    refine ru (rn_iload_n (pc := 187) (dd bL_isMove dL_isMove_187) rfl) ?_
    refine ru (rn_iconst (pc := 188) (dd bL_isMove dL_isMove_188) (by decide)) ?_
    obtain ⟨h9, e10, J11⟩ := S_c0 J8 hp
    refine ru ((rg_virtual (pc := 189) (dd bL_isMove dL_isMove_189) rfl rfl (by decide) (kc := 33) rfl (jPL J8) (as := [(1, 3), (0, p), (0, 0)]) rfl ⟨Nat.le_of_ble_eq_true rfl, Nat.le_of_ble_eq_true rfl, Nat.le_of_ble_eq_true rfl, Nat.le_of_ble_eq_true rfl⟩).trans (vret_v e10)) ?_
    refine ru (rn_iload (pc := 192) (dd bL_isMove dL_isMove_192) rfl) ?_
    refine ru ((rn_icmp_ne (t := 243) (pc := 194) (dd bL_isMove dL_isMove_194) rfl).trans (if_neg (by omega))) ?_
    refine ru (rn_aload_n (pc := 197) (dd bL_isMove dL_isMove_197) rfl) ?_
    refine ru (rn_iload_n (pc := 198) (dd bL_isMove dL_isMove_198) rfl) ?_
    refine ru (rn_iconst (pc := 199) (dd bL_isMove dL_isMove_199) (by decide)) ?_
    obtain ⟨h12, e13, J14⟩ := S_c1 J11 hp
    refine ru ((rg_virtual (pc := 200) (dd bL_isMove dL_isMove_200) rfl rfl (by decide) (kc := 33) rfl (jPL J11) (as := [(1, 3), (0, p), (0, 1)]) rfl ⟨Nat.le_of_ble_eq_true rfl, Nat.le_of_ble_eq_true rfl, Nat.le_of_ble_eq_true rfl, Nat.le_of_ble_eq_true rfl⟩).trans (vret_v e13)) ?_
    refine ru (rn_iload (pc := 203) (dd bL_isMove dL_isMove_203) rfl) ?_
    refine ru ((rn_icmp_ge (t := 243) (pc := 205) (dd bL_isMove dL_isMove_205) rfl).trans (if_neg (by omega))) ?_
    exact ru_Q2 (mv_again J14 hp (by rw [O1]; exact ho) (md3 _ E1 eL eX) (gm3 _ E1 eL eX)) (by omega) (by omega)
theorem mv_mid1 {h a : vH} {n m p li pl wa w : Int} {v9 v10 : vv} (j : JG n m h a) (hp : 0 ≤ p ∧ p < 4) (up : li < cuL a p ∨ cuL a p = li ∧ pl < cuX a p)
    (K : ∀ {h1 : vH} {d : Int}, JG n (m + 1 + 1) h1 a → Ru (Q2 (n + 2) (m + 1 + 1 + 20)) (vrun mL_isMove 166 [(1, 3), (0, p), (0, 1), (0, li), (0, pl), (0, wa), (0, d), (0, w), (0, 1), (0, cuX a p), (0, cuL a p)] [] h1)) : Ru (Q2 (n + 2) (m + 22)) (vrun mL_isMove 116 [(1, 3), (0, p), (0, 1), (0, li), (0, pl), (0, wa), (0, 1), (0, w), (0, 1), v9, v10] [] h) := by
  refine ru (rn_iload (pc := 116) (dd bL_isMove dL_isMove_116) rfl) ?_
  refine ru ((rn_if_eq (t := 246) (pc := 118) (dd bL_isMove dL_isMove_118) rfl).trans (if_neg (by decide))) ?_
  refine ru (rn_iload (pc := 121) (dd bL_isMove dL_isMove_121) rfl) ?_
  refine ru ((rn_if_eq (t := 246) (pc := 123) (dd bL_isMove dL_isMove_123) rfl).trans (if_neg (by decide))) ?_
  refine ru (rn_iload_n (pc := 126) (dd bL_isMove dL_isMove_126) rfl) ?_
  refine ru (rn_iconst (pc := 127) (dd bL_isMove dL_isMove_127) (by decide)) ?_
  refine ru ((rn_icmp_ne (t := 246) (pc := 128) (dd bL_isMove dL_isMove_128) rfl).trans (if_neg (by decide))) ?_
  refine ru (rn_aload_n (pc := 131) (dd bL_isMove dL_isMove_131) rfl) ?_
  refine ru (rn_iload_n (pc := 132) (dd bL_isMove dL_isMove_132) rfl) ?_
  refine ru (rn_iconst (pc := 133) (dd bL_isMove dL_isMove_133) (by decide)) ?_
  obtain ⟨h1, e2, J3⟩ := S_c1 j hp
  refine ru ((rg_virtual (pc := 134) (dd bL_isMove dL_isMove_134) rfl rfl (by decide) (kc := 33) rfl (jPL j) (as := [(1, 3), (0, p), (0, 1)]) rfl ⟨Nat.le_of_ble_eq_true rfl, Nat.le_of_ble_eq_true rfl, Nat.le_of_ble_eq_true rfl, Nat.le_of_ble_eq_true rfl⟩).trans (vret_v e2)) ?_
  refine ru (rn_istore (pc := 137) (dd bL_isMove dL_isMove_137) (Nat.le_of_ble_eq_true rfl) (L2 := [(1, 3), (0, p), (0, 1), (0, li), (0, pl), (0, wa), (0, 1), (0, w), (0, 1), (0, cuX a p), v10]) rfl) ?_
  refine ru (rn_aload_n (pc := 139) (dd bL_isMove dL_isMove_139) rfl) ?_
  refine ru (rn_iload_n (pc := 140) (dd bL_isMove dL_isMove_140) rfl) ?_
  refine ru (rn_iconst (pc := 141) (dd bL_isMove dL_isMove_141) (by decide)) ?_
  obtain ⟨h4, e5, J6⟩ := S_c0 J3 hp
  refine ru ((rg_virtual (pc := 142) (dd bL_isMove dL_isMove_142) rfl rfl (by decide) (kc := 33) rfl (jPL J3) (as := [(1, 3), (0, p), (0, 0)]) rfl ⟨Nat.le_of_ble_eq_true rfl, Nat.le_of_ble_eq_true rfl, Nat.le_of_ble_eq_true rfl, Nat.le_of_ble_eq_true rfl⟩).trans (vret_v e5)) ?_
  refine ru (rn_istore (pc := 145) (dd bL_isMove dL_isMove_145) (Nat.le_of_ble_eq_true rfl) (L2 := [(1, 3), (0, p), (0, 1), (0, li), (0, pl), (0, wa), (0, 1), (0, w), (0, 1), (0, cuX a p), (0, cuL a p)]) rfl) ?_
  refine ru (rn_iload (pc := 147) (dd bL_isMove dL_isMove_147) rfl) ?_
  refine ru (rn_iload_n (pc := 149) (dd bL_isMove dL_isMove_149) rfl) ?_
  by_cases c1 : li < cuL a p
  · refine ru ((rn_icmp_gt (t := 166) (pc := 150) (dd bL_isMove dL_isMove_150) rfl).trans (if_pos c1)) ?_
    exact ru_Q2 (K (d := 1) J6) (by omega) (by omega)
  · refine ru ((rn_icmp_gt (t := 166) (pc := 150) (dd bL_isMove dL_isMove_150) rfl).trans (if_neg c1)) ?_
    refine ru (rn_iload (pc := 153) (dd bL_isMove dL_isMove_153) rfl) ?_
    refine ru (rn_iload_n (pc := 155) (dd bL_isMove dL_isMove_155) rfl) ?_
    refine ru ((rn_icmp_ne (t := 243) (pc := 156) (dd bL_isMove dL_isMove_156) rfl).trans (if_neg (by omega))) ?_
    refine ru (rn_iload (pc := 159) (dd bL_isMove dL_isMove_159) rfl) ?_
    refine ru (rn_iload (pc := 161) (dd bL_isMove dL_isMove_161) rfl) ?_
    refine ru ((rn_icmp_le (t := 243) (pc := 163) (dd bL_isMove dL_isMove_163) rfl).trans (if_neg (by omega))) ?_
    exact ru_Q2 (K (d := 1) J6) (by omega) (by omega)
theorem mv_mid0 {h a : vH} {n m p mv li pl wa d w : Int} {v9 v10 : vv} (j : JG n m h a) (hp : 0 ≤ p ∧ p < 4) (nb : d = 0 ∨ ¬ mv = 1) (h2 : mv = 2 → cuL a p ≤ li) (h3 : mv = 3 → li ≤ cuL a p) : Ru (Q2 (n + 2) (m + 22)) (vrun mL_isMove 116 [(1, 3), (0, p), (0, mv), (0, li), (0, pl), (0, wa), (0, d), (0, w), (0, 1), v9, v10] [] h) := by
  refine ru (rn_iload (pc := 116) (dd bL_isMove dL_isMove_116) rfl) ?_
  refine ru ((rn_if_eq (t := 246) (pc := 118) (dd bL_isMove dL_isMove_118) rfl).trans (if_neg (by decide))) ?_
  refine ru (rn_iload (pc := 121) (dd bL_isMove dL_isMove_121) rfl) ?_
  by_cases c0 : d = 0
  · refine ru ((rn_if_eq (t := 246) (pc := 123) (dd bL_isMove dL_isMove_123) rfl).trans (if_pos c0)) ?_
    exact ru_Q2 (mv_last j hp h2 h3) (by omega) (by omega)
  · refine ru ((rn_if_eq (t := 246) (pc := 123) (dd bL_isMove dL_isMove_123) rfl).trans (if_neg c0)) ?_
    refine ru (rn_iload_n (pc := 126) (dd bL_isMove dL_isMove_126) rfl) ?_
    refine ru (rn_iconst (pc := 127) (dd bL_isMove dL_isMove_127) (by decide)) ?_
    refine ru ((rn_icmp_ne (t := 246) (pc := 128) (dd bL_isMove dL_isMove_128) rfl).trans (if_pos (by omega))) ?_
    exact ru_Q2 (mv_last j hp h2 h3) (by omega) (by omega)
theorem mv_tail0 {h a : vH} {n m p mv li pl wa w : Int} (j : JG n m h a) (hp : 0 ≤ p ∧ p < 4) (md : li = cuL a p ∧ pl = cuX a p) (hw : w = 0 ∧ a 2 307 p = cuC a p ∨ ¬ w = 0 ∧ a 2 307 p = wa)
    (K : ∀ {h1 : vH} {m1 : Int}, JG n m1 h1 a → Ru (Q2 (n + 2) (m1 + 22)) (vrun mL_isMove 116 [(1, 3), (0, p), (0, mv), (0, li), (0, pl), (0, wa), (0, 0), (0, w), (0, 1), (9, 0), (9, 0)] [] h1)) : Ru (Q2 (n + 2) (m + 27)) (vrun mL_isMove 53 [(1, 3), (0, p), (0, mv), (0, li), (0, pl), (0, wa), (0, 0), (0, w), (9, 0), (9, 0), (9, 0)] [] h) := by
  refine ru (rn_iload (pc := 53) (dd bL_isMove dL_isMove_53) rfl) ?_
  refine ru (rn_iload_n (pc := 55) (dd bL_isMove dL_isMove_55) rfl) ?_
  refine ru (rn_aload_n (pc := 56) (dd bL_isMove dL_isMove_56) rfl) ?_
  refine ru (rn_iload_n (pc := 57) (dd bL_isMove dL_isMove_57) rfl) ?_
  refine ru (rn_iconst (pc := 58) (dd bL_isMove dL_isMove_58) (by decide)) ?_
  obtain ⟨h1, e2, J3⟩ := S_c0 j hp
  refine ru ((rg_virtual (pc := 59) (dd bL_isMove dL_isMove_59) rfl rfl (by decide) (kc := 33) rfl (jPL j) (as := [(1, 3), (0, p), (0, 0)]) rfl ⟨Nat.le_of_ble_eq_true rfl, Nat.le_of_ble_eq_true rfl, Nat.le_of_ble_eq_true rfl, Nat.le_of_ble_eq_true rfl⟩).trans (vret_v e2)) ?_
  refine ru ((rn_icmp_ne (t := 76) (pc := 62) (dd bL_isMove dL_isMove_62) rfl).trans (if_neg (by omega))) ?_
  refine ru (rn_iload (pc := 65) (dd bL_isMove dL_isMove_65) rfl) ?_
  refine ru (rn_aload_n (pc := 67) (dd bL_isMove dL_isMove_67) rfl) ?_
  refine ru (rn_iload_n (pc := 68) (dd bL_isMove dL_isMove_68) rfl) ?_
  refine ru (rn_iconst (pc := 69) (dd bL_isMove dL_isMove_69) (by decide)) ?_
  obtain ⟨h4, e5, J6⟩ := S_c1 J3 hp
  refine ru ((rg_virtual (pc := 70) (dd bL_isMove dL_isMove_70) rfl rfl (by decide) (kc := 33) rfl (jPL J3) (as := [(1, 3), (0, p), (0, 1)]) rfl ⟨Nat.le_of_ble_eq_true rfl, Nat.le_of_ble_eq_true rfl, Nat.le_of_ble_eq_true rfl, Nat.le_of_ble_eq_true rfl⟩).trans (vret_v e5)) ?_
  refine ru ((rn_icmp_eq (t := 80) (pc := 73) (dd bL_isMove dL_isMove_73) rfl).trans (if_pos (by omega))) ?_
  refine ru (rn_iconst (pc := 80) (dd bL_isMove dL_isMove_80) (by decide)) ?_
  refine ru ((rn_icmp_ne (t := 113) (pc := 81) (dd bL_isMove dL_isMove_81) rfl).trans (if_neg (by decide))) ?_
  refine ru (rn_aload_n (pc := 84) (dd bL_isMove dL_isMove_84) rfl) ?_
  refine ru (rn_iload_n (pc := 85) (dd bL_isMove dL_isMove_85) rfl) ?_
  refine ru (rn_iconst (pc := 86) (dd bL_isMove dL_isMove_86) (by decide)) ?_
  obtain ⟨h7, e8, J9⟩ := S_c4 J6 hp
  refine ru ((rg_virtual (pc := 87) (dd bL_isMove dL_isMove_87) rfl rfl (by decide) (kc := 33) rfl (jPL J6) (as := [(1, 3), (0, p), (0, 4)]) rfl ⟨Nat.le_of_ble_eq_true rfl, Nat.le_of_ble_eq_true rfl, Nat.le_of_ble_eq_true rfl, Nat.le_of_ble_eq_true rfl⟩).trans (vret_v e8)) ?_
  refine ru (rn_iload (pc := 90) (dd bL_isMove dL_isMove_90) rfl) ?_
  by_cases c9 : w = 0
  · refine ru ((rn_if_eq (t := 100) (pc := 92) (dd bL_isMove dL_isMove_92) rfl).trans (if_pos c9)) ?_
    refine ru (rn_aload_n (pc := 100) (dd bL_isMove dL_isMove_100) rfl) ?_
    refine ru (rn_iload_n (pc := 101) (dd bL_isMove dL_isMove_101) rfl) ?_
    refine ru (rn_iconst (pc := 102) (dd bL_isMove dL_isMove_102) (by decide)) ?_
    obtain ⟨h10, e11, J12⟩ := S_c3 J9 hp
    refine ru ((rg_virtual (pc := 103) (dd bL_isMove dL_isMove_103) rfl rfl (by decide) (kc := 33) rfl (jPL J9) (as := [(1, 3), (0, p), (0, 3)]) rfl ⟨Nat.le_of_ble_eq_true rfl, Nat.le_of_ble_eq_true rfl, Nat.le_of_ble_eq_true rfl, Nat.le_of_ble_eq_true rfl⟩).trans (vret_v e11)) ?_
    refine ru ((rn_icmp_ne (t := 113) (pc := 106) (dd bL_isMove dL_isMove_106) rfl).trans (if_neg (by omega))) ?_
    refine ru (rn_iconst (pc := 109) (dd bL_isMove dL_isMove_109) (by decide)) ?_
    refine ru (rn_goto (t := 114) (pc := 110) (dd bL_isMove dL_isMove_110) rfl) ?_
    refine ru (rn_istore (pc := 114) (dd bL_isMove dL_isMove_114) (Nat.le_of_ble_eq_true rfl) (L2 := [(1, 3), (0, p), (0, mv), (0, li), (0, pl), (0, wa), (0, 0), (0, w), (0, 1), (9, 0), (9, 0)]) rfl) ?_
    exact ru_Q2 (K J12) (by omega) (by omega)
  · refine ru ((rn_if_eq (t := 100) (pc := 92) (dd bL_isMove dL_isMove_92) rfl).trans (if_neg c9)) ?_
    refine ru (rn_iload (pc := 95) (dd bL_isMove dL_isMove_95) rfl) ?_
    refine ru (rn_goto (t := 106) (pc := 97) (dd bL_isMove dL_isMove_97) rfl) ?_
    refine ru ((rn_icmp_ne (t := 113) (pc := 106) (dd bL_isMove dL_isMove_106) rfl).trans (if_neg (by omega))) ?_
    refine ru (rn_iconst (pc := 109) (dd bL_isMove dL_isMove_109) (by decide)) ?_
    refine ru (rn_goto (t := 114) (pc := 110) (dd bL_isMove dL_isMove_110) rfl) ?_
    refine ru (rn_istore (pc := 114) (dd bL_isMove dL_isMove_114) (Nat.le_of_ble_eq_true rfl) (L2 := [(1, 3), (0, p), (0, mv), (0, li), (0, pl), (0, wa), (0, 0), (0, w), (0, 1), (9, 0), (9, 0)]) rfl) ?_
    exact ru_Q2 (K J9) (by omega) (by omega)
theorem mv_tail1 {h a : vH} {n m p mv li pl wa w : Int} (j : JG n m h a) (hp : 0 ≤ p ∧ p < 4) (md : ¬ (li = cuL a p ∧ pl = cuX a p)) (hw : w = 0 ∧ a 2 307 p = cuC a p ∨ ¬ w = 0 ∧ a 2 307 p = wa)
    (K : ∀ {h1 : vH} {m1 : Int}, JG n m1 h1 a → Ru (Q2 (n + 2) (m1 + 22)) (vrun mL_isMove 116 [(1, 3), (0, p), (0, mv), (0, li), (0, pl), (0, wa), (0, 1), (0, w), (0, 1), (9, 0), (9, 0)] [] h1)) : Ru (Q2 (n + 2) (m + 27)) (vrun mL_isMove 53 [(1, 3), (0, p), (0, mv), (0, li), (0, pl), (0, wa), (0, 1), (0, w), (9, 0), (9, 0), (9, 0)] [] h) := by
  refine ru (rn_iload (pc := 53) (dd bL_isMove dL_isMove_53) rfl) ?_
  refine ru (rn_iload_n (pc := 55) (dd bL_isMove dL_isMove_55) rfl) ?_
  refine ru (rn_aload_n (pc := 56) (dd bL_isMove dL_isMove_56) rfl) ?_
  refine ru (rn_iload_n (pc := 57) (dd bL_isMove dL_isMove_57) rfl) ?_
  refine ru (rn_iconst (pc := 58) (dd bL_isMove dL_isMove_58) (by decide)) ?_
  obtain ⟨h1, e2, J3⟩ := S_c0 j hp
  refine ru ((rg_virtual (pc := 59) (dd bL_isMove dL_isMove_59) rfl rfl (by decide) (kc := 33) rfl (jPL j) (as := [(1, 3), (0, p), (0, 0)]) rfl ⟨Nat.le_of_ble_eq_true rfl, Nat.le_of_ble_eq_true rfl, Nat.le_of_ble_eq_true rfl, Nat.le_of_ble_eq_true rfl⟩).trans (vret_v e2)) ?_
  by_cases c1 : li ≠ cuL a p
  · refine ru ((rn_icmp_ne (t := 76) (pc := 62) (dd bL_isMove dL_isMove_62) rfl).trans (if_pos c1)) ?_
    refine ru (rn_iconst (pc := 76) (dd bL_isMove dL_isMove_76) (by decide)) ?_
    refine ru (rn_goto (t := 81) (pc := 77) (dd bL_isMove dL_isMove_77) rfl) ?_
    refine ru ((rn_icmp_ne (t := 113) (pc := 81) (dd bL_isMove dL_isMove_81) rfl).trans (if_neg (by decide))) ?_
    refine ru (rn_aload_n (pc := 84) (dd bL_isMove dL_isMove_84) rfl) ?_
    refine ru (rn_iload_n (pc := 85) (dd bL_isMove dL_isMove_85) rfl) ?_
    refine ru (rn_iconst (pc := 86) (dd bL_isMove dL_isMove_86) (by decide)) ?_
    obtain ⟨h4, e5, J6⟩ := S_c4 J3 hp
    refine ru ((rg_virtual (pc := 87) (dd bL_isMove dL_isMove_87) rfl rfl (by decide) (kc := 33) rfl (jPL J3) (as := [(1, 3), (0, p), (0, 4)]) rfl ⟨Nat.le_of_ble_eq_true rfl, Nat.le_of_ble_eq_true rfl, Nat.le_of_ble_eq_true rfl, Nat.le_of_ble_eq_true rfl⟩).trans (vret_v e5)) ?_
    refine ru (rn_iload (pc := 90) (dd bL_isMove dL_isMove_90) rfl) ?_
    by_cases c9 : w = 0
    · refine ru ((rn_if_eq (t := 100) (pc := 92) (dd bL_isMove dL_isMove_92) rfl).trans (if_pos c9)) ?_
      refine ru (rn_aload_n (pc := 100) (dd bL_isMove dL_isMove_100) rfl) ?_
      refine ru (rn_iload_n (pc := 101) (dd bL_isMove dL_isMove_101) rfl) ?_
      refine ru (rn_iconst (pc := 102) (dd bL_isMove dL_isMove_102) (by decide)) ?_
      obtain ⟨h7, e8, J9⟩ := S_c3 J6 hp
      refine ru ((rg_virtual (pc := 103) (dd bL_isMove dL_isMove_103) rfl rfl (by decide) (kc := 33) rfl (jPL J6) (as := [(1, 3), (0, p), (0, 3)]) rfl ⟨Nat.le_of_ble_eq_true rfl, Nat.le_of_ble_eq_true rfl, Nat.le_of_ble_eq_true rfl, Nat.le_of_ble_eq_true rfl⟩).trans (vret_v e8)) ?_
      refine ru ((rn_icmp_ne (t := 113) (pc := 106) (dd bL_isMove dL_isMove_106) rfl).trans (if_neg (by omega))) ?_
      refine ru (rn_iconst (pc := 109) (dd bL_isMove dL_isMove_109) (by decide)) ?_
      refine ru (rn_goto (t := 114) (pc := 110) (dd bL_isMove dL_isMove_110) rfl) ?_
      refine ru (rn_istore (pc := 114) (dd bL_isMove dL_isMove_114) (Nat.le_of_ble_eq_true rfl) (L2 := [(1, 3), (0, p), (0, mv), (0, li), (0, pl), (0, wa), (0, 1), (0, w), (0, 1), (9, 0), (9, 0)]) rfl) ?_
      exact ru_Q2 (K J9) (by omega) (by omega)
    · refine ru ((rn_if_eq (t := 100) (pc := 92) (dd bL_isMove dL_isMove_92) rfl).trans (if_neg c9)) ?_
      refine ru (rn_iload (pc := 95) (dd bL_isMove dL_isMove_95) rfl) ?_
      refine ru (rn_goto (t := 106) (pc := 97) (dd bL_isMove dL_isMove_97) rfl) ?_
      refine ru ((rn_icmp_ne (t := 113) (pc := 106) (dd bL_isMove dL_isMove_106) rfl).trans (if_neg (by omega))) ?_
      refine ru (rn_iconst (pc := 109) (dd bL_isMove dL_isMove_109) (by decide)) ?_
      refine ru (rn_goto (t := 114) (pc := 110) (dd bL_isMove dL_isMove_110) rfl) ?_
      refine ru (rn_istore (pc := 114) (dd bL_isMove dL_isMove_114) (Nat.le_of_ble_eq_true rfl) (L2 := [(1, 3), (0, p), (0, mv), (0, li), (0, pl), (0, wa), (0, 1), (0, w), (0, 1), (9, 0), (9, 0)]) rfl) ?_
      exact ru_Q2 (K J6) (by omega) (by omega)
  · refine ru ((rn_icmp_ne (t := 76) (pc := 62) (dd bL_isMove dL_isMove_62) rfl).trans (if_neg c1)) ?_
    refine ru (rn_iload (pc := 65) (dd bL_isMove dL_isMove_65) rfl) ?_
    refine ru (rn_aload_n (pc := 67) (dd bL_isMove dL_isMove_67) rfl) ?_
    refine ru (rn_iload_n (pc := 68) (dd bL_isMove dL_isMove_68) rfl) ?_
    refine ru (rn_iconst (pc := 69) (dd bL_isMove dL_isMove_69) (by decide)) ?_
    obtain ⟨h10, e11, J12⟩ := S_c1 J3 hp
    refine ru ((rg_virtual (pc := 70) (dd bL_isMove dL_isMove_70) rfl rfl (by decide) (kc := 33) rfl (jPL J3) (as := [(1, 3), (0, p), (0, 1)]) rfl ⟨Nat.le_of_ble_eq_true rfl, Nat.le_of_ble_eq_true rfl, Nat.le_of_ble_eq_true rfl, Nat.le_of_ble_eq_true rfl⟩).trans (vret_v e11)) ?_
    refine ru ((rn_icmp_eq (t := 80) (pc := 73) (dd bL_isMove dL_isMove_73) rfl).trans (if_neg (by omega))) ?_
    refine ru (rn_iconst (pc := 76) (dd bL_isMove dL_isMove_76) (by decide)) ?_
    refine ru (rn_goto (t := 81) (pc := 77) (dd bL_isMove dL_isMove_77) rfl) ?_
    refine ru ((rn_icmp_ne (t := 113) (pc := 81) (dd bL_isMove dL_isMove_81) rfl).trans (if_neg (by decide))) ?_
    refine ru (rn_aload_n (pc := 84) (dd bL_isMove dL_isMove_84) rfl) ?_
    refine ru (rn_iload_n (pc := 85) (dd bL_isMove dL_isMove_85) rfl) ?_
    refine ru (rn_iconst (pc := 86) (dd bL_isMove dL_isMove_86) (by decide)) ?_
    obtain ⟨h13, e14, J15⟩ := S_c4 J12 hp
    refine ru ((rg_virtual (pc := 87) (dd bL_isMove dL_isMove_87) rfl rfl (by decide) (kc := 33) rfl (jPL J12) (as := [(1, 3), (0, p), (0, 4)]) rfl ⟨Nat.le_of_ble_eq_true rfl, Nat.le_of_ble_eq_true rfl, Nat.le_of_ble_eq_true rfl, Nat.le_of_ble_eq_true rfl⟩).trans (vret_v e14)) ?_
    refine ru (rn_iload (pc := 90) (dd bL_isMove dL_isMove_90) rfl) ?_
    by_cases c9 : w = 0
    · refine ru ((rn_if_eq (t := 100) (pc := 92) (dd bL_isMove dL_isMove_92) rfl).trans (if_pos c9)) ?_
      refine ru (rn_aload_n (pc := 100) (dd bL_isMove dL_isMove_100) rfl) ?_
      refine ru (rn_iload_n (pc := 101) (dd bL_isMove dL_isMove_101) rfl) ?_
      refine ru (rn_iconst (pc := 102) (dd bL_isMove dL_isMove_102) (by decide)) ?_
      obtain ⟨h16, e17, J18⟩ := S_c3 J15 hp
      refine ru ((rg_virtual (pc := 103) (dd bL_isMove dL_isMove_103) rfl rfl (by decide) (kc := 33) rfl (jPL J15) (as := [(1, 3), (0, p), (0, 3)]) rfl ⟨Nat.le_of_ble_eq_true rfl, Nat.le_of_ble_eq_true rfl, Nat.le_of_ble_eq_true rfl, Nat.le_of_ble_eq_true rfl⟩).trans (vret_v e17)) ?_
      refine ru ((rn_icmp_ne (t := 113) (pc := 106) (dd bL_isMove dL_isMove_106) rfl).trans (if_neg (by omega))) ?_
      refine ru (rn_iconst (pc := 109) (dd bL_isMove dL_isMove_109) (by decide)) ?_
      refine ru (rn_goto (t := 114) (pc := 110) (dd bL_isMove dL_isMove_110) rfl) ?_
      refine ru (rn_istore (pc := 114) (dd bL_isMove dL_isMove_114) (Nat.le_of_ble_eq_true rfl) (L2 := [(1, 3), (0, p), (0, mv), (0, li), (0, pl), (0, wa), (0, 1), (0, w), (0, 1), (9, 0), (9, 0)]) rfl) ?_
      exact ru_Q2 (K J18) (by omega) (by omega)
    · refine ru ((rn_if_eq (t := 100) (pc := 92) (dd bL_isMove dL_isMove_92) rfl).trans (if_neg c9)) ?_
      refine ru (rn_iload (pc := 95) (dd bL_isMove dL_isMove_95) rfl) ?_
      refine ru (rn_goto (t := 106) (pc := 97) (dd bL_isMove dL_isMove_97) rfl) ?_
      refine ru ((rn_icmp_ne (t := 113) (pc := 106) (dd bL_isMove dL_isMove_106) rfl).trans (if_neg (by omega))) ?_
      refine ru (rn_iconst (pc := 109) (dd bL_isMove dL_isMove_109) (by decide)) ?_
      refine ru (rn_goto (t := 114) (pc := 110) (dd bL_isMove dL_isMove_110) rfl) ?_
      refine ru (rn_istore (pc := 114) (dd bL_isMove dL_isMove_114) (Nat.le_of_ble_eq_true rfl) (L2 := [(1, 3), (0, p), (0, mv), (0, li), (0, pl), (0, wa), (0, 1), (0, w), (0, 1), (9, 0), (9, 0)]) rfl) ?_
      exact ru_Q2 (K J15) (by omega) (by omega)
theorem mv_head0 {h a : vH} {n m p mv : Int} (j : JG n m h a) (hp : 0 ≤ p ∧ p < 4) (hm : 0 ≤ mv ∧ mv ≤ 7) (ho : ¬ a 2 289 p = 0) (md : mvd a p mv = 0)
    (K : ∀ {h1 a1 : vH} {m1 w : Int}, mvP a a1 p mv → JG (n + 1) m1 h1 a1 → (w = 0 ∧ ¬ mv = 2 ∧ ¬ mv = 3 ∧ mv < 6 ∨ ¬ w = 0 ∧ (mv = 2 ∨ mv = 3 ∨ ¬ mv < 6)) → Ru (Q2 (n + 3) (m1 + 27)) (vrun mL_isMove 53 [(1, 3), (0, p), (0, mv), (0, cuL a p), (0, cuX a p), (0, a 2 307 p), (0, 0), (0, w), (9, 0), (9, 0), (9, 0)] [] h1)) : Ru (Q2 (n + 3) (m + 31)) (vrun mL_isMove 0 [(1, 3), (0, p), (0, mv), (9, 0), (9, 0), (9, 0), (9, 0), (9, 0), (9, 0), (9, 0), (9, 0)] [] h) := by
  refine ru (rn_aload_n (pc := 0) (dd bL_isMove dL_isMove_0) rfl) ?_
  refine ru (rn_iload_n (pc := 1) (dd bL_isMove dL_isMove_1) rfl) ?_
  refine ru (rn_iconst (pc := 2) (dd bL_isMove dL_isMove_2) (by decide)) ?_
  obtain ⟨h1, e2, J3⟩ := S_c0 j hp
  refine ru ((rg_virtual (pc := 3) (dd bL_isMove dL_isMove_3) rfl rfl (by decide) (kc := 33) rfl (jPL j) (as := [(1, 3), (0, p), (0, 0)]) rfl ⟨Nat.le_of_ble_eq_true rfl, Nat.le_of_ble_eq_true rfl, Nat.le_of_ble_eq_true rfl, Nat.le_of_ble_eq_true rfl⟩).trans (vret_v e2)) ?_
  refine ru (rn_istore_n (pc := 6) (dd bL_isMove dL_isMove_6) (Nat.le_of_ble_eq_true rfl) (L2 := [(1, 3), (0, p), (0, mv), (0, cuL a p), (9, 0), (9, 0), (9, 0), (9, 0), (9, 0), (9, 0), (9, 0)]) rfl) ?_
  refine ru (rn_aload_n (pc := 7) (dd bL_isMove dL_isMove_7) rfl) ?_
  refine ru (rn_iload_n (pc := 8) (dd bL_isMove dL_isMove_8) rfl) ?_
  refine ru (rn_iconst (pc := 9) (dd bL_isMove dL_isMove_9) (by decide)) ?_
  obtain ⟨h4, e5, J6⟩ := S_c1 J3 hp
  refine ru ((rg_virtual (pc := 10) (dd bL_isMove dL_isMove_10) rfl rfl (by decide) (kc := 33) rfl (jPL J3) (as := [(1, 3), (0, p), (0, 1)]) rfl ⟨Nat.le_of_ble_eq_true rfl, Nat.le_of_ble_eq_true rfl, Nat.le_of_ble_eq_true rfl, Nat.le_of_ble_eq_true rfl⟩).trans (vret_v e5)) ?_
  refine ru (rn_istore (pc := 13) (dd bL_isMove dL_isMove_13) (Nat.le_of_ble_eq_true rfl) (L2 := [(1, 3), (0, p), (0, mv), (0, cuL a p), (0, cuX a p), (9, 0), (9, 0), (9, 0), (9, 0), (9, 0), (9, 0)]) rfl) ?_
  refine ru (rn_aload_n (pc := 15) (dd bL_isMove dL_isMove_15) rfl) ?_
  refine ru (rn_iload_n (pc := 16) (dd bL_isMove dL_isMove_16) rfl) ?_
  refine ru (rn_iconst (pc := 17) (dd bL_isMove dL_isMove_17) (by decide)) ?_
  obtain ⟨h7, e8, J9⟩ := S_c4 J6 hp
  refine ru ((rg_virtual (pc := 18) (dd bL_isMove dL_isMove_18) rfl rfl (by decide) (kc := 33) rfl (jPL J6) (as := [(1, 3), (0, p), (0, 4)]) rfl ⟨Nat.le_of_ble_eq_true rfl, Nat.le_of_ble_eq_true rfl, Nat.le_of_ble_eq_true rfl, Nat.le_of_ble_eq_true rfl⟩).trans (vret_v e8)) ?_
  refine ru (rn_istore (pc := 21) (dd bL_isMove dL_isMove_21) (Nat.le_of_ble_eq_true rfl) (L2 := [(1, 3), (0, p), (0, mv), (0, cuL a p), (0, cuX a p), (0, a 2 307 p), (9, 0), (9, 0), (9, 0), (9, 0), (9, 0)]) rfl) ?_
  refine ru (rn_aload_n (pc := 23) (dd bL_isMove dL_isMove_23) rfl) ?_
  refine ru (rn_iload_n (pc := 24) (dd bL_isMove dL_isMove_24) rfl) ?_
  refine ru (rn_iload_n (pc := 25) (dd bL_isMove dL_isMove_25) rfl) ?_
  obtain ⟨h10, a13, e11, J12, f14⟩ := S_moveD (mv := mv) J9 hp hm ho md
  refine ru ((rg_virtual (pc := 26) (dd bL_isMove dL_isMove_26) rfl rfl (by decide) (kc := 33) rfl (jPL J9) (as := [(1, 3), (0, p), (0, mv)]) rfl ⟨Nat.le_of_ble_eq_true rfl, Nat.le_of_ble_eq_true rfl, Nat.le_of_ble_eq_true rfl, Nat.le_of_ble_eq_true rfl⟩).trans (vret_v e11)) ?_
  refine ru (rn_istore (pc := 29) (dd bL_isMove dL_isMove_29) (Nat.le_of_ble_eq_true rfl) (L2 := [(1, 3), (0, p), (0, mv), (0, cuL a p), (0, cuX a p), (0, a 2 307 p), (0, 0), (9, 0), (9, 0), (9, 0), (9, 0)]) rfl) ?_
  refine ru (rn_iload_n (pc := 31) (dd bL_isMove dL_isMove_31) rfl) ?_
  refine ru (rn_iconst (pc := 32) (dd bL_isMove dL_isMove_32) (by decide)) ?_
  by_cases r1 : mv = 2
  · refine ru ((rn_icmp_eq (t := 46) (pc := 33) (dd bL_isMove dL_isMove_33) rfl).trans (if_pos r1)) ?_
    refine ru (rn_iconst (pc := 46) (dd bL_isMove dL_isMove_46) (by decide)) ?_
    refine ru (rn_goto (t := 51) (pc := 47) (dd bL_isMove dL_isMove_47) rfl) ?_
    refine ru (rn_istore (pc := 51) (dd bL_isMove dL_isMove_51) (Nat.le_of_ble_eq_true rfl) (L2 := [(1, 3), (0, p), (0, mv), (0, cuL a p), (0, cuX a p), (0, a 2 307 p), (0, 0), (0, 1), (9, 0), (9, 0), (9, 0)]) rfl) ?_
    exact ru_Q2 (K f14 J12 (Or.inr ⟨by decide, by omega⟩)) (by omega) (by omega)
  · refine ru ((rn_icmp_eq (t := 46) (pc := 33) (dd bL_isMove dL_isMove_33) rfl).trans (if_neg r1)) ?_
    refine ru (rn_iload_n (pc := 36) (dd bL_isMove dL_isMove_36) rfl) ?_
    refine ru (rn_iconst (pc := 37) (dd bL_isMove dL_isMove_37) (by decide)) ?_
    by_cases r2 : mv = 3
    · refine ru ((rn_icmp_eq (t := 46) (pc := 38) (dd bL_isMove dL_isMove_38) rfl).trans (if_pos r2)) ?_
      refine ru (rn_iconst (pc := 46) (dd bL_isMove dL_isMove_46) (by decide)) ?_
      refine ru (rn_goto (t := 51) (pc := 47) (dd bL_isMove dL_isMove_47) rfl) ?_
      refine ru (rn_istore (pc := 51) (dd bL_isMove dL_isMove_51) (Nat.le_of_ble_eq_true rfl) (L2 := [(1, 3), (0, p), (0, mv), (0, cuL a p), (0, cuX a p), (0, a 2 307 p), (0, 0), (0, 1), (9, 0), (9, 0), (9, 0)]) rfl) ?_
      exact ru_Q2 (K f14 J12 (Or.inr ⟨by decide, by omega⟩)) (by omega) (by omega)
    · refine ru ((rn_icmp_eq (t := 46) (pc := 38) (dd bL_isMove dL_isMove_38) rfl).trans (if_neg r2)) ?_
      refine ru (rn_iload_n (pc := 41) (dd bL_isMove dL_isMove_41) rfl) ?_
      refine ru (rn_iconst (pc := 42) (dd bL_isMove dL_isMove_42) (by decide)) ?_
      by_cases r3 : mv ≤ 5
      · refine ru ((rn_icmp_le (t := 50) (pc := 43) (dd bL_isMove dL_isMove_43) rfl).trans (if_pos r3)) ?_
        refine ru (rn_iconst (pc := 50) (dd bL_isMove dL_isMove_50) (by decide)) ?_
        refine ru (rn_istore (pc := 51) (dd bL_isMove dL_isMove_51) (Nat.le_of_ble_eq_true rfl) (L2 := [(1, 3), (0, p), (0, mv), (0, cuL a p), (0, cuX a p), (0, a 2 307 p), (0, 0), (0, 0), (9, 0), (9, 0), (9, 0)]) rfl) ?_
        exact ru_Q2 (K f14 J12 (Or.inl ⟨rfl, by omega, by omega, by omega⟩)) (by omega) (by omega)
      · refine ru ((rn_icmp_le (t := 50) (pc := 43) (dd bL_isMove dL_isMove_43) rfl).trans (if_neg r3)) ?_
        refine ru (rn_iconst (pc := 46) (dd bL_isMove dL_isMove_46) (by decide)) ?_
        refine ru (rn_goto (t := 51) (pc := 47) (dd bL_isMove dL_isMove_47) rfl) ?_
        refine ru (rn_istore (pc := 51) (dd bL_isMove dL_isMove_51) (Nat.le_of_ble_eq_true rfl) (L2 := [(1, 3), (0, p), (0, mv), (0, cuL a p), (0, cuX a p), (0, a 2 307 p), (0, 0), (0, 1), (9, 0), (9, 0), (9, 0)]) rfl) ?_
        exact ru_Q2 (K f14 J12 (Or.inr ⟨by decide, by omega⟩)) (by omega) (by omega)
theorem mv_head1 {h a : vH} {n m p mv : Int} (j : JG n m h a) (hp : 0 ≤ p ∧ p < 4) (hm : 0 ≤ mv ∧ mv ≤ 7) (ho : ¬ a 2 289 p = 0) (md : mvd a p mv = 1)
    (K : ∀ {h1 a1 : vH} {m1 w : Int}, mvP a a1 p mv → JG (n + 1) m1 h1 a1 → (w = 0 ∧ ¬ mv = 2 ∧ ¬ mv = 3 ∧ mv < 6 ∨ ¬ w = 0 ∧ (mv = 2 ∨ mv = 3 ∨ ¬ mv < 6)) → Ru (Q2 (n + 3) (m1 + 27)) (vrun mL_isMove 53 [(1, 3), (0, p), (0, mv), (0, cuL a p), (0, cuX a p), (0, a 2 307 p), (0, 1), (0, w), (9, 0), (9, 0), (9, 0)] [] h1)) : Ru (Q2 (n + 3) (m + 31)) (vrun mL_isMove 0 [(1, 3), (0, p), (0, mv), (9, 0), (9, 0), (9, 0), (9, 0), (9, 0), (9, 0), (9, 0), (9, 0)] [] h) := by
  refine ru (rn_aload_n (pc := 0) (dd bL_isMove dL_isMove_0) rfl) ?_
  refine ru (rn_iload_n (pc := 1) (dd bL_isMove dL_isMove_1) rfl) ?_
  refine ru (rn_iconst (pc := 2) (dd bL_isMove dL_isMove_2) (by decide)) ?_
  obtain ⟨h1, e2, J3⟩ := S_c0 j hp
  refine ru ((rg_virtual (pc := 3) (dd bL_isMove dL_isMove_3) rfl rfl (by decide) (kc := 33) rfl (jPL j) (as := [(1, 3), (0, p), (0, 0)]) rfl ⟨Nat.le_of_ble_eq_true rfl, Nat.le_of_ble_eq_true rfl, Nat.le_of_ble_eq_true rfl, Nat.le_of_ble_eq_true rfl⟩).trans (vret_v e2)) ?_
  refine ru (rn_istore_n (pc := 6) (dd bL_isMove dL_isMove_6) (Nat.le_of_ble_eq_true rfl) (L2 := [(1, 3), (0, p), (0, mv), (0, cuL a p), (9, 0), (9, 0), (9, 0), (9, 0), (9, 0), (9, 0), (9, 0)]) rfl) ?_
  refine ru (rn_aload_n (pc := 7) (dd bL_isMove dL_isMove_7) rfl) ?_
  refine ru (rn_iload_n (pc := 8) (dd bL_isMove dL_isMove_8) rfl) ?_
  refine ru (rn_iconst (pc := 9) (dd bL_isMove dL_isMove_9) (by decide)) ?_
  obtain ⟨h4, e5, J6⟩ := S_c1 J3 hp
  refine ru ((rg_virtual (pc := 10) (dd bL_isMove dL_isMove_10) rfl rfl (by decide) (kc := 33) rfl (jPL J3) (as := [(1, 3), (0, p), (0, 1)]) rfl ⟨Nat.le_of_ble_eq_true rfl, Nat.le_of_ble_eq_true rfl, Nat.le_of_ble_eq_true rfl, Nat.le_of_ble_eq_true rfl⟩).trans (vret_v e5)) ?_
  refine ru (rn_istore (pc := 13) (dd bL_isMove dL_isMove_13) (Nat.le_of_ble_eq_true rfl) (L2 := [(1, 3), (0, p), (0, mv), (0, cuL a p), (0, cuX a p), (9, 0), (9, 0), (9, 0), (9, 0), (9, 0), (9, 0)]) rfl) ?_
  refine ru (rn_aload_n (pc := 15) (dd bL_isMove dL_isMove_15) rfl) ?_
  refine ru (rn_iload_n (pc := 16) (dd bL_isMove dL_isMove_16) rfl) ?_
  refine ru (rn_iconst (pc := 17) (dd bL_isMove dL_isMove_17) (by decide)) ?_
  obtain ⟨h7, e8, J9⟩ := S_c4 J6 hp
  refine ru ((rg_virtual (pc := 18) (dd bL_isMove dL_isMove_18) rfl rfl (by decide) (kc := 33) rfl (jPL J6) (as := [(1, 3), (0, p), (0, 4)]) rfl ⟨Nat.le_of_ble_eq_true rfl, Nat.le_of_ble_eq_true rfl, Nat.le_of_ble_eq_true rfl, Nat.le_of_ble_eq_true rfl⟩).trans (vret_v e8)) ?_
  refine ru (rn_istore (pc := 21) (dd bL_isMove dL_isMove_21) (Nat.le_of_ble_eq_true rfl) (L2 := [(1, 3), (0, p), (0, mv), (0, cuL a p), (0, cuX a p), (0, a 2 307 p), (9, 0), (9, 0), (9, 0), (9, 0), (9, 0)]) rfl) ?_
  refine ru (rn_aload_n (pc := 23) (dd bL_isMove dL_isMove_23) rfl) ?_
  refine ru (rn_iload_n (pc := 24) (dd bL_isMove dL_isMove_24) rfl) ?_
  refine ru (rn_iload_n (pc := 25) (dd bL_isMove dL_isMove_25) rfl) ?_
  obtain ⟨h10, a13, e11, J12, f14⟩ := S_moveD (mv := mv) J9 hp hm ho md
  refine ru ((rg_virtual (pc := 26) (dd bL_isMove dL_isMove_26) rfl rfl (by decide) (kc := 33) rfl (jPL J9) (as := [(1, 3), (0, p), (0, mv)]) rfl ⟨Nat.le_of_ble_eq_true rfl, Nat.le_of_ble_eq_true rfl, Nat.le_of_ble_eq_true rfl, Nat.le_of_ble_eq_true rfl⟩).trans (vret_v e11)) ?_
  refine ru (rn_istore (pc := 29) (dd bL_isMove dL_isMove_29) (Nat.le_of_ble_eq_true rfl) (L2 := [(1, 3), (0, p), (0, mv), (0, cuL a p), (0, cuX a p), (0, a 2 307 p), (0, 1), (9, 0), (9, 0), (9, 0), (9, 0)]) rfl) ?_
  refine ru (rn_iload_n (pc := 31) (dd bL_isMove dL_isMove_31) rfl) ?_
  refine ru (rn_iconst (pc := 32) (dd bL_isMove dL_isMove_32) (by decide)) ?_
  by_cases r1 : mv = 2
  · refine ru ((rn_icmp_eq (t := 46) (pc := 33) (dd bL_isMove dL_isMove_33) rfl).trans (if_pos r1)) ?_
    refine ru (rn_iconst (pc := 46) (dd bL_isMove dL_isMove_46) (by decide)) ?_
    refine ru (rn_goto (t := 51) (pc := 47) (dd bL_isMove dL_isMove_47) rfl) ?_
    refine ru (rn_istore (pc := 51) (dd bL_isMove dL_isMove_51) (Nat.le_of_ble_eq_true rfl) (L2 := [(1, 3), (0, p), (0, mv), (0, cuL a p), (0, cuX a p), (0, a 2 307 p), (0, 1), (0, 1), (9, 0), (9, 0), (9, 0)]) rfl) ?_
    exact ru_Q2 (K f14 J12 (Or.inr ⟨by decide, by omega⟩)) (by omega) (by omega)
  · refine ru ((rn_icmp_eq (t := 46) (pc := 33) (dd bL_isMove dL_isMove_33) rfl).trans (if_neg r1)) ?_
    refine ru (rn_iload_n (pc := 36) (dd bL_isMove dL_isMove_36) rfl) ?_
    refine ru (rn_iconst (pc := 37) (dd bL_isMove dL_isMove_37) (by decide)) ?_
    by_cases r2 : mv = 3
    · refine ru ((rn_icmp_eq (t := 46) (pc := 38) (dd bL_isMove dL_isMove_38) rfl).trans (if_pos r2)) ?_
      refine ru (rn_iconst (pc := 46) (dd bL_isMove dL_isMove_46) (by decide)) ?_
      refine ru (rn_goto (t := 51) (pc := 47) (dd bL_isMove dL_isMove_47) rfl) ?_
      refine ru (rn_istore (pc := 51) (dd bL_isMove dL_isMove_51) (Nat.le_of_ble_eq_true rfl) (L2 := [(1, 3), (0, p), (0, mv), (0, cuL a p), (0, cuX a p), (0, a 2 307 p), (0, 1), (0, 1), (9, 0), (9, 0), (9, 0)]) rfl) ?_
      exact ru_Q2 (K f14 J12 (Or.inr ⟨by decide, by omega⟩)) (by omega) (by omega)
    · refine ru ((rn_icmp_eq (t := 46) (pc := 38) (dd bL_isMove dL_isMove_38) rfl).trans (if_neg r2)) ?_
      refine ru (rn_iload_n (pc := 41) (dd bL_isMove dL_isMove_41) rfl) ?_
      refine ru (rn_iconst (pc := 42) (dd bL_isMove dL_isMove_42) (by decide)) ?_
      by_cases r3 : mv ≤ 5
      · refine ru ((rn_icmp_le (t := 50) (pc := 43) (dd bL_isMove dL_isMove_43) rfl).trans (if_pos r3)) ?_
        refine ru (rn_iconst (pc := 50) (dd bL_isMove dL_isMove_50) (by decide)) ?_
        refine ru (rn_istore (pc := 51) (dd bL_isMove dL_isMove_51) (Nat.le_of_ble_eq_true rfl) (L2 := [(1, 3), (0, p), (0, mv), (0, cuL a p), (0, cuX a p), (0, a 2 307 p), (0, 1), (0, 0), (9, 0), (9, 0), (9, 0)]) rfl) ?_
        exact ru_Q2 (K f14 J12 (Or.inl ⟨rfl, by omega, by omega, by omega⟩)) (by omega) (by omega)
      · refine ru ((rn_icmp_le (t := 50) (pc := 43) (dd bL_isMove dL_isMove_43) rfl).trans (if_neg r3)) ?_
        refine ru (rn_iconst (pc := 46) (dd bL_isMove dL_isMove_46) (by decide)) ?_
        refine ru (rn_goto (t := 51) (pc := 47) (dd bL_isMove dL_isMove_47) rfl) ?_
        refine ru (rn_istore (pc := 51) (dd bL_isMove dL_isMove_51) (Nat.le_of_ble_eq_true rfl) (L2 := [(1, 3), (0, p), (0, mv), (0, cuL a p), (0, cuX a p), (0, a 2 307 p), (0, 1), (0, 1), (9, 0), (9, 0), (9, 0)]) rfl) ?_
        exact ru_Q2 (K f14 J12 (Or.inr ⟨by decide, by omega⟩)) (by omega) (by omega)
theorem L_move {h a : vH} {n m p mv : Int} (j : JG n m h a) (hp : 0 ≤ p ∧ p < 4) (hm : 0 ≤ mv ∧ mv ≤ 7) (ho : ¬ a 2 289 p = 0) : ∃ h1 a1, vcl mL_isMove [(1, 3), (0, p), (0, mv)] h = some (.inl (some (0, 1)), h1) ∧ JG (n + 3) (m + 31) h1 a1 := by
  refine ru_2 ?_
  refine ru (show _ = vrun mL_isMove 0 [(1, 3), (0, p), (0, mv), (9, 0), (9, 0), (9, 0), (9, 0), (9, 0), (9, 0), (9, 0), (9, 0)] [] h from rfl) ?_
  have g := j.2.1.1.1.1
  have cq := cu_q g hp
  have up2 : mv = 2 → (gMv a p mv).1 ≤ cuL a p := fun z => by
    subst z
    exact (Rw_up g hp).1 (by decide)
  have up3 : mv = 3 → cuL a p ≤ (gMv a p mv).1 := fun z => by
    subst z
    exact (Rw_up g hp).2 (by decide)
  have W : ∀ {a1 : vH} {w : Int}, mvP a a1 p mv → (w = 0 ∧ ¬ mv = 2 ∧ ¬ mv = 3 ∧ mv < 6 ∨ ¬ w = 0 ∧ (mv = 2 ∨ mv = 3 ∨ ¬ mv < 6)) → (w = 0 ∧ a1 2 307 p = cuC a1 p ∨ ¬ w = 0 ∧ a1 2 307 p = a 2 307 p) := fun f z => by
    have e := f.2.2.2.1
    rcases z with ⟨z1, z2⟩ | ⟨z1, z2⟩
    · rw [if_neg (by omega)] at e
      exact Or.inl ⟨z1, e⟩
    · rw [if_pos z2] at e
      exact Or.inr ⟨z1, e⟩
  by_cases c : (gMv a p mv).1 = cuL a p ∧ (gMv a p mv).2 = cuX a p
  · have md : mvd a p mv = 0 := b2i_f (fun z => z c)
    refine mv_head0 j hp hm ho md (fun f j1 hw => ?_)
    have eL := f.2.2.1.1
    have eX := f.2.2.1.2
    refine ru_Q2 (mv_tail0 j1 hp ⟨by omega, by omega⟩ (W f hw) (fun j2 => mv_mid0 j2 hp (Or.inl rfl) (fun z => by omega) (fun z => by omega))) (by omega) (Int.le_refl _)
  · have md : mvd a p mv = 1 := b2i_t c
    refine mv_head1 j hp hm ho md (fun {h1 a1 m1 w} f j1 hw => ?_)
    have eL := f.2.2.1.1
    have eX := f.2.2.1.2
    refine ru_Q2 (mv_tail1 j1 hp (fun z => c ⟨by omega, by omega⟩) (W f hw) (fun {h2 m2} j2 => ?_)) (by omega) (Int.le_refl _)
    by_cases o1 : mv = 1
    · subst o1
      have eB : gMv a p 1 = BeF a p (cuL a p) (cuX a p) := rfl
      have nB : ¬ BeF a p (cuL a p) (cuX a p) = (cuL a p, cuX a p) := fun z => c (by rw [eB, z]; exact ⟨rfl, rfl⟩)
      have up := (BeF_s g hp cq).resolve_left nB
      rw [eB] at eL eX
      rw [← eL, ← eX] at up
      have g1 := j2.2.1.1.1.1
      have ho1 : ¬ a1 2 289 p = 0 := by rw [f.2.1]; exact ho
      have eA1 : gMv a1 p 0 = AhF a p (BeF a p (cuL a p) (cuX a p)).1 (BeF a p (cuL a p) (cuX a p)).2 := by
        show AhF a1 p (cuL a1 p) (cuX a1 p) = _
        rw [AhF_qe f.1, eL, eX]
      refine mv_mid1 j2 hp (by omega) (fun {h3 d} j3 => ?_)
      by_cases b : (gMv a1 p 0).1 = cuL a1 p ∧ (gMv a1 p 0).2 = cuX a1 p
      · exact mv_back0 j3 hp ho1 (b2i_f (fun z => z b))
      · have nb : ¬ AhF a p (BeF a p (cuL a p) (cuX a p)).1 (BeF a p (cuL a p) (cuX a p)).2 = BeF a p (cuL a p) (cuX a p) := fun z => b (by rw [eA1, z, eL, eX]; exact ⟨rfl, rfl⟩)
        have bb := BeF_back g hp cq nB nb
        have g3 : ∀ a2, eqA a1 a2 → cuL a2 p = (gMv a1 p 0).1 → cuX a2 p = (gMv a1 p 0).2 → gMv a2 p 1 = (cuL a1 p, cuX a1 p) := fun a2 y z1 z2 => by
          have e2 : gMv a2 p 1 = BeF a2 p (cuL a2 p) (cuX a2 p) := rfl
          rw [e2, BeF_qe (eqA_tr f.1 y), z1, z2, eA1, bb, eL, eX]
        refine mv_back1 j3 hp ho1 (b2i_t b) (fun {x y} z1 z2 => ?_) (fun a2 y z1 z2 => ?_) g3
        · have dn := (AhF_s g1 hp (cu_q g1 hp)).resolve_left (fun z => b (by
            have e : gMv a1 p 0 = AhF a1 p (cuL a1 p) (cuX a1 p) := rfl
            rw [e, z]; exact ⟨rfl, rfl⟩))
          rw [z1, z2]
          exact dn
        · refine b2i_t (fun z => b ?_)
          rw [g3 a2 y z1 z2] at z
          rw [← z1, ← z2]
          exact ⟨z.1.symm, z.2.symm⟩
    · exact mv_mid0 j2 hp (Or.inr o1) (fun z => by have := up2 z; omega) (fun z => by have := up3 z; omega)
