/-! between the constructors and the first call: what holds between two calls -/
section FS2
variable {h : vH} {p P : Int}
theorem f_z (F : fH h) (c : Nat) {q i t n : Int} (hq : q = 282 + (c : Int)) (hc : (ModelL 282)[c]? = some (xA t n [])) (ne : ¬ q = 310) : h 2 q i = 0 := fm F c hq hc (fun z => ne z.2) cA_0
theorem f_p4 {f : Int → Prop} (a0 : f 0) (a1 : f 1) (a2 : f 2) (a3 : f 3) : ∀ p, 0 ≤ p → p < 4 → f p := fun p u v => by
  obtain z | z | z | z : p = 0 ∨ p = 1 ∨ p = 2 ∨ p = 3 := by omega
  · subst z; exact a0
  · subst z; exact a1
  · subst z; exact a2
  · subst z; exact a3
theorem f_ln (F : fH h) : h 1504 282 0 = 1 := fm F 0 rfl rfl (by decide) rfl
theorem f_th (F : fH h) : h 1500 282 0 = 0 := fm F 0 rfl rfl (by decide) rfl
theorem f_w (F : fH h) : ∀ p, 0 ≤ p → p < 4 → h 2 286 p = 20 := f_p4 (fm F 4 rfl rfl (by decide) rfl) (fm F 4 rfl rfl (by decide) rfl) (fm F 4 rfl rfl (by decide) rfl) (fm F 4 rfl rfl (by decide) rfl)
theorem f_o0 (F : fH h) : h 2 289 0 = 1 := fm F 7 rfl rfl (by decide) rfl
theorem f_o1 (F : fH h) : h 2 289 1 = 0 := fm F 7 rfl rfl (by decide) rfl
theorem f_o2 (F : fH h) : h 2 289 2 = 0 := fm F 7 rfl rfl (by decide) rfl
theorem f_o3 (F : fH h) : h 2 289 3 = 0 := fm F 7 rfl rfl (by decide) rfl
theorem f_wt (F : fH h) : ∀ p, 0 ≤ p → p < 4 → h 2 290 p = 1 := f_p4 (fm F 8 rfl rfl (by decide) rfl) (fm F 8 rfl rfl (by decide) rfl) (fm F 8 rfl rfl (by decide) rfl) (fm F 8 rfl rfl (by decide) rfl)
theorem f_ls (F : fH h) : ∀ p, 0 ≤ p → p < 4 → h 2 291 p = 3 := f_p4 (fm F 9 rfl rfl (by decide) rfl) (fm F 9 rfl rfl (by decide) rfl) (fm F 9 rfl rfl (by decide) rfl) (fm F 9 rfl rfl (by decide) rfl)
theorem f_lk (F : fH h) : ∀ p, 0 ≤ p → p < 4 → h 2 292 p = -1 := f_p4 (fm F 10 rfl rfl (by decide) rfl) (fm F 10 rfl rfl (by decide) rfl) (fm F 10 rfl rfl (by decide) rfl) (fm F 10 rfl rfl (by decide) rfl)
theorem f_len (F : fH h) {i : Int} : h 2 284 i = 0 := f_z F 2 rfl rfl (by decide)
theorem f_sp (F : fH h) {i : Int} : h 2 293 i = 0 := f_z F 11 rfl rfl (by decide)
theorem f_vi (F : fH h) {i : Int} : h 2 297 i = 0 := f_z F 15 rfl rfl (by decide)
theorem f_fo (F : fH h) {i : Int} : h 2 301 i = 0 := f_z F 19 rfl rfl (by decide)
theorem f_mG (F : fH h) : mG h := by
  refine ⟨f_Model F, by rw [f_ln F]; decide, fun l _ _ => by rw [f_len F]; decide, fun p _ _ => ?_⟩
  unfold mOKp
  rw [f_sp F, f_vi F, f_fo F, f_w F p ‹_› ‹_›, f_z F 5 (q := 287) rfl rfl (by decide)]
  exact ⟨⟨by decide, by decide, by decide, by decide, by decide, by decide, fun k a b => by omega⟩, by decide, by decide⟩
theorem f_iG (F : fH h) : iG h := by
  refine ⟨f_mG F, fun p u v => ?_⟩
  rw [f_sp F, f_vi F, f_fo F, f_ln F, f_z F 23 (q := 305) rfl rfl (by decide), f_z F 24 (q := 306) rfl rfl (by decide), f_z F 26 (q := 308) rfl rfl (by decide), f_z F 27 (q := 309) rfl rfl (by decide), f_z F 6 (q := 288) rfl rfl (by decide), f_len F]
  exact ⟨fun k a b => by omega, fun k a b => by omega, fun k a b => by omega, by decide, by decide, by decide⟩
theorem f_h (F : fH h) : ∀ p, 0 ≤ p → p < 4 → (0 ≤ h 2 310 p ∧ h 2 310 p ≤ 24) ∧ (¬ h 2 289 p = 0 → 1 ≤ h 2 310 p) := by
  obtain ⟨-, -, -, -, a0, a1, a2, a3⟩ := id F
  refine f_p4 ?_ ?_ ?_ ?_
  · rw [a0]; exact ⟨by decide, fun _ => by decide⟩
  · rw [a1, f_o1 F]; exact ⟨by decide, fun n => absurd rfl n⟩
  · rw [a2, f_o2 F]; exact ⟨by decide, fun n => absurd rfl n⟩
  · rw [a3, f_o3 F]; exact ⟨by decide, fun n => absurd rfl n⟩
theorem f_iH (F : fH h) : iH h := by
  refine ⟨fun p u v => ?_, ⟨0, by decide, by decide, by rw [f_o0 F]; decide⟩, f_h F, ?_, ⟨?_, fun i u v => ?_⟩, fun p u v => ⟨?_, fun k a b => ?_⟩, fun l x u v w y => ?_⟩
  · rw [f_wt F p u v, f_ls F p u v, f_lk F p u v]
    refine ⟨by decide, by decide, Or.inl rfl, ?_⟩
    revert u v
    revert p
    exact f_p4 (Or.inr (f_o0 F)) (Or.inl (f_o1 F)) (Or.inl (f_o2 F)) (Or.inl (f_o3 F))
  · show 0 + (if h 2 289 0 = 0 then 0 else if h 2 292 0 = -1 then h 2 291 0 else h 2 292 0) + (if h 2 289 1 = 0 then 0 else if h 2 292 1 = -1 then h 2 291 1 else h 2 292 1) + (if h 2 289 2 = 0 then 0 else if h 2 292 2 = -1 then h 2 291 2 else h 2 292 2) + (if h 2 289 3 = 0 then 0 else if h 2 292 3 = -1 then h 2 291 3 else h 2 292 3) ≤ 24
    rw [f_o0 F, f_o1 F, f_o2 F, f_o3 F, f_lk F 0 (by decide) (by decide), f_ls F 0 (by decide) (by decide), if_neg (by decide : ¬ (1 : Int) = 0), if_pos rfl, if_pos rfl, if_pos rfl, if_pos rfl]
    decide
  · rw [show h 1559 282 0 = 0 from fm F 0 rfl rfl (by decide) rfl]; decide
  · rw [show h 1559 282 0 = 0 from fm F 0 rfl rfl (by decide) rfl] at v; omega
  · rw [f_z F 47 (q := 329) rfl rfl (by decide)]; decide
  · rw [f_z F 47 (q := 329) rfl rfl (by decide)] at b; omega
  · rw [f_len F] at y; omega
theorem f_iN (F : fH h) : iN 0 h := by
  refine ⟨⟨f_iG F, f_iH F, fun l u v => Or.inl (f_z F 3 rfl rfl (by decide)), fun k u v => Or.inl (f_z F 22 rfl rfl (by decide))⟩, fun k u v => ?_, fun k u v b b0 b1 b2 => ?_⟩
  · rw [f_z F 12 (q := 294) rfl rfl (by decide), f_z F 13 (q := 295) rfl rfl (by decide), f_z F 14 (q := 296) rfl rfl (by decide), f_z F 16 (q := 298) rfl rfl (by decide), f_z F 17 (q := 299) rfl rfl (by decide), f_z F 20 (q := 302) rfl rfl (by decide), f_z F 21 (q := 303) rfl rfl (by decide), f_ln F, f_len F]
    decide
  · rw [f_z F 18 (q := 300) rfl rfl (by decide)]
    obtain z | z | z | z | z | z | z | z : b = 0 ∨ b = 8 ∨ b = 16 ∨ b = 24 ∨ b = 32 ∨ b = 40 ∨ b = 48 ∨ b = 56 := by omega
    all_goals (subst z; decide)
theorem f_dL (F : fH h) : ∀ p t, 0 ≤ p → p < 4 → 0 ≤ t → t < 3 → dL h p t = 1 := fun p t u v w y => by
  obtain z | z | z : t = 0 ∨ t = 1 ∨ t = 2 := by omega
  · exact pn F (P := 138 + 36 * p) ⟨rfl, u, v⟩ 2 (by omega) (by decide) rfl rfl
  · exact pn F (P := 138 + 36 * p) ⟨rfl, u, v⟩ 3 (by omega) (by decide) rfl rfl
  · exact pn F (P := 138 + 36 * p) ⟨rfl, u, v⟩ 4 (by omega) (by decide) rfl rfl
theorem f_nL (F : fH h) {t : Int} : nL h p t = 0 := by
  unfold nL
  rw [f_sp F, f_vi F, f_fo F]
  split
  · rfl
  · split <;> rfl
theorem f_li (F : fH h) {i : Int} (u : 0 ≤ i) (v : i < 60) : h 2 5 i = 6 + 2 * i := by
  refine fp F (c := 1 + 1) rfl (pl_T (by decide) rfl) ?_
  show (if 0 ≤ i then (ptL 6 60).getD i.toNat 0 else 0) = _
  rw [if_pos u, List.getD_eq_getElem?_getD, ptL_get 60 i.toNat (by omega)]
  show 6 + 2 * (i.toNat : Int) = _
  omega
theorem f_l0 (F : fH h) {k : Nat} {i j v : Int} (u : 0 ≤ j) (w : j < 60) (e : cO 25 [(600, 6 + 2 * (j.toNat : Int) + 1)] k i = v) : h k (6 + 2 * j) i = v := by
  refine fp F (c := 1 + (2 + 2 * j.toNat)) (by omega) (pl_T (by omega) ?_) e
  show ([_, _] ++ linesL 6 60)[2 + 2 * j.toNat]? = _
  rw [List.getElem?_append_right (by show 2 ≤ _; omega)]
  show (linesL 6 60)[2 + 2 * j.toNat - 2]? = _
  rw [show 2 + 2 * j.toNat - 2 = 2 * j.toNat by omega]
  exact linesL_0 60 j.toNat (by omega)
theorem f_l1 (F : fH h) {k : Nat} {i j v : Int} (u : 0 ≤ j) (w : j < 60) (e : xA 1 80 [] k i = v) : h k (6 + 2 * j + 1) i = v := by
  refine fp F (c := 1 + (2 + (2 * j.toNat + 1))) (by omega) (pl_T (by omega) ?_) e
  show ([_, _] ++ linesL 6 60)[2 + (2 * j.toNat + 1)]? = _
  rw [List.getElem?_append_right (by show 2 ≤ _; omega)]
  show (linesL 6 60)[2 + (2 * j.toNat + 1) - 2]? = _
  rw [show 2 + (2 * j.toNat + 1) - 2 = 2 * j.toNat + 1 by omega]
  exact linesL_1 60 j.toNat (by omega)
theorem f_shl (F : fH h) {i : Int} (u : 0 ≤ i) (v : i < 60) : shLine h (6 + 2 * i) := ⟨f_l0 F u v rfl, f_l0 F u v (by show 6 + 2 * (i.toNat : Int) + 1 = _; omega), f_l1 F u v rfl, f_l1 F u v rfl⟩
theorem f_Tx (F : fH h) : cTx h h := by
  refine ⟨(f_PL F).2.2.1, ⟨?_, by rw [f_ln F]; decide⟩, fun i u v => ?_, fun i j u v w => ?_, fun i u v => ?_⟩
  · rw [f_ln F]
    exact fp F (c := 1 + 0) rfl (pl_T (by decide) rfl) rfl
  · rw [f_li F u v]
    exact ⟨f_shl F u v, by omega, by omega⟩
  · rw [f_li F (by omega) (by omega), f_li F (by omega) (by omega)]
    omega
  · rw [f_ln F] at v
    rw [f_li F u (by omega), f_z F 3 (q := 285) rfl rfl (by decide)]
    refine ⟨⟨f_shl F u (by omega), ?_, fun x a b => ?_⟩, f_l0 F u (by omega) rfl⟩
    · rw [f_len F]
      exact f_l0 F u (by omega) rfl
    · rw [f_len F] at b
      omega
theorem rep_get {n : Nat} {v i : Int} (u : 0 ≤ i) (w : i < n) : xA 1 n (List.replicate n v) 2 i = v := by
  unfold xA
  rw [if_pos rfl, if_pos u, List.getD_eq_getElem?_getD, List.getElem?_replicate, if_pos (by omega)]
  rfl
theorem f_Pan (F : fH h) (u : 0 ≤ p) (v : p < 4) : h 2 126 p = 138 + 36 * p ∧ cPan h h p ∧ cPic h h p (138 + 36 * p) := by
  refine ⟨?_, ?_⟩
  · exact f_p4 (f := fun p => h 2 126 p = 138 + 36 * p) (fp F (c := 123 + 0) rfl (pl_A (by decide) rfl) rfl) (fp F (c := 123 + 0) rfl (pl_A (by decide) rfl) rfl) (fp F (c := 123 + 0) rfl (pl_A (by decide) rfl) rfl) (fp F (c := 123 + 0) rfl (pl_A (by decide) rfl) rfl) p u v
  unfold cPan
  obtain ⟨P, eP⟩ : ∃ P, P = 138 + 36 * p := ⟨_, rfl⟩
  have hP : P = 138 + 36 * p ∧ 0 ≤ p ∧ p < 4 := ⟨eP, u, v⟩
  rw [← eP]
  have li : ∀ (c : Nat), c < 36 → (PaneL P 4)[c]? = some (cO 20 [(101, 1), (100, 0)]) → cLi h (P + c) 0 := fun c hc e => ⟨pn F hP c rfl hc e rfl, pn F hP c rfl hc e rfl, fun n => absurd n (by decide)⟩
  have pl : ∀ (c : Nat), c < 36 → (PaneL P 4)[c]? = some (cO 28 [(902, 0), (901, 0), (900, 0)]) → cPl h (P + c) 0 0 0 := fun c hc e => ⟨pn F hP c rfl hc e rfl, pn F hP c rfl hc e rfl, pn F hP c rfl hc e rfl⟩
  have sP := f_Pane F hP
  refine ⟨⟨⟨sP, ?_, ?_, ?_, ?_, ?_, ?_, ?_⟩, ⟨fun l a b => Or.inl ?_, Or.inl ?_⟩, Or.inl ?_⟩, f_Pic28 F hP, f_Pic32 F hP, Or.inl ⟨?_, ?_⟩, ?_, ?_, fun k a b => ?_⟩
  · have l1 := li 2 (by decide) rfl
    have l2 := li 3 (by decide) rfl
    have l3 := li 4 (by decide) rfl
    unfold cLay
    rw [f_sp F, f_vi F, f_fo F, show P + 1 + 1 = P + ((2 : Nat) : Int) by omega, show P + 1 + 2 = P + ((3 : Nat) : Int) by omega, show P + 1 + 3 = P + ((4 : Nat) : Int) by omega]
    exact ⟨sP.2.2.2.1, l1, l2, l3, fun j a b => by omega, fun j a b => by omega, fun j a b => by omega⟩
  · rw [f_z F 23 (q := 305) rfl rfl (by decide), f_z F 24 (q := 306) rfl rfl (by decide)]
    exact pl 23 (by decide) rfl
  · rw [f_z F 26 (q := 308) rfl rfl (by decide), f_z F 27 (q := 309) rfl rfl (by decide)]
    exact pl 24 (by decide) rfl
  · rw [f_z F 25 (q := 307) rfl rfl (by decide)]
    exact pn F hP 0 (by omega) (by decide) rfl rfl
  · rw [f_w F p u v]
    exact pn F hP 0 (by omega) (by decide) rfl rfl
  · rw [f_z F 5 (q := 287) rfl rfl (by decide)]
    exact pn F hP 0 (by omega) (by decide) rfl rfl
  · rw [f_z F 6 (q := 288) rfl rfl (by decide)]
    exact pn F hP 0 (by omega) (by decide) rfl rfl
  · exact pn F hP 26 (by omega) (by decide) rfl (rep_get a b)
  · exact pn F hP 0 (by omega) (by decide) rfl rfl
  · exact pn F hP 0 (by omega) (by decide) rfl rfl
  · exact pn F hP 0 (by omega) (by decide) rfl rfl
  · exact pn F hP 0 (by omega) (by decide) rfl rfl
  · rw [f_z F 48 (q := 330) rfl rfl (by decide)]
    exact pn F hP 0 (by omega) (by decide) rfl rfl
  · rw [f_z F 47 (q := 329) rfl rfl (by decide), show h 717 P 0 = P + 28 from pn F hP 0 (by omega) (by decide) rfl rfl]
    exact pn F hP 28 rfl (by decide) rfl rfl
  · rw [f_z F 47 (q := 329) rfl rfl (by decide)] at b
    omega
theorem f_J (F : fH h) : JN 0 h := by
  refine ⟨⟨f_PL F, f_Tx F, fun p u v => f_Pan F u v, ?_, ?_, ?_⟩, f_iN F, F.2.2.1, fun p t u v w y => Or.inl (f_dL F p t u v w y)⟩
  · have s : ∀ (k : Nat) {q i v : Int} {cc : cC}, k < 12 → q = 126 + (k : Int) → PLa[k]? = some cc → cc 2 i = v → h 2 q i = v := fun k q i v cc hk hq e hv => fp F (c := 123 + k) (by omega) (pl_A hk e) hv
    have o := f_o0 F
    obtain ⟨-, -, -, -, a0, a1, a2, a3⟩ := id F
    refine fun p u v => ⟨⟨?_, ?_, ?_, ?_⟩, ?_⟩
    · revert u v; revert p
      exact f_p4 ((s 2 (by decide) rfl rfl rfl).trans (f_o0 F).symm) ((s 2 (by decide) rfl rfl rfl).trans (f_o1 F).symm) ((s 2 (by decide) rfl rfl rfl).trans (f_o2 F).symm) ((s 2 (by decide) rfl rfl rfl).trans (f_o3 F).symm)
    · rw [f_wt F p u v]
      revert u v; revert p
      exact f_p4 (s 3 (by decide) rfl rfl rfl) (s 3 (by decide) rfl rfl rfl) (s 3 (by decide) rfl rfl rfl) (s 3 (by decide) rfl rfl rfl)
    · rw [f_ls F p u v]
      revert u v; revert p
      exact f_p4 (s 4 (by decide) rfl rfl rfl) (s 4 (by decide) rfl rfl rfl) (s 4 (by decide) rfl rfl rfl) (s 4 (by decide) rfl rfl rfl)
    · rw [f_lk F p u v]
      revert u v; revert p
      exact f_p4 (s 5 (by decide) rfl rfl rfl) (s 5 (by decide) rfl rfl rfl) (s 5 (by decide) rfl rfl rfl) (s 5 (by decide) rfl rfl rfl)
    · revert u v; revert p
      exact f_p4 ((s 6 (by decide) rfl rfl rfl).trans a0.symm) ((s 6 (by decide) rfl rfl rfl).trans a1.symm) ((s 6 (by decide) rfl rfl rfl).trans a2.symm) ((s 6 (by decide) rfl rfl rfl).trans a3.symm)
  · have z : h 1559 282 0 = 0 := fm F 0 rfl rfl (by decide) rfl
    have y : h 1406 3 0 = 0 := fp F (c := 0) rfl pl_0 rfl
    unfold cLog
    rw [z, y]
    exact ⟨fp F (c := 0) rfl pl_0 rfl, by decide, by decide, fun i u v => by omega⟩
  · have N := F.2.2.2.1
    refine ⟨by omega, fun p t u v w y => ?_, fun p t p2 t2 u v w y u2 v2 w2 y2 e => Or.inl (f_dL F p t u v w y), fun p t j u v w y a b => ?_, fun p t j p2 t2 j2 u v w y a b => ?_⟩
    · rw [f_dL F p t u v w y]
      exact ⟨Or.inl rfl, by omega⟩
    · rw [f_nL F] at b
      omega
    · rw [f_nL F] at b
      omega
end FS2
