/-! the calls, as the property uses them -/
section SCL
variable {h a : vH} {n m p q l x s u v w d f r y : Int}
theorem jPL (j : JG n m h a) : h 0 3 0 = 33 := j.1.1.1
theorem JG_le {n2 m2 : Int} (j : JG n m h a) (e1 : n ≤ n2) (e2 : m ≤ m2) : JG n2 m2 h a := ⟨j.1, ⟨⟨j.2.1.1.1, iV_up j.2.1.1.2.1 e1, j.2.1.1.2.2⟩, j.2.1.2⟩, j.2.2.1, by have := j.2.2.2.1; omega, by have := j.2.2.2.2.1; omega, j.2.2.2.2.2⟩
theorem S_q {k v : Int} {E : Int → String} {X : Option (vR × vH)} (j : JG n m h a) (hk : k = 0) (C : cOut h a k v E X) : ∃ h1, X = some (.inl (some (0, v)), h1) ∧ JG n (m + 1) h1 a := by
  obtain ⟨h1, e, c, r, t⟩ := C
  rw [if_pos hk] at e
  have b := j.2.2.2
  have b1 := b.1
  have b2 := b.2.1
  exact ⟨h1, e, c, j.2.1, iD_kR r j.2.2.1, by have := t.1; omega, by have := t.2; omega, sC_of (fun k i => r k 2 i (by omega)) b.2.2⟩
theorem S_e {k v : Int} {E : Int → String} {X : Option (vR × vH)} {b : vH} (j : JG n m h a) (C : cOutN h b k v E X) (P : iP (n + 1) b) : ∃ h1, X = some (if k = 0 then .inl (some (0, v)) else .inr (E k), h1) ∧ JG (n + 1) (m + 1) h1 b := by
  obtain ⟨h1, e, c, r, i, t⟩ := C
  have z := j.2.2.2
  have b1 := z.1
  have b2 := z.2.1
  exact ⟨h1, e, c, P, i, by have := t.1; omega, by have := t.2; omega, sC_of (fun k i => r k 2 i (by omega)) z.2.2⟩
theorem S_v {k : Int} {E : Int → String} {X : Option (vR × vH)} {b : vH} (j : JG n m h a) (hk : k = 0) (C : cOutV h b k E X) (P : iP (n + 1) b) : ∃ h1, X = some (.inl none, h1) ∧ JG (n + 1) (m + 1) h1 b := by
  obtain ⟨h1, e, c, r, t⟩ := C
  rw [if_pos hk] at e
  have z := j.2.2.2
  have b1 := z.1
  have b2 := z.2.1
  exact ⟨h1, e, c, P, iD_kR r j.2.2.1, by have := t.1; omega, by have := t.2; omega, sC_of (fun k i => r k 2 i (by omega)) z.2.2⟩
theorem S_lines (j : JG n m h a) : ∃ h1, vcl mX12_lines [(1, 3)] h = some (.inl (some (0, a 1504 282 0)), h1) ∧ JG n (m + 1) h1 a := S_q j rfl (Cq_lines j.1)
theorem S_length (j : JG n m h a) (hl : 0 ≤ l ∧ l < a 1504 282 0) : ∃ h1, vcl mX12_length [(1, 3), (0, l)] h = some (.inl (some (0, a 2 284 l)), h1) ∧ JG n (m + 1) h1 a := S_q j (if_pos hl) (Cq_length j.1)
theorem S_sign (j : JG n m h a) (hl : 0 ≤ l ∧ l < a 1504 282 0) (hx : 0 ≤ x ∧ x < a 2 284 l) : ∃ h1, vcl mX12_sign [(1, 3), (0, l), (0, x)] h = some (.inl (some (0, a 2 283 (80 * l + x))), h1) ∧ JG n (m + 1) h1 a := S_q j (k := kSg a l x) (by unfold kSg; rw [if_pos hl, if_pos hx]) (Cq_sign j.1 j.2.1.1.1.1)
theorem S_rows (j : JG n m h a) (hp : 0 ≤ p ∧ p < 4) : ∃ h1, vcl mX12_rows [(1, 3), (0, p)] h = some (.inl (some (0, mAll a p)), h1) ∧ JG n (m + 1) h1 a := S_q j (if_pos hp) (Cq_rows j.1 j.2.1.1.1.1)
theorem S_rowsOf (j : JG n m h a) (hp : 0 ≤ p ∧ p < 4) (hl : 0 ≤ l ∧ l < a 1504 282 0) : ∃ h1, vcl mX12_rowsOf [(1, 3), (0, p), (0, l)] h = some (.inl (some (0, mRC a p l)), h1) ∧ JG n (m + 1) h1 a := S_q j (if_pos ⟨hp, hl⟩) (Cq_rowsOf j.1 j.2.1.1.1.1)
theorem S_rowAt (j : JG n m h a) (hp : 0 ≤ p ∧ p < 4) (hl : 0 ≤ l ∧ l < a 1504 282 0) (hx : 0 ≤ x ∧ x ≤ a 2 284 l) (hs : 0 ≤ s ∧ s ≤ 1) : ∃ h1, vcl mX12_rowAt [(1, 3), (0, p), (0, l), (0, x), (0, s)] h = some (.inl (some (0, vRA a p l x s)), h1) ∧ JG n (m + 1) h1 a := S_q j (k := kRA a p l x s) (by unfold kRA; rw [if_pos ⟨hp, hl⟩, if_pos ⟨hx, hs⟩]) (Cq_rowAt j.1 j.2.1.1.1.1)
theorem S_lineAt (j : JG n m h a) (hp : 0 ≤ p ∧ p < 4) (hr : isRw a p r) : ∃ h1, vcl mX12_lineAt [(1, 3), (0, p), (0, r)] h = some (.inl (some (0, (mLn a p r : Int))), h1) ∧ JG n (m + 1) h1 a := S_q j (if_pos ⟨hp, hr⟩) (Cq_lineAt j.1 j.2.1.1.1.1)
theorem S_height (j : JG n m h a) (hp : 0 ≤ p ∧ p < 4) : ∃ h1, vcl mX12_height [(1, 3), (0, p)] h = some (.inl (some (0, a 2 310 p)), h1) ∧ JG n (m + 1) h1 a := S_q j (if_pos hp) (Cq_height j.1)
theorem S_shift (j : JG n m h a) (hp : 0 ≤ p ∧ p < 4) : ∃ h1, vcl mX12_shift [(1, 3), (0, p)] h = some (.inl (some (0, a 2 330 p)), h1) ∧ JG n (m + 1) h1 a := S_q j (if_pos hp) (Cq_shift j.1)
theorem S_cursor (j : JG n m h a) (hp : 0 ≤ p ∧ p < 4) (hx : 0 ≤ x ∧ x ≤ 5) : ∃ h1, vcl mX12_cursor [(1, 3), (0, p), (0, x)] h = some (.inl (some (0, vCu a p x)), h1) ∧ JG n (m + 1) h1 a := S_q j (k := kCu p x) (by unfold kCu; rw [if_pos hp, if_pos hx]) (Cq_cursor j.1 j.2.1.1.1.1)
/-- iP of what the calls leave -/
theorem iP_th {k : Int} (P : iP n a) : iP (n + 1) (th k a) := ⟨⟨iA_tk P.1.1, iV_up P.1.2.1 (by omega), P.1.2.2⟩, P.2.1, P.2.2⟩
theorem iP_insert (P : iP n a) (hn : 0 ≤ n ∧ n ≤ 9000) : iP (n + 1) (tIn a l x s) := by
  refine ⟨⟨iX_insert P.1.1, iV_up (iV_insert P.1.2.1 hn.1) (by omega), iVs_insert P.1.2.2⟩, ?_, ?_⟩ <;> unfold tIn
  · split
    · exact iS_of (a := th 0 a) (fun i => cm_o (by decide)) (fun i => cm_o (by decide)) P.2.1
    · exact P.2.1
  · by_cases k : kIn a l x s = 0
    · obtain ⟨z1, ⟨z2, z3⟩, z4⟩ := kIn_0.mp k
      rw [if_pos k]
      have l80 := P.1.1.1.1.2.2.1 l z1.1 (by have := P.1.1.1.1.2.1; omega)
      exact iSg_cm (a := th 0 a) P.2.2 z3 z1 z2 (by show a 2 284 l < 80; have : ¬ a 2 284 l = 80 := z4; omega) (iG_tk P.1.1.1)
    · rw [if_neg k]; exact P.2.2
theorem iP_remove (P : iP n a) (hn : 0 ≤ n ∧ n ≤ 9000) : iP (n + 1) (tRm a l f u) := by
  have N := iG_n6 (a := th 0 a) (iG_tk P.1.1.1)
  refine ⟨⟨iX_remove P.1.1, iV_up (iV_remove P.1.1 P.1.2.1 hn.1) (by omega), iVs_remove P.1.1 P.1.2.2⟩, ?_, ?_⟩ <;> unfold tRm
  · split
    · exact iS_of (a := th 0 a) (fun i => wd_o N (by omega)) (fun i => wd_o N (by omega)) P.2.1
    · exact P.2.1
  · by_cases k : kRm a l f u = 0
    · obtain ⟨z1, z2, z3⟩ := kRm_0.mp k
      rw [if_pos k]
      exact iSg_wd (a := th 0 a) P.2.2 (iG_tk P.1.1.1) z1 z3 z2.2
    · rw [if_neg k]; exact P.2.2
theorem iP_breakLine (P : iP n a) (hn : 0 ≤ n ∧ n ≤ 9000) : iP (n + 1) (tBl a l x) := by
  refine ⟨⟨iX_breakLine P.1.1, iV_breakLine P.1.1 P.1.2.1, iVs_breakLine P.1.2.2⟩, ?_, ?_⟩ <;> unfold tBl
  · split
    · exact iS_of (a := th 0 a) (fun i => bk_o (by omega) (by omega)) (fun i => bk_o (by omega) (by omega)) P.2.1
    · exact P.2.1
  · by_cases k : kBl a l x = 0
    · obtain ⟨z1, z2, z3⟩ := kBl_0.mp k
      have gl := P.1.1.1.1.2.1
      rw [if_pos k]
      exact iSg_bk (a := th 0 a) P.2.2 (iG_tk P.1.1.1) z1 (by show a 1504 282 0 < 60; have : ¬ a 1504 282 0 = 60 := z3; omega) z2
    · rw [if_neg k]; exact P.2.2
theorem iP_join (P : iP n a) (hn : 0 ≤ n ∧ n ≤ 9000) : iP (n + 1) (tJn a l) := by
  have N := iG_n6 (a := th 0 a) (iG_tk P.1.1.1)
  refine ⟨⟨iX_join P.1.1, iV_up (iV_join P.1.1 P.1.2.1) (by omega), iVs_join P.1.1 P.1.2.2⟩, ?_, ?_⟩ <;> unfold tJn
  · split
    · exact iS_of (a := th 0 a) (fun i => jd_o N (by omega) (by omega)) (fun i => jd_o N (by omega) (by omega)) P.2.1
    · exact P.2.1
  · by_cases k : kJn a l = 0
    · obtain ⟨z1, z2⟩ := kJn_0.mp k
      rw [if_pos k]
      exact iSg_jd (a := th 0 a) P.2.2 (iG_tk P.1.1.1) z1 z2
    · rw [if_neg k]; exact P.2.2
theorem iP_hide (P : iP n a) (hn : 0 ≤ n ∧ n ≤ 9000) : iP (n + 1) (tHd a p l f u) := by
  refine ⟨⟨iX_hide P.1.1, iV_up (iV_hide P.1.2.1 hn.1) (by omega), iVs_hide P.1.2.2⟩, ?_, ?_⟩ <;> unfold tHd <;> split
  · exact iS_of (a := th 0 a) (fun i => dA_o (by decide) (by omega)) (fun i => dA_o (by decide) (by omega)) P.2.1
  · exact P.2.1
  · exact iSg_of (a := th 0 a) (dA_o (by decide) (by omega)) (fun i => dA_o (by decide) (by omega)) (fun i => dA_o (by decide) (by omega)) P.2.2
  · exact P.2.2
theorem iP_addFold (P : iP n a) (hn : 0 ≤ n ∧ n ≤ 9000) : iP (n + 1) (tAf a p f u) := by
  refine ⟨⟨iX_addFold P.1.1, iV_up (iV_addFold P.1.2.1 hn.1) (by omega), iVs_addFold P.1.2.2⟩, ?_, ?_⟩ <;> unfold tAf <;> split
  · exact iS_of (a := th 0 a) (fun i => dA_o (by decide) (by omega)) (fun i => dA_o (by decide) (by omega)) P.2.1
  · exact P.2.1
  · exact iSg_of (a := th 0 a) (dA_o (by decide) (by omega)) (fun i => dA_o (by decide) (by omega)) (fun i => dA_o (by decide) (by omega)) P.2.2
  · exact P.2.2
theorem iP_addVirtual (P : iP n a) (hn : 0 ≤ n ∧ n ≤ 9000) : iP (n + 1) (tAv a p l f u) := by
  refine ⟨⟨iX_addVirtual P.1.1, iV_up (iV_addVirtual P.1.2.1 hn.1) (by omega), iVs_addVirtual P.1.2.2⟩, ?_, ?_⟩ <;> unfold tAv <;> split
  · exact iS_of (a := th 0 a) (fun i => dA_o (by decide) (by omega)) (fun i => dA_o (by decide) (by omega)) P.2.1
  · exact P.2.1
  · exact iSg_of (a := th 0 a) (dA_o (by decide) (by omega)) (fun i => dA_o (by decide) (by omega)) (fun i => dA_o (by decide) (by omega)) P.2.2
  · exact P.2.2
theorem iP_setClosed (P : iP n a) (hv : v = 0 ∨ v = 1) : iP (n + 1) (tSl a p x v) := by
  have i := P.1.1
  refine ⟨⟨iA_of (iX_setClosed i.1 i.2.1) ⟨iM_setClosed i.2.2.1, iC_setClosed i.2.2.2 hv⟩, iV_up (iV_setClosed P.1.2.1) (by omega), iVs_setClosed P.1.2.2⟩, ?_, ?_⟩ <;> unfold tSl <;> split
  · exact P.2.1
  · exact P.2.1
  · exact P.2.2
  · exact P.2.2
theorem iP_shape (P : iP n a) : iP (n + 1) (tSp a p w d s) := by
  have i := P.1.1
  refine ⟨⟨iA_of (iX_shape i.1 i.2.1) ⟨iM_shape i.2.2.1, iC_shape i.2.2.2⟩, iV_up (iV_shape P.1.2.1) (by omega), iVs_shape P.1.2.2⟩, ?_, ?_⟩ <;> unfold tSp <;> split
  · exact P.2.1
  · exact P.2.1
  · exact P.2.2
  · exact P.2.2
theorem iS_B {b : vH} (e : eqB p a b) (i : iS a) : iS b := iS_of (fun i => e _ _ _ (by omega)) (fun i => e _ _ _ (by omega)) i
theorem iSg_eB {b : vH} (e : eqB p a b) (i : iSg a) : iSg b := iSg_of (e _ _ _ (by omega)) (fun i => e _ _ _ (by omega)) (fun i => e _ _ _ (by omega)) i
theorem iSg_eL {b : vH} (e : eqL a b) (i : iSg a) : iSg b := iSg_of (e _ _ _ (by omega) (by omega)) (fun i => e _ _ _ (by omega) (by omega)) (fun i => e _ _ _ (by omega) (by omega)) i
theorem iS_lg (i : iS a) : iS (tLg a p d) := iS_of (fun i => by unfold tLg; split <;> (repeat' split) <;> (first | rfl | omega)) (fun i => lg_h) i
theorem iP_move (P : iP n a) : iP (n + 1) (tMv a p v) := by
  have i := P.1.1
  refine ⟨⟨iA_of (iX_move i.1 i.2.1) (iMC_move i.2.2), iV_up (iV_move P.1.2.1) (by omega), iVs_move P.1.2.2⟩, ?_, ?_⟩ <;> unfold tMv <;> split
  · exact iS_B eqB_Mk (iS_lg (a := th 0 a) P.2.1)
  · exact P.2.1
  · exact iSg_eB eqB_Mk (iSg_eL (a := th 0 a) eqL_lg P.2.2)
  · exact P.2.2
theorem iP_put (P : iP n a) : iP (n + 1) (tPu a p l x) := by
  have i := P.1.1
  refine ⟨⟨iA_of (iX_put i.1 i.2.1) (iMC_put i.2.2), iV_up (iV_put P.1.2.1) (by omega), iVs_put P.1.2.2⟩, ?_, ?_⟩ <;> unfold tPu <;> split
  · exact iS_B (a := th 0 a) (eqB_tr eqB_P1 eqB_lk) P.2.1
  · exact P.2.1
  · exact iSg_eB (a := th 0 a) (eqB_tr eqB_P1 eqB_lk) P.2.2
  · exact P.2.2
theorem iP_play (P : iP n a) : iP (n + 1) (tPy a p q) := by
  have i := P.1.1
  refine ⟨⟨iA_of (iX_play i.1 i.2.1) (iMC_play i.2.2), iV_up (iV_play P.1.2.1) (by omega), iVs_play P.1.2.2⟩, ?_, ?_⟩ <;> unfold tPy <;> split
  · exact iS_B (a := th 0 a) (plH_B _ _ _ _) P.2.1
  · exact P.2.1
  · exact iSg_eB (a := th 0 a) (plH_B _ _ _ _) P.2.2
  · exact P.2.2
theorem iP_type (P : iP n a) (hn : 0 ≤ n ∧ n ≤ 9000) : iP (n + 1) (tTy a p s) := by
  refine ⟨⟨(iX_type P.1.1 P.1.2.1 hn.1).1, iV_up (iX_type P.1.1 P.1.2.1 hn.1).2 (by omega), iVs_type P.1.2.2⟩, ?_, ?_⟩ <;> unfold tTy
  · split
    · exact iS_B eqB_T1 (iS_of (a := th 0 a) (fun i => cm_o (by decide)) (fun i => cm_o (by decide)) P.2.1)
    · exact P.2.1
  · by_cases k : kTy a p s = 0
    · obtain ⟨x1, V1, P1, H1, c1, c2, c3⟩ := ty_in P.1.1 P.1.2.1 hn.1 k
      rw [if_pos k]
      exact iSg_eB eqB_T1 (iSg_cm (a := th 0 a) P.2.2 (kTy_0.mp k).2.1 c1 c2 c3 (iG_tk P.1.1.1))
    · rw [if_neg k]; exact P.2.2
theorem iP_draw (P : iP n a) : iP (n + 1) (tDw a p) := by
  refine ⟨⟨iX_draw P.1.1, iV_up (iV_draw P.1.2.1) (by omega), iVs_draw P.1.2.2⟩, ?_, ?_⟩ <;> unfold tDw <;> split
  · exact iS_of (a := th 0 a) (fun i => dr_o (by decide)) (fun i => dr_o (by decide)) P.2.1
  · exact P.2.1
  · exact iSg_of (a := th 0 a) (dr_o (by decide)) (fun i => dr_o (by decide)) (fun i => dr_o (by decide)) P.2.2
  · exact P.2.2
theorem iP_open (P : iP n a) : iP (n + 1) (tOp a p) := by
  have i := P.1.1
  refine ⟨⟨iA_of (iX_open i.1 i.2.1) (iMC_open i.2.2), iV_up (iV_open P.1.2.1) (by omega), iVs_open P.1.2.2⟩, ?_, ?_⟩ <;> unfold tOp
  · by_cases z : kOp a p = 0
    · obtain ⟨z1, z2, z3⟩ := kOp_0.mp z
      rw [if_pos z]
      have e : ∀ r : Int, th 0 a 2 r = a 2 r := fun r => funext (fun _ => vup_k (by decide))
      refine iS_st (stB_op (iH_th i.2.1).1 (Or.inr rfl)) ⟨p, z1.1, z1.2, by unfold ud; rw [if_pos rfl]; decide⟩ ?_
      rw [e, e, e]
      omega
    · rw [if_neg z]; exact P.2.1
  · split
    · exact iSg_eL (a := th 0 a) eqL_st P.2.2
    · exact P.2.2
theorem iP_close (P : iP n a) : iP (n + 1) (tCs a p) := by
  have i := P.1.1
  refine ⟨⟨iA_of (iX_close i.1 i.2.1) (iMC_close i.2.2), iV_up (iV_close P.1.2.1) (by omega), iVs_close P.1.2.2⟩, ?_, ?_⟩ <;> unfold tCs
  · by_cases z : kCs a p = 0
    · obtain ⟨z1, z2, z3⟩ := kCs_0.mp z
      rw [if_pos z]
      have ge := on_ge z1 z2
      refine iS_st (stB_op (iH_th i.2.1).1 (Or.inl rfl)) (on_ex ?_) ?_
      · rw [th_e, on_dn z1 z2]; omega
      · rw [th_e, th_e, th_e]
        exact Int.le_trans (sN_dn i.2.1.1) i.2.1.2.2.2.1
    · rw [if_neg z]; exact P.2.1
  · split
    · exact iSg_eL (a := th 0 a) eqL_st P.2.2
    · exact P.2.2
theorem iP_share (P : iP n a) : iP (n + 1) (tSh a p w l s) := by
  have i := P.1.1
  refine ⟨⟨iA_of (iX_share i.1 i.2.1) (iMC_share i.2.2), iV_up (iV_share P.1.2.1) (by omega), iVs_share P.1.2.2⟩, ?_, ?_⟩ <;> unfold tSh
  · by_cases z : kSh a p w l s = 0
    · obtain ⟨z1, z2, z3⟩ := kSh_0.mp z
      rw [if_pos z]
      refine iS_st (stB_sh (iH_th i.2.1).1 z2) (iH_th i.2.1).2.1 ?_
      rw [th_e, th_e, th_e]
      by_cases y : a 2 289 p = 0
      · rw [sN_cl y]
        exact i.2.1.2.2.2.1
      · exact Int.not_lt.mp (fun w => z3 ⟨y, w⟩)
    · rw [if_neg z]; exact P.2.1
  · split
    · exact iSg_eL (a := th 0 a) eqL_st P.2.2
    · exact P.2.2
end SCL
