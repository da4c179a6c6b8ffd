/-! draw: the class takes its picture -/
section TPI
variable {h h2 h3 a b : vH} {p q P Q X l x s f t k c r S H : Int}
theorem C_addRow (g : iG a) (i : iH a) (V : iVs a) (hp : 0 ≤ p ∧ p < 4) (A : cAll h a) (R : cRd h a p (138 + 36 * p)) (eS : h 718 (138 + 36 * p) 0 = S) (hS : 138 ≤ S ∧ S ≤ 278) (ht : 0 ≤ t) (hk : 0 ≤ k ∧ k < 24) (z : t + k < mAll a p) (T : pT h S a p t k) (el : h 715 (138 + 36 * p) 0 = mLn a p (t + k)) (et : h 716 (138 + 36 * p) 0 = 1) : ∃ h2, vcl mX6_addRow [(1, S), (1, 138 + 36 * p + 5), (0, (rwJ a p (t + k) : Int)), (0, mkV a p (t + k))] h = some (.inl none, h2) ∧ sF S h h2 ∧ pT h2 S a p t (k + 1) := by
  have al := mAll_in g.1 hp
  have Rw : isRw a p (t + k) := isRw_all.mpr ⟨by omega, z⟩
  have vin := fun c w => vCe_in g i V hp Rw (c := c) w
  have ctin := vCt_in g hp Rw
  obtain ⟨l1, j1, j2, vv, r7⟩ := rw_in g.1 hp Rw
  have ma := mRA_in g.1 hp (mLn a p (t + k)) (by omega)
  have pics := (A.2.2.1 p hp.1 hp.2).2.2
  have shS : shPicture h S := by
    rcases pics.2.2.1 with w | w
    · rw [← eS, w.2]; exact pics.2.1
    · rw [← eS, w.2]; exact pics.1
  -- what the layout tells
  have lay : ∀ hx, sF S h hx → ∃ n : Nat, cQ hx (138 + 36 * p + 5) (mCL a p (mLn a p (t + k))) (a 2 286 p) (a 2 287 p) n ∧ cQt hx (138 + 36 * p + 5) (mCL a p (mLn a p (t + k))) (a 2 286 p) (a 2 287 p) ∧ rwJ a p (t + k) < n := fun hx x => by
    have hS' : S = 138 + 36 * p + 28 ∨ S = 138 + 36 * p + 32 := by
      rw [← eS]
      exact pics.2.2.1.elim (fun w => Or.inr w.2) (fun w => Or.inl w.2)
    obtain ⟨-, r2⟩ := cAll_sF hp eS A R x
    obtain ⟨n, q, ql, qt, qr⟩ := cRd_Q g hp r2 ((x _ _ _ (by omega)).trans el) l1.1
    have q3 := qr vv
    exact ⟨n, q, qt ((x _ _ _ (by omega)).trans et), by omega⟩
  obtain ⟨n0, q0, qt0, j0⟩ := lay h (fun _ _ _ _ => rfl)
  have s0 := cQ_st q0 (j := rwJ a p (t + k)) (by omega)
  have s1 := cQ_st q0 (j := rwJ a p (t + k) + 1) (by omega)
  rw [show ((rwJ a p (t + k) + 1 : Nat) : Int) = (rwJ a p (t + k) : Int) + 1 by omega] at s1
  have qi := cQ_in q0 (rwJ a p (t + k))
  have n131 := q0.2.2.2.2.2.1
  have eC : rSt (sg (mCL a p (mLn a p (t + k)))) (mCL a p (mLn a p (t + k))).length (a 2 286 p) (a 2 287 p) (rwJ a p (t + k) + 1) - rSt (sg (mCL a p (mLn a p (t + k)))) (mCL a p (mLn a p (t + k))).length (a 2 286 p) (a 2 287 p) (rwJ a p (t + k)) = vCt a p (t + k) := rfl
  have ci : fX3_cellsIn h (138 + 36 * p + 5) (rwJ a p (t + k)) = vCt a p (t + k) := by
    unfold fX3_cellsIn
    rw [s0, s1]
    exact eC
  obtain ⟨T1, T2⟩ := T
  have T1' : h 803 S 0 = k := T1
  have e0 := (show vcl mX6_addRow [(1, S), (1, 138 + 36 * p + 5), (0, (rwJ a p (t + k) : Int)), (0, mkV a p (t + k))] h = _ from rX6_addRow_0 (x2 := (rwJ a p (t + k) : Int)) (x3 := mkV a p (t + k)) shS q0.1 (by omega) (by omega) (by rw [s0, s1]; omega) (by rw [s0, s1]; omega))
  rw [T1', ci, if_neg (by omega), if_pos (by omega), show min (vCt a p (t + k)) 131 = vCt a p (t + k) by omega] at e0
  have loop : ∀ (f : Nat) (c : Int) (hx : vH), c + f = vCt a p (t + k) → 0 ≤ c → sF S h hx → hx 803 S 0 = k → (∀ i, hx 2 (S + 2) i = h 2 (S + 2) i ∧ hx 2 (S + 3) i = h 2 (S + 3) i) → (∀ i, ¬ (k * 131 ≤ i ∧ i < k * 131 + 131) → hx 2 (S + 1) i = h 2 (S + 1) i) → (∀ c', 0 ≤ c' → c' < c → hx 2 (S + 1) (k * 131 + c') = pkV a p (t + k) c') → ∃ hy, vrun mX6_addRow 33 [(1, S), (1, 138 + 36 * p + 5), (0, (rwJ a p (t + k) : Int)), (0, mkV a p (t + k)), (0, vCt a p (t + k)), (0, c)] [] hx = some (.inl none, vup (vup (vup hy 2 (S + 2) k (vCt a p (t + k))) 2 (S + 3) k (mkV a p (t + k))) 803 S 0 (k + 1)) ∧ sF S h hy ∧ (∀ i, hy 2 (S + 2) i = h 2 (S + 2) i ∧ hy 2 (S + 3) i = h 2 (S + 3) i) ∧ (∀ i, ¬ (k * 131 ≤ i ∧ i < k * 131 + 131) → hy 2 (S + 1) i = h 2 (S + 1) i) ∧ ∀ c', 0 ≤ c' → c' < vCt a p (t + k) → hy 2 (S + 1) (k * 131 + c') = pkV a p (t + k) c' := by
    intro f
    induction f with
    | zero =>
      intro c hx hf h0 x ek e23 eo ec
      have e5 : c = vCt a p (t + k) := by omega
      subst e5
      have sS : shPicture hx S := shPicture_sx (fun k r i z => x k r i (fun w => by
        rcases w with w | w
        · exact (n2k z).1 w.1
        · rw [w.1] at z; cases z)) shS
      obtain ⟨n1, q1, qt1, j1'⟩ := lay hx x
      have r0 := rX6_addRow_33 (x2 := (rwJ a p (t + k) : Int)) (x3 := mkV a p (t + k)) (x4 := vCt a p (t + k)) (x5 := vCt a p (t + k)) sS (by rw [ek]; omega) (by rw [ek]; omega) (by omega) (by omega) (by omega) (by omega) q1.1 (by omega) (by omega) (by omega) (by omega) (by omega) (by omega) (by omega) (by omega) (by omega) (by omega)
      rw [ek, if_pos (by omega)] at r0
      exact ⟨hx, r0, x, e23, eo, ec⟩
    | succ f ih =>
      intro c hx hf h0 x ek e23 eo ec
      have sS : shPicture hx S := shPicture_sx (fun k r i z => x k r i (fun w => by
        rcases w with w | w
        · exact (n2k z).1 w.1
        · rw [w.1] at z; cases z)) shS
      obtain ⟨n1, q1, qt1, j1'⟩ := lay hx x
      have u0 := cQ_st q1 (j := rwJ a p (t + k)) (by omega)
      have u1 := cQ_st q1 (j := rwJ a p (t + k) + 1) (by omega)
      rw [show ((rwJ a p (t + k) + 1 : Nat) : Int) = (rwJ a p (t + k) : Int) + 1 by omega] at u1
      have on := C_onScreen q1 qt1 (j := rwJ a p (t + k)) (by omega) h0
      rw [if_neg (by omega)] at on
      have eI : ceI a p (t + k) c = lS (sg (mCL a p (mLn a p (t + k)))) (mCL a p (mLn a p (t + k))).length (a 2 286 p) (a 2 287 p) (rSt (sg (mCL a p (mLn a p (t + k)))) (mCL a p (mLn a p (t + k))).length (a 2 286 p) (a 2 287 p) (rwJ a p (t + k)) + c) := rfl
      rw [← eI] at on
      have pf := (row_f q1.2.2.2.1 q1.2.2.2.2.1.1 q1.2.2.1.1 q1.2.2.1.2.1 (rwJ a p (t + k))).1 (rSt (sg (mCL a p (mLn a p (t + k)))) (mCL a p (mLn a p (t + k))).length (a 2 286 p) (a 2 287 p) (rwJ a p (t + k)) + c) (by omega) (by omega)
      rw [← eI] at pf
      have Z0 : 0 ≤ ceI a p (t + k) c ∧ ceI a p (t + k) c < (mCL a p (mLn a p (t + k))).length := by omega
      obtain ⟨g1, g2, g3, -⟩ := kCl_g q1.2.1 (k := ceI a p (t + k) c) Z0.1 Z0.2
      obtain ⟨t1, t2, t3⟩ := qt1 (ceI a p (t + k) c) Z0.1 Z0.2
      have w4 := cQ_w q1 (c := ceI a p (t + k) c) Z0.1 Z0.2
      have V0 := vin c ⟨h0, by omega⟩
      have pk : fX6_packed hx S (138 + 36 * p + 5) (fX3_onScreen hx (138 + 36 * p + 5) (rwJ a p (t + k)) c) = pkV a p (t + k) c := by
        rw [on]
        have b0 : fX3_tell hx (138 + 36 * p + 5) (ceI a p (t + k) c) 0 = vCe a p (t + k) c 0 := by
          unfold fX3_tell
          rw [if_neg (by omega), if_pos (by omega), if_pos rfl]
          exact g1
        have b1 : fX3_tell hx (138 + 36 * p + 5) (ceI a p (t + k) c) 1 = vCe a p (t + k) c 1 := by
          unfold fX3_tell
          rw [if_neg (by omega), if_pos (by omega), if_neg (by decide), if_pos rfl]
          exact g2
        have b2 : fX3_tell hx (138 + 36 * p + 5) (ceI a p (t + k) c) 2 = vCe a p (t + k) c 2 := by
          unfold fX3_tell
          rw [if_neg (by omega), if_pos (by omega), if_neg (by decide), if_neg (by decide), if_pos rfl]
          exact t3
        have b3 : fX3_tell hx (138 + 36 * p + 5) (ceI a p (t + k) c) 3 = vCe a p (t + k) c 3 := by
          unfold fX3_tell
          rw [if_neg (by omega), if_pos (by omega), if_neg (by decide), if_neg (by decide), if_neg (by decide), if_pos rfl]
          exact w4
        have b4 : fX3_tell hx (138 + 36 * p + 5) (ceI a p (t + k) c) 4 = vCe a p (t + k) c 4 := by
          unfold fX3_tell
          rw [if_neg (by omega), if_pos (by omega), if_neg (by decide), if_neg (by decide), if_neg (by decide), if_neg (by decide), if_pos rfl]
          exact t1
        unfold fX6_packed
        rw [b0, b1, b2, b3, b4]
        exact pack_n V0.1 V0.2.1 V0.2.2.1 V0.2.2.2.1 V0.2.2.2.2
      have e1 := rX6_addRow_33 (x2 := (rwJ a p (t + k) : Int)) (x3 := mkV a p (t + k)) (x4 := vCt a p (t + k)) (x5 := c) sS (by omega) (by omega) (by rw [ek]; omega) (by rw [ek]; omega) (by rw [ek]; omega) (by rw [ek]; omega) q1.1 (by rw [u0]; omega) (by rw [u0]; omega) (by omega) (by omega) (by rw [u0, u1]; omega) (by rw [u0, u1]; omega) (by rw [ek]; omega) (by rw [ek]; omega) (by omega) (by omega)
      rw [ek, pk, if_neg (by omega)] at e1
      obtain ⟨hy, q2, q3⟩ := ih (c + 1) (vup hx 2 (S + 1) (k * 131 + c) (pkV a p (t + k) c)) (by omega) (by omega) (fun kk r i n => (if_neg (fun w => n (Or.inl ⟨w.1, by omega, by omega⟩))).trans (x kk r i n)) ((vup_k (by decide)).trans ek) (fun i => ⟨(vup_r (by omega)).trans (e23 i).1, (vup_r (by omega)).trans (e23 i).2⟩) (fun i n => (vup_i (by omega)).trans (eo i n)) (fun c' u v => by
        rw [vup_2]
        by_cases y : k * 131 + c' = k * 131 + c
        · rw [if_pos y, show c' = c by omega]
        · rw [if_neg y]
          exact ec c' u (by omega))
      exact ⟨hy, e1.trans q2, q3⟩
  obtain ⟨hy, q1, q2, q3, q4, q5⟩ := loop (vCt a p (t + k)).toNat 0 h (by omega) (Int.le_refl _) (fun _ _ _ _ => rfl) T1' (fun _ => ⟨rfl, rfl⟩) (fun _ _ => rfl) (fun c' u v => by omega)
  refine ⟨_, e0.trans q1, fun kk r i n => ?_, vup_s, fun k' u v => ?_⟩
  · unfold vup
    rw [if_neg (by omega), if_neg (by omega), if_neg (by omega)]
    exact q2 kk r i n
  · have e2 : ∀ i, vup (vup (vup hy 2 (S + 2) k (vCt a p (t + k))) 2 (S + 3) k (mkV a p (t + k))) 803 S 0 (k + 1) 2 (S + 2) i = if i = k then vCt a p (t + k) else h 2 (S + 2) i := fun i => by
      rw [vup_k (by decide), vup_r (by omega), vup_2, (q3 i).1]
    have e3 : ∀ i, vup (vup (vup hy 2 (S + 2) k (vCt a p (t + k))) 2 (S + 3) k (mkV a p (t + k))) 803 S 0 (k + 1) 2 (S + 3) i = if i = k then mkV a p (t + k) else h 2 (S + 3) i := fun i => by
      rw [vup_k (by decide), vup_2, vup_r (by omega), (q3 i).2]
    have e1 : ∀ i, vup (vup (vup hy 2 (S + 2) k (vCt a p (t + k))) 2 (S + 3) k (mkV a p (t + k))) 803 S 0 (k + 1) 2 (S + 1) i = hy 2 (S + 1) i := fun i => by
      rw [vup_k (by decide), vup_r (by omega), vup_r (by omega)]
    by_cases y : k' = k
    · subst y
      have eN : dN a p t k' = vCt a p (t + k') := if_pos z
      have eM : dM a p t k' = mkV a p (t + k') := if_pos z
      refine ⟨by rw [e2, if_pos rfl, eN], by rw [e3, if_pos rfl, eM], fun c s w => ?_⟩
      rw [eN] at w
      rw [e1]
      exact q5 c s w
    · obtain ⟨w1, w2, w3⟩ := T2 k' u (by omega)
      have dn := dN_in g hp ht u
      refine ⟨by rw [e2, if_neg y]; exact w1, by rw [e3, if_neg y]; exact w2, fun c s w => ?_⟩
      rw [e1, q4 _ (by omega)]
      exact w3 c s w
end TPI

