/-! draw: pictures are taken and compared -/
/-- a picture tells what was drawn -/
def dT (h : vH) (D : Int) (a : vH) (p : Int) : Prop := shPicture h D ∧ h 803 D 0 = a 2 329 p ∧ ∀ k, 0 ≤ k → k < a 2 329 p → h 2 (D + 2) k = a 2 327 (24 * p + k) ∧ h 2 (D + 3) k = a 2 328 (24 * p + k) ∧ ∀ c, 0 ≤ c → c < a 2 327 (24 * p + k) → h 2 (D + 1) (k * 131 + c) = a 2 326 (132 * (24 * p + k) + c)
section TP2
variable {h h2 h3 a b : vH} {p q P Q X l x s f t k c r S H D : Int}
theorem C_takePicture (g : iG a) (i : iH a) (V : iVs a) (hp : 0 ≤ p ∧ p < 4) (A : cAll h a) (R : cRd h a p (138 + 36 * p)) (eS : h 718 (138 + 36 * p) 0 = S) (hS : 138 ≤ S ∧ S ≤ 278) (ht : 0 ≤ t ∧ t < 7861) (hH : 0 ≤ H ∧ H ≤ 24) : ∃ h2, vcl mX5_takePicture [(1, 138 + 36 * p), (1, S), (0, t), (0, H)] h = some (.inl none, h2) ∧ cAll h2 a ∧ cRd h2 a p (138 + 36 * p) ∧ h2 718 (138 + 36 * p) 0 = S ∧ KR h h2 ∧ pT h2 S a p t H := by
  have al := mAll_in g.1 hp
  have shS : ∀ hx, cAll hx a → hx 718 (138 + 36 * p) 0 = S → shPicture hx S := fun hx Ax ex => by
    have pics := (Ax.2.2.1 p hp.1 hp.2).2.2
    rcases pics.2.2.1 with w | w
    · rw [← ex, w.2]; exact pics.2.1
    · rw [← ex, w.2]; exact pics.1
  have loop : ∀ (f : Nat) (k : Int) (hx : vH) (v5 : vv), k + f = H → 0 ≤ k → cAll hx a → cRd hx a p (138 + 36 * p) → hx 718 (138 + 36 * p) 0 = S → KR h hx → pT hx S a p t k → ∃ h2, vrun mX5_takePicture 7 [(1, 138 + 36 * p), (1, S), (0, t), (0, H), (0, t + k), v5] [] hx = some (.inl none, h2) ∧ cAll h2 a ∧ cRd h2 a p (138 + 36 * p) ∧ h2 718 (138 + 36 * p) 0 = S ∧ KR h h2 ∧ pT h2 S a p t H := by
    intro f
    induction f with
    | zero =>
      intro k hx v5 hf h0 Ax Rx ex K T
      have ek : k = H := by omega
      rw [ek] at T ⊢
      exact ⟨hx, (rX5_takePicture_7 (by omega) (by omega) Rx.2.1.1 (shS hx Ax ex)).trans (if_pos (by omega)), Ax, Rx, ex, K, T⟩
    | succ f ih =>
      intro k hx v5 hf h0 Ax Rx ex K T
      have e0 := rX5_takePicture_7 (x2 := t) (x3 := H) (x4 := t + k) (v5 := v5) (by omega) (by omega) Rx.2.1.1 (shS hx Ax ex)
      rw [if_neg (by omega), show hx 713 (138 + 36 * p) 0 = mAll a p from (cRd_n Rx).1] at e0
      by_cases z : mAll a p ≤ t + k
      · rw [if_pos z] at e0
        obtain ⟨T1, T2⟩ := T
        have T1' : hx 803 S 0 = k := T1
        have r0 := (show vcl mX6_addNothing [(1, S)] hx = _ from rX6_addNothing_0 (shS hx Ax ex))
        rw [T1', if_neg (by omega), if_pos (by omega)] at r0
        have x : sF S hx (vup (vup (vup hx 2 (S + 2) k (-1)) 2 (S + 3) k 0) 803 S 0 (k + 1)) := fun kk r i n => by
          unfold vup
          rw [if_neg (by omega), if_neg (by omega), if_neg (by omega)]
        obtain ⟨A2, R2⟩ := cAll_sF hp ex Ax Rx x
        obtain ⟨h2, q1, q2⟩ := ih (k + 1) _ v5 (by omega) (by omega) A2 R2 ((x _ _ _ (by omega)).trans ex) (KR_tr K (sF_KR hS x)) ⟨vup_s, fun k' u v => by
          by_cases y : k' = k
          · subst y
            have eN : dN a p t k' = -1 := if_neg (by omega)
            have eM : dM a p t k' = 0 := if_neg (by omega)
            refine ⟨?_, ?_, fun c s w => absurd w (by omega)⟩
            · rw [eN, vup_k (by decide), vup_r (by omega)]; exact vup_s
            · rw [eM, vup_k (by decide)]; exact vup_s
          · obtain ⟨w1, w2, w3⟩ := T2 k' u (by omega)
            refine ⟨?_, ?_, fun c s w => ?_⟩
            · rw [vup_k (by decide), vup_r (by omega), vup_i y]; exact w1
            · rw [vup_k (by decide), vup_i y, vup_r (by omega)]; exact w2
            · rw [vup_k (by decide), vup_r (by omega), vup_r (by omega)]; exact w3 c s w⟩
        refine ⟨h2, ?_, q2⟩
        rw [← Int.add_assoc] at q1
        exact e0.trans ((vret_n r0).trans ((rX5_takePicture_68 (by omega) (by omega)).trans q1))
      · rw [if_neg z] at e0
        have Rw : isRw a p (t + k) := isRw_all.mpr ⟨by omega, by omega⟩
        obtain ⟨l1, j1, j2, vv', r7⟩ := rw_in g.1 hp Rw
        have ma := mRA_in g.1 hp (mLn a p (t + k)) (by omega)
        obtain ⟨h3, m1, m2, m3, m4⟩ := C_measured g hp Rx.1 Rx.2.1 Rx.2.2.2.1 (l := mLn a p (t + k)) ⟨l1.1, l1.2.1⟩
        have c2 := cRd_qM (by omega) m2 Rx m3
        obtain ⟨h4, t1, t2, c3, t4, t5⟩ := C_laidT g hp (by omega) c2 m4 l1.1
        have cA := cAll_qM hp m2 Ax c2
        have cB := cAll_qM hp t2 cA c3
        have eS4 : h4 718 (138 + 36 * p) 0 = S := (t2 _ _ _ (by omega)).trans ((m2 _ _ _ (by omega)).trans ex)
        have T4 : pT h4 S a p t k := by
          have eq : ∀ (kk : Nat) (r i : Int), (kk = 803 ∧ r = S ∨ kk = 2 ∧ S + 1 ≤ r ∧ r ≤ S + 3) → h4 kk r i = hx kk r i := fun kk r i w => by
            have hS' : S = 138 + 36 * p + 28 ∨ S = 138 + 36 * p + 32 := by
              rw [← ex]
              exact (Ax.2.2.1 p hp.1 hp.2).2.2.2.2.1.elim (fun w => Or.inr w.2) (fun w => Or.inl w.2)
            exact (t2 kk r i (by omega)).trans (m2 kk r i (by omega))
          obtain ⟨T1, T2⟩ := T
          refine ⟨(eq _ _ _ (by omega)).trans T1, fun k' u v => ?_⟩
          obtain ⟨w1, w2, w3⟩ := T2 k' u v
          exact ⟨(eq _ _ _ (by omega)).trans w1, (eq _ _ _ (by omega)).trans w2, fun c s w => (eq _ _ _ (by omega)).trans (w3 c s w)⟩
        have f2 := (cRd_f g.1 c3 (l := mLn a p (t + k)) l1.2.1).2
        obtain ⟨h5, r1, r2, r3⟩ := C_addRow g i V hp cB c3 eS4 hS ht.1 ⟨h0, by omega⟩ (by omega) T4 t4 t5
        obtain ⟨A5, R5⟩ := cAll_sF hp eS4 cB c3 r2
        have K4 : KR h h4 := KR_tr K (KR_tr (kR_qC hp (qM_C m2)) (kR_qC hp (qM_C t2)))
        obtain ⟨h6, q1, q2⟩ := ih (k + 1) h5 (0, mLn a p (t + k)) (by omega) (by omega) A5 R5 ((r2 _ _ _ (by omega)).trans eS4) (KR_tr K4 (sF_KR hS r2)) r3
        refine ⟨h6, ?_, q2⟩
        rw [← Int.add_assoc] at q1
        have e44 := rX5_takePicture_44 (x0 := 138 + 36 * p) (x1 := S) (x2 := t) (x3 := H) (x4 := t + k) (x5 := (mLn a p (t + k) : Int)) (y0 := 138 + 36 * p + 5) (y1 := S) (h := h4) c3.2.1.1 (by rw [f2]; omega) (by rw [f2]; omega)
        rw [f2, ← j1] at e44
        exact e0.trans ((vret_v (C_lineOfRow g.1 hp Rx Rw)).trans ((rX5_takePicture_30 Rx.2.1.1).trans ((vret_v m1).trans ((rX5_takePicture_38 c2.2.1.1).trans ((vret_v t1).trans (e44.trans ((vret_v (C_marksOfRow g hp c3 Rw)).trans ((rX5_takePicture_58 (shS h4 cB eS4)).trans ((vret_n r1).trans ((rX5_takePicture_61 (by omega) (by omega)).trans q1))))))))))
  have x0 : sF S h (vup h 803 S 0 0) := fun kk r i n => if_neg (fun w => n (Or.inr ⟨w.1, w.2.1⟩))
  obtain ⟨A0, R0⟩ := cAll_sF hp eS A R x0
  obtain ⟨h2, q1, q2⟩ := loop H.toNat 0 (vup h 803 S 0 0) (9, 0) (by omega) (Int.le_refl _) A0 R0 ((x0 _ _ _ (by omega)).trans eS) (sF_KR hS x0) ⟨vup_s, fun k' u v => by omega⟩
  rw [Int.add_zero] at q1
  have st := (show vcl mX6_start [(1, S)] h = _ from rX6_start_0 (shS h A eS))
  exact ⟨h2, (show _ = _ from rX5_takePicture_0 (shS h A eS)).trans ((vret_n st).trans (rX5_takePicture_4.trans q1)), q2⟩
theorem C_picSame (g : iG a) (i : iH a) (hp : 0 ≤ p ∧ p < 4) (ht : 0 ≤ t) (hH : H ≤ 24) (sS : shPicture h S) (T : pT h S a p t H) (DT : dT h D a p) (hk : 0 ≤ k ∧ k < H) {at_ : Int} : vcl mX6_isSame [(1, S), (0, k), (1, D), (0, at_)] h = some (.inl (some (0, b2i (sameR a p t k at_))), h) := by
  have dr := (i.2.2.2.2.2.1 p hp.1 hp.2).1
  obtain ⟨D1, D2, D3⟩ := DT
  obtain ⟨T1, T2, T3⟩ := T.2 k hk.1 hk.2
  have dn := dN_in g hp ht hk.1
  have e0 := (show vcl mX6_isSame [(1, S), (0, k), (1, D), (0, at_)] h = _ from rX6_isSame_0 (x1 := k) (x3 := at_) D1 sS)
  rw [if_neg (by omega), if_neg (by omega), show h 803 D 0 = a 2 329 p from D2] at e0
  by_cases z : 0 ≤ at_ ∧ at_ < a 2 329 p
  · obtain ⟨F1, F2, F3⟩ := D3 at_ z.1 z.2
    rw [if_neg (by omega), if_neg (by omega), if_pos (by omega), T1, T2, F1, F2] at e0
    by_cases y1 : dN a p t k = a 2 327 (24 * p + at_)
    · rw [if_pos y1] at e0
      by_cases y2 : dM a p t k = a 2 328 (24 * p + at_)
      · rw [if_pos y2] at e0
        have loop : ∀ (f : Nat) (c : Int), c + f = 131 → 0 ≤ c → vrun mX6_isSame 65 [(1, S), (0, k), (1, D), (0, at_), (0, c)] [] h = some (.inl (some (0, b2i (∀ c', c ≤ c' → c' < dN a p t k → pkV a p (t + k) c' = a 2 326 (132 * (24 * p + at_) + c')))), h) := by
          intro f
          induction f with
          | zero =>
            intro c hf h0
            rw [b2i_t (fun c' u v => absurd v (by omega))]
            exact (rX6_isSame_65 (x1 := k) (x3 := at_) (x4 := c) sS hk.1 (by omega) (by omega) (by omega) (by omega) (by omega) (by omega) (by omega) D1 (by omega) (by omega) (by omega) (by omega) (by omega) (by omega) (by omega)).trans (if_pos (by omega))
          | succ f ih =>
            intro c hf h0
            have e1 := rX6_isSame_65 (x1 := k) (x3 := at_) (x4 := c) sS hk.1 (by omega) (by omega) (by omega) (by omega) (by omega) (by omega) (by omega) D1 (by omega) (by omega) (by omega) (by omega) (by omega) (by omega) (by omega)
            rw [T1] at e1
            by_cases d : dN a p t k ≤ c
            · rw [if_pos d] at e1
              rw [b2i_t (fun c' u v => absurd v (by omega))]
              exact e1
            · rw [if_neg d, if_neg (by omega), T3 c h0 (by omega), F3 c h0 (by omega)] at e1
              by_cases w : pkV a p (t + k) c = a 2 326 (132 * (24 * p + at_) + c)
              · rw [if_pos w] at e1
                refine e1.trans ((ih (c + 1) (by omega) (by omega)).trans ?_)
                rw [b2i_c (show (∀ c', c + 1 ≤ c' → c' < dN a p t k → pkV a p (t + k) c' = a 2 326 (132 * (24 * p + at_) + c')) ↔ (∀ c', c ≤ c' → c' < dN a p t k → pkV a p (t + k) c' = a 2 326 (132 * (24 * p + at_) + c')) from ⟨fun q c' u v => by
                  by_cases s : c' = c
                  · rw [s]; exact w
                  · exact q c' (by omega) v, fun q c' u v => q c' (by omega) v⟩)]
              · rw [if_neg w] at e1
                rw [b2i_f (fun q => w (q c (Int.le_refl _) (by omega)))]
                exact e1
        refine e0.trans ((loop 131 0 (by decide) (Int.le_refl _)).trans ?_)
        rw [b2i_c (show (∀ c', 0 ≤ c' → c' < dN a p t k → pkV a p (t + k) c' = a 2 326 (132 * (24 * p + at_) + c')) ↔ sameR a p t k at_ from ⟨fun q => ⟨z, ⟨y1, y2⟩, q⟩, fun q => q.2.2⟩)]
      · rw [if_neg y2] at e0
        rw [b2i_f (fun w => y2 w.2.1.2)]
        exact e0
    · rw [if_neg y1] at e0
      rw [b2i_f (fun w => y1 w.2.1.1)]
      exact e0
  · rw [b2i_f (fun w => z w.1)]
    by_cases y : at_ < 0
    · rw [if_pos y] at e0; exact e0
    · rw [if_neg y, if_pos (by omega)] at e0; exact e0
theorem C_differ (g : iG a) (i : iH a) (hp : 0 ≤ p ∧ p < 4) (ht : 0 ≤ t) (hH : 0 ≤ H ∧ H ≤ 24) (sS : shPicture h S) (T : pT h S a p t H) (DT : dT h D a p) {by_ : Int} (hb : -24 ≤ by_ ∧ by_ ≤ 24) : vcl mX6_differentRows [(1, S), (1, D), (0, by_)] h = some (.inl (some (0, tD a p t by_ H.toNat)), h) := by
  have T1 : h 803 S 0 = H := T.1
  have loop : ∀ (f k : Nat), (k : Int) + f = H → vrun mX6_differentRows 5 [(1, S), (1, D), (0, by_), (0, tD a p t by_ k), (0, (k : Int))] [] h = some (.inl (some (0, tD a p t by_ H.toNat)), h) := by
    intro f
    induction f with
    | zero =>
      intro k hk
      rw [show H.toNat = k by omega]
      exact (rX6_differentRows_5 sS (by omega) (by omega)).trans (if_pos (by omega))
    | succ f ih =>
      intro k hk
      have q := tD_in (a := a) (p := p) (t := t) (by_ := by_) k
      have e1 := C_picSame g i hp ht hH.2 sS T DT (k := (k : Int)) ⟨by omega, by omega⟩ (at_ := (k : Int) + by_)
      have ih' := ih (k + 1) (by omega)
      rw [show (((k + 1 : Nat)) : Int) = (k : Int) + 1 by omega] at ih'
      have e2 := rX6_differentRows_25 (x0 := S) (x1 := D) (x2 := by_) (x3 := tD a p t by_ k) (x4 := (k : Int)) (y0 := b2i (sameR a p t k (k + by_))) (h := h) (by omega) (by omega) (by omega) (by omega)
      have e3 : (if b2i (sameR a p t k (k + by_)) = 0 then tD a p t by_ k + 1 else tD a p t by_ k) = tD a p t by_ (k + 1) := by
        show _ = tD a p t by_ k + (if b2i (sameR a p t k (k + by_)) = 0 then 1 else 0)
        split <;> omega
      rw [e3] at e2
      exact (rX6_differentRows_5 sS (by omega) (by omega)).trans ((if_neg (by omega)).trans ((vret_v e1).trans (e2.trans ih')))
  exact (show _ = _ from rX6_differentRows_0).trans (loop H.toNat 0 (by omega))
end TP2

